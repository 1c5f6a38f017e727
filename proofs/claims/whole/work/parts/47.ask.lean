/-! the reference's questions -/
def zFrM (F f : Nat → Nat → Int) (G g : Nat → Int → Int) : Prop := (∀ x j, x ≠ 38 ∨ (j ≠ 0 ∧ j ≠ 21 ∧ j ≠ 22) → F x j = f x j) ∧ ∀ x j, x < 52 ∨ 56 < x → G x j = g x j
section Frm
variable {F f : Nat → Nat → Int} {G g : Nat → Int → Int}
theorem zFrM.d (h : zFrM F f G g) : zFrD F f G g := ⟨fun c j hc => h.1 c j (by unfold zDf at hc; omega), fun c j hc => h.2 c j (by unfold zDg at hc; omega)⟩
theorem zFrM.tr {F1 : Nat → Nat → Int} {G1 : Nat → Int → Int} (h : zFrM F F1 G G1) (h2 : zFrM F1 f G1 g) : zFrM F f G g := ⟨fun x j hx => (h.1 x j hx).trans (h2.1 x j hx), fun x j hx => (h.2 x j hx).trans (h2.2 x j hx)⟩
theorem zFrM.o (h : zFrO F f G g) : zFrM F f G g := ⟨fun x j hx => h.1 x j (by omega), fun x j hx => h.2 x j (by omega)⟩
theorem zFrM.z (f : Nat → Nat → Int) (g : Nat → Int → Int) (v : Int) : zFrM (am_u1 f 38 0 v) f g g := ⟨fun x j hx => am_u1_ne (by omega), fun _ _ _ => rfl⟩
theorem mRd_fr {N : Nat} {r : Int} {e : Int × List Int} (h : mRd g N r e) (h2 : ∀ j, G 52 j = g 52 j) (h3 : ∀ j, G 53 j = g 53 j) : mRd G N r e := ⟨by rw [h3]; exact h.1, fun k hk => by rw [h2]; exact h.2 k hk⟩
theorem mHo_fr {N : Nat} {T : List (Int × List Int)} (h : mHo f g N T) (h1 : F 38 22 = f 38 22) (h2 : ∀ j, G 52 j = g 52 j) (h3 : ∀ j, G 53 j = g 53 j) : mHo F G N T := by
  match T, h with
  | [], h => exact h1.trans h
  | [x], h => exact ⟨h1.trans h.1, mRd_fr h.2 h2 h3⟩
  | [x, y], h => exact ⟨h1.trans h.1, mRd_fr h.2.1 h2 h3, mRd_fr h.2.2 h2 h3⟩
theorem mRes_fr {T : List (Int × List Int)} (h : mRes f g T) (hd : zFrD F f G g) (h1 : F 38 22 = f 38 22) (h2 : ∀ j, G 52 j = g 52 j) (h3 : ∀ j, G 53 j = g 53 j) (h4 : G 55 0 = g 55 0 ∧ G 56 0 = g 56 0) : mRes F G T := by
  have e20 : F 2 0 = f 2 0 := hd.1 2 0 (by unfold zDf; omega)
  unfold mRes at h ⊢
  rw [e20, h4.1, h4.2]
  exact ⟨h.1, mHo_fr h.2.1 h1 h2 h3, fun u => zTw_c (fun e => (hd.vd _ e).symm) (h.2.2.1 u), h.2.2.2⟩
theorem mSS_fr (h : mSS f g) (hd : zFrD F f G g) (h0 : F 38 21 = f 38 21) (h1 : F 38 22 = f 38 22) (h2 : ∀ j, G 52 j = g 52 j) (h3 : ∀ j, G 53 j = g 53 j) (h4 : G 55 0 = g 55 0 ∧ G 56 0 = g 56 0) : mSS F G := by
  rcases h with h | ⟨h, T, hT⟩
  · exact Or.inl (h0.trans h)
  · exact Or.inr ⟨h0.trans h, T, mRes_fr hT hd h1 h2 h3 h4⟩
theorem mHo_n {N : Nat} {T : List (Int × List Int)} (h : mHo f g N T) : f 38 22 = T.length ∧ T.length ≤ 2 := by
  match T, h with
  | [], h => exact ⟨h, by decide⟩
  | [x], h => exact ⟨h.1, Nat.le_succ 1⟩
  | [x, y], h => exact ⟨h.1, Nat.le_refl 2⟩
theorem mHo_at {N : Nat} {T : List (Int × List Int)} (h : mHo f g N T) {x : Int} (hx : 0 ≤ x ∧ x < f 38 22) : ∃ e, T[x.toNat]? = some e ∧ mRd g N x e := by
  have hn := mHo_n h
  match T, h with
  | [], h =>
    have h : f 38 22 = 0 := h
    omega
  | [u], h =>
    have h1 := h.1
    obtain rfl : x = 0 := by omega
    exact ⟨u, rfl, h.2⟩
  | [u, w], h =>
    have h1 := h.1
    have : x = 0 ∨ x = 1 := by omega
    rcases this with rfl | rfl
    · exact ⟨u, rfl, h.2.1⟩
    · exact ⟨w, rfl, h.2.2⟩
theorem mRes_vd {T : List (Int × List Int)} (hI : zI f g) (h : mRes f g T) : ∀ e ∈ T, zVd f g (f 2 0).toNat e := by
  by_cases c : 0 < f 2 0
  · exact zTw_m (h.2.2.1 c)
  · have i1 := hI.1
    rw [h.2.2.2 (by omega)]
    intro e he
    cases he
end Frm
theorem zPa_c (g : Nat → Int → Int) (cs : Nat → Int) (k : Nat) : (zPa g cs (k + 1)).2.2 = if cs k = 4 then (zPa g cs k).2.2 else (zPa g cs k).2.2 + 1 := by
  simp only [zPa]
  split <;> split <;> rfl
def zDv (g : Nat → Int → Int) (N : Nat) (T : List (Int × List Int)) (x : Int) : Int := match T[x.toNat]? with
  | some e => (zPa g (zCs e) N).2.2
  | none => -1
def zSv (T : List (Int × List Int)) (x : Int) : Int := match T[x.toNat]? with
  | some e => e.1
  | none => -1
section Ask
variable {l : Launch} {dC : Nat → ClassId} {dI : Nat → Nat → Nat} {tc : Nat → ClassId} {f : Nat → Nat → Int} {g : Nat → Int → Int} {a b c : Nat}
variable {cs : Nat → Int}
set_option maxRecDepth 100000 in
set_option maxHeartbeats 4000000 in
theorem cm_isRank (x : Int) (hI : zI f g) (hD : zD f g) (hS : mSS f g) : am_Ct l dC dI tc mm6_isRank 5 58 [(.inr (.inr (some 38))), .inl x] (58, f, g, pr_r a b c) (fun r s => ∃ F G T, r = some (.inl (if 0 ≤ x ∧ x < 2 then 1 else 0)) ∧ s = (58, F, G, pr_r a b c) ∧ zFrM F f G g ∧ F 38 21 = 1 ∧ F 38 0 = 0 ∧ mRes F G T) := by
  have hf := zFrM.z f g 0
  have hS1 : mSS (am_u1 f 38 0 0) g := mSS_fr hS hf.d (am_u1_j (by decide)) (am_u1_j (by decide)) (fun _ => rfl) (fun _ => rfl) ⟨rfl, rfl⟩
  refine am_enter ok_6_isRank rfl (by decide) (Nat.le_of_ble_eq_true rfl) rfl ?_
  iterate 4 (refine am_go rfl (by first | exact True.intro | omega | exact ⟨by decide, Nat.le_of_ble_eq_true rfl, Nat.le_of_ble_eq_true rfl⟩ | exact ⟨by decide, Nat.le_of_ble_eq_true rfl⟩) ?_)
  refine am_call rfl (cm_look (hf.d.I hI) (hf.d.D hD) hS1) (by decide) (Nat.le_of_ble_eq_true rfl) (Nat.le_of_ble_eq_true rfl) (Nat.le_of_ble_eq_true rfl) (fun rv s q => ?_)
  obtain ⟨rfl, F, G, T, rfl, q1, q2, q3⟩ := q
  have h0 : F 38 0 = 0 := by rw [q1.1 38 0 (Or.inr (by decide)), am_u1_s]
  have hfr := (zFrM.o q1).tr hf
  (refine am_go rfl (by first | exact True.intro | omega | exact ⟨by decide, Nat.le_of_ble_eq_true rfl, Nat.le_of_ble_eq_true rfl⟩ | exact ⟨by decide, Nat.le_of_ble_eq_true rfl⟩) ?_)
  refine am_if rfl (fun c1 => ?_) (fun c1 => ?_)
  · (refine am_go rfl (by first | exact True.intro | omega | exact ⟨by decide, Nat.le_of_ble_eq_true rfl, Nat.le_of_ble_eq_true rfl⟩ | exact ⟨by decide, Nat.le_of_ble_eq_true rfl⟩) ?_)
    refine am_zret rfl rfl (by first | exact Or.inl rfl | exact Or.inr rfl) rfl ⟨F, G, T, by rw [if_neg (by omega)], rfl, hfr, q2, h0, q3⟩
  · iterate 2 (refine am_go rfl (by first | exact True.intro | omega | exact ⟨by decide, Nat.le_of_ble_eq_true rfl, Nat.le_of_ble_eq_true rfl⟩ | exact ⟨by decide, Nat.le_of_ble_eq_true rfl⟩) ?_)
    refine am_if rfl (fun c2 => ?_) (fun c2 => ?_)
    · (refine am_go rfl (by first | exact True.intro | omega | exact ⟨by decide, Nat.le_of_ble_eq_true rfl, Nat.le_of_ble_eq_true rfl⟩ | exact ⟨by decide, Nat.le_of_ble_eq_true rfl⟩) ?_)
      refine am_zret rfl rfl (by first | exact Or.inl rfl | exact Or.inr rfl) rfl ⟨F, G, T, by rw [if_neg (by omega)], rfl, hfr, q2, h0, q3⟩
    · iterate 2 (refine am_go rfl (by first | exact True.intro | omega | exact ⟨by decide, Nat.le_of_ble_eq_true rfl, Nat.le_of_ble_eq_true rfl⟩ | exact ⟨by decide, Nat.le_of_ble_eq_true rfl⟩) ?_)
      refine am_zret rfl rfl (by first | exact Or.inl rfl | exact Or.inr rfl) rfl ⟨F, G, T, by rw [if_pos (by omega)], rfl, hfr, q2, h0, q3⟩
set_option maxRecDepth 100000 in
set_option maxHeartbeats 4000000 in
theorem cm_there (x : Int) {e : Int × List Int} (hx : x = 0 ∨ x = 1) (hI : zI f g) (hD : zD f g) (hR : mRd g (f 2 0).toNat x e) : am_Ct l dC dI tc mm6_there 0 58 [(.inr (.inr (some 38))), .inl x] (58, f, g, pr_r a b c) (fun r s => r = some (.inl (zPa g (zCs e) (f 2 0).toNat).2.2) ∧ s = (58, f, g, pr_r a b c)) := by
  have i1 := hI.1
  have e1 := hD.pn
  have hxr : 0 ≤ x ∧ x ≤ 1 := by omega
  clear hx
  refine am_enter ok_6_there rfl (by decide) (Nat.le_of_ble_eq_true rfl) rfl ?_
  have loop : ∀ (m k : Nat) (n : Int), k + m = (f 2 0).toNat → n = (zPa g (zCs e) k).2.2 → am_wp l dC dI tc mm6_there 0 58 58 (fun r s => r = some (.inl (zPa g (zCs e) (f 2 0).toNat).2.2) ∧ s = (58, f, g, pr_r a b c)) 4 [some (.inr (.inr (some 38))), some (.inl x), some (.inl n), some (.inl (k : Int))] [] (58, f, g, pr_r a b c) := by
    intro m
    induction m with
    | zero =>
      intro k n hk hn
      iterate 3 (refine am_go rfl (by first | exact True.intro | omega | exact ⟨by decide, Nat.le_of_ble_eq_true rfl, Nat.le_of_ble_eq_true rfl⟩ | exact ⟨by decide, Nat.le_of_ble_eq_true rfl⟩) ?_)
      refine am_if rfl (fun c1 => ?_) (fun c1 => by omega)
      (refine am_go rfl (by first | exact True.intro | omega | exact ⟨by decide, Nat.le_of_ble_eq_true rfl, Nat.le_of_ble_eq_true rfl⟩ | exact ⟨by decide, Nat.le_of_ble_eq_true rfl⟩) ?_)
      exact am_iret rfl rfl rfl ⟨by rw [hn, show k = (f 2 0).toNat by omega], rfl⟩
    | succ m ih =>
      intro k n hk hn
      have hc := hR.2 k (by omega)
      have hp := zPa_n g (zCs e) k
      have hs := zPa_c g (zCs e) k
      iterate 3 (refine am_go rfl (by first | exact True.intro | omega | exact ⟨by decide, Nat.le_of_ble_eq_true rfl, Nat.le_of_ble_eq_true rfl⟩ | exact ⟨by decide, Nat.le_of_ble_eq_true rfl⟩) ?_)
      refine am_if rfl (fun c1 => by omega) (fun c1 => ?_)
      iterate 9 (refine am_go rfl (by first | exact True.intro | omega | exact ⟨by decide, Nat.le_of_ble_eq_true rfl, Nat.le_of_ble_eq_true rfl⟩ | exact ⟨by decide, Nat.le_of_ble_eq_true rfl⟩) ?_)
      rw [hc]
      refine am_if rfl (fun c2 => ?_) (fun c2 => ?_)
      · iterate 4 (refine am_go rfl (by first | exact True.intro | omega | exact ⟨by decide, Nat.le_of_ble_eq_true rfl, Nat.le_of_ble_eq_true rfl⟩ | exact ⟨by decide, Nat.le_of_ble_eq_true rfl⟩) ?_)
        exact ih (k + 1) _ (by omega) (by rw [hn, hs, if_pos c2])
      · iterate 7 (refine am_go rfl (by first | exact True.intro | omega | exact ⟨by decide, Nat.le_of_ble_eq_true rfl, Nat.le_of_ble_eq_true rfl⟩ | exact ⟨by decide, Nat.le_of_ble_eq_true rfl⟩) ?_)
        exact ih (k + 1) _ (by omega) (by rw [hn, hs, if_neg c2])
  iterate 4 (refine am_go rfl (by first | exact True.intro | omega | exact ⟨by decide, Nat.le_of_ble_eq_true rfl, Nat.le_of_ble_eq_true rfl⟩ | exact ⟨by decide, Nat.le_of_ble_eq_true rfl⟩) ?_)
  exact loop (f 2 0).toNat 0 0 (by omega) rfl
set_option maxRecDepth 100000 in
set_option maxHeartbeats 4000000 in
theorem cm_derive (x : Int) (hI : zI f g) (hD : zD f g) (hS : mSS f g) : am_Ct l dC dI tc mm6_derive 6 58 [(.inr (.inr (some 38))), .inl x] (58, f, g, pr_r a b c) (fun r s => ∃ F G T, s = (58, F, G, pr_r a b c) ∧ zFrM F f G g ∧ F 38 21 = 1 ∧ F 38 0 = 0 ∧ mRes F G T ∧ r = some (.inl (if x < 0 ∨ 2 ≤ x then -12 else zDv G (F 2 0).toNat T x))) := by
  refine am_enter ok_6_derive rfl (by decide) (Nat.le_of_ble_eq_true rfl) rfl ?_
  iterate 2 (refine am_go rfl (by first | exact True.intro | omega | exact ⟨by decide, Nat.le_of_ble_eq_true rfl, Nat.le_of_ble_eq_true rfl⟩ | exact ⟨by decide, Nat.le_of_ble_eq_true rfl⟩) ?_)
  refine am_call rfl (cm_isRank x hI hD hS) (by decide) (Nat.le_of_ble_eq_true rfl) (Nat.le_of_ble_eq_true rfl) (Nat.le_of_ble_eq_true rfl) (fun rv s q => ?_)
  obtain ⟨F, G, T, rfl, rfl, q1, q2, q3, q4⟩ := q
  have hn := mHo_n q4.2.1
  by_cases hx : 0 ≤ x ∧ x < 2
  · rw [if_pos hx]
    refine am_if rfl (fun c1 => ?_) (fun c1 => by omega)
    iterate 3 (refine am_go rfl (by first | exact True.intro | omega | exact ⟨by decide, Nat.le_of_ble_eq_true rfl, Nat.le_of_ble_eq_true rfl⟩ | exact ⟨by decide, Nat.le_of_ble_eq_true rfl⟩) ?_)
    refine am_if rfl (fun c2 => ?_) (fun c2 => ?_)
    · (refine am_go rfl (by first | exact True.intro | omega | exact ⟨by decide, Nat.le_of_ble_eq_true rfl, Nat.le_of_ble_eq_true rfl⟩ | exact ⟨by decide, Nat.le_of_ble_eq_true rfl⟩) ?_)
      refine am_iret rfl rfl rfl ⟨F, G, T, rfl, q1, q2, q3, q4, ?_⟩
      rw [if_neg (by omega)]
      have : T[x.toNat]? = none := List.getElem?_eq_none (by omega)
      simp only [zDv, this]
    · obtain ⟨e, e1, e2⟩ := mHo_at q4.2.1 (x := x) (by omega)
      iterate 2 (refine am_go rfl (by first | exact True.intro | omega | exact ⟨by decide, Nat.le_of_ble_eq_true rfl, Nat.le_of_ble_eq_true rfl⟩ | exact ⟨by decide, Nat.le_of_ble_eq_true rfl⟩) ?_)
      (refine am_callv rfl (cm_there x (by omega) (q1.d.I hI) (q1.d.D hD) e2) (by decide) (Nat.le_of_ble_eq_true rfl) (Nat.le_of_ble_eq_true rfl) ?_)
      (refine am_go rfl (by first | exact True.intro | omega | exact ⟨by decide, Nat.le_of_ble_eq_true rfl, Nat.le_of_ble_eq_true rfl⟩ | exact ⟨by decide, Nat.le_of_ble_eq_true rfl⟩) ?_)
      refine am_iret rfl rfl rfl ⟨F, G, T, rfl, q1, q2, q3, q4, ?_⟩
      rw [if_neg (by omega)]
      simp only [zDv, e1]
  · rw [if_neg hx]
    refine am_if rfl (fun c1 => by omega) (fun c1 => ?_)
    (refine am_go rfl (by first | exact True.intro | omega | exact ⟨by decide, Nat.le_of_ble_eq_true rfl, Nat.le_of_ble_eq_true rfl⟩ | exact ⟨by decide, Nat.le_of_ble_eq_true rfl⟩) ?_)
    refine am_iret rfl rfl rfl ⟨F, G, T, rfl, q1, q2, q3, q4, by rw [if_pos (by omega)]⟩
set_option maxRecDepth 100000 in
set_option maxHeartbeats 4000000 in
theorem cm_sum (x : Int) (hI : zI f g) (hD : zD f g) (hS : mSS f g) : am_Ct l dC dI tc mm6_sum 6 58 [(.inr (.inr (some 38))), .inl x] (58, f, g, pr_r a b c) (fun r s => ∃ F G T, s = (58, F, G, pr_r a b c) ∧ zFrM F f G g ∧ F 38 21 = 1 ∧ F 38 0 = 0 ∧ mRes F G T ∧ r = some (.inr (.inl (if x < 0 ∨ 2 ≤ x then -12 else zSv T x)))) := by
  refine am_enter ok_6_sum rfl (by decide) (Nat.le_of_ble_eq_true rfl) rfl ?_
  iterate 2 (refine am_go rfl (by first | exact True.intro | omega | exact ⟨by decide, Nat.le_of_ble_eq_true rfl, Nat.le_of_ble_eq_true rfl⟩ | exact ⟨by decide, Nat.le_of_ble_eq_true rfl⟩) ?_)
  refine am_call rfl (cm_isRank x hI hD hS) (by decide) (Nat.le_of_ble_eq_true rfl) (Nat.le_of_ble_eq_true rfl) (Nat.le_of_ble_eq_true rfl) (fun rv s q => ?_)
  obtain ⟨F, G, T, rfl, rfl, q1, q2, q3, q4⟩ := q
  have hn := mHo_n q4.2.1
  by_cases hx : 0 ≤ x ∧ x < 2
  · rw [if_pos hx]
    refine am_if rfl (fun c1 => ?_) (fun c1 => by omega)
    iterate 3 (refine am_go rfl (by first | exact True.intro | omega | exact ⟨by decide, Nat.le_of_ble_eq_true rfl, Nat.le_of_ble_eq_true rfl⟩ | exact ⟨by decide, Nat.le_of_ble_eq_true rfl⟩) ?_)
    refine am_if rfl (fun c2 => ?_) (fun c2 => ?_)
    · (refine am_go rfl (by first | exact True.intro | omega | exact ⟨by decide, Nat.le_of_ble_eq_true rfl, Nat.le_of_ble_eq_true rfl⟩ | exact ⟨by decide, Nat.le_of_ble_eq_true rfl⟩) ?_)
      refine am_lret rfl rfl rfl ⟨F, G, T, rfl, q1, q2, q3, q4, ?_⟩
      rw [if_neg (by omega)]
      have : T[x.toNat]? = none := List.getElem?_eq_none (by omega)
      simp only [zSv, this]
    · obtain ⟨e, e1, e2⟩ := mHo_at q4.2.1 (x := x) (by omega)
      have es := e2.1
      iterate 6 (refine am_go rfl (by first | exact True.intro | omega | exact ⟨by decide, Nat.le_of_ble_eq_true rfl, Nat.le_of_ble_eq_true rfl⟩ | exact ⟨by decide, Nat.le_of_ble_eq_true rfl⟩) ?_)
      refine am_lret rfl rfl rfl ⟨F, G, T, rfl, q1, q2, q3, q4, ?_⟩
      rw [if_neg (by omega), es]
      simp only [zSv, e1]
  · rw [if_neg hx]
    refine am_if rfl (fun c1 => by omega) (fun c1 => ?_)
    (refine am_go rfl (by first | exact True.intro | omega | exact ⟨by decide, Nat.le_of_ble_eq_true rfl, Nat.le_of_ble_eq_true rfl⟩ | exact ⟨by decide, Nat.le_of_ble_eq_true rfl⟩) ?_)
    refine am_lret rfl rfl rfl ⟨F, G, T, rfl, q1, q2, q3, q4, by rw [if_pos (by omega)]⟩
/-- the reference's rows hold the path, its end too -/
def zCh1 (g0 g : Nat → Int → Int) (cs : Nat → Int) (k : Nat) : Prop := (∀ j : Nat, j < k → g 54 j = cs j) ∧ ∀ j : Nat, j ≤ k → g 55 j = (zPa g0 cs j).1 ∧ g 56 j = (zPa g0 cs j).2.1
def zFrG (G g : Nat → Int → Int) : Prop := ∀ x j, x < 54 ∨ 56 < x → G x j = g x j
theorem zFrG.d {G g : Nat → Int → Int} (h : zFrG G g) (f : Nat → Nat → Int) : zFrD f f G g := ⟨fun _ _ _ => rfl, fun c j hc => h c j (by unfold zDg at hc; omega)⟩
set_option maxRecDepth 100000 in
set_option maxHeartbeats 4000000 in
theorem cm_again (x : Int) {e : Int × List Int} (hx : x = 0 ∨ x = 1) (hI : zI f g) (hD : zD f g) (hR : mRd g (f 2 0).toNat x e) (hV : zVd f g (f 2 0).toNat e) (h0 : g 55 0 = 0 ∧ g 56 0 = 0) : am_Ct l dC dI tc mm6_again 1 58 [(.inr (.inr (some 38))), .inl x] (58, f, g, pr_r a b c) (fun r s => r = none ∧ ∃ G, s = (58, f, G, pr_r a b c) ∧ zFrG G g ∧ zCh1 g G (zCs e) (f 2 0).toNat) := by
  have i1 := hI.1
  have i3 := hI.2.2.1
  have e5 := hD.pn
  have hxr : 0 ≤ x ∧ x ≤ 1 := by omega
  clear hx
  refine am_enter ok_6_again rfl (by decide) (Nat.le_of_ble_eq_true rfl) rfl ?_
  have loop : ∀ (m k : Nat) (o3 : Option am_V) (G : Nat → Int → Int), k + m = (f 2 0).toNat → zFrG G g → zCh1 g G (zCs e) k → am_wp l dC dI tc mm6_again 1 58 58 (fun r s => r = none ∧ ∃ G, s = (58, f, G, pr_r a b c) ∧ zFrG G g ∧ zCh1 g G (zCs e) (f 2 0).toNat) 2 [some (.inr (.inr (some 38))), some (.inl x), some (.inl (k : Int)), o3] [] (58, f, G, pr_r a b c) := by
    intro m
    induction m with
    | zero =>
      intro k o3 G hk h1 h2
      iterate 3 (refine am_go rfl (by first | exact True.intro | omega | exact ⟨by decide, Nat.le_of_ble_eq_true rfl, Nat.le_of_ble_eq_true rfl⟩ | exact ⟨by decide, Nat.le_of_ble_eq_true rfl⟩) ?_)
      refine am_if rfl (fun c1 => ?_) (fun c1 => by omega)
      obtain rfl : k = (f 2 0).toNat := by omega
      exact am_vret (x := 0) rfl rfl rfl ⟨rfl, G, rfl, h1, h2⟩
    | succ m ih =>
      intro k o3 G hk h1 h2
      have hc := hR.2 k (by omega)
      obtain ⟨hv, hg⟩ := hV.2.1 k (by omega)
      obtain ⟨v1, v2, v3⟩ := zVl_can.mp hv
      have v21 := v2.1
      have v22 := v2.2
      have hz := zZz_r hI hv
      have hp := zPl_r hI (zPa g (zCs e) k).1
      have hd1 : zFrG (am_u3 G 54 (k : Int) (zCs e k)) g := fun c j hc => by rw [am_u3_c (by omega)]; exact h1 c j hc
      have q54 : am_u3 G 54 (k : Int) (zCs e k) 54 k = zCs e k := am_u3_s
      have q55 : am_u3 G 54 (k : Int) (zCs e k) 55 k = (zPa g (zCs e) k).1 := by rw [am_u3_c (by decide)]; exact (h2.2 k (by omega)).1
      have q56 : am_u3 G 54 (k : Int) (zCs e k) 56 k = (zPa g (zCs e) k).2.1 := by rw [am_u3_c (by decide)]; exact (h2.2 k (by omega)).2
      iterate 3 (refine am_go rfl (by first | exact True.intro | omega | exact ⟨by decide, Nat.le_of_ble_eq_true rfl, Nat.le_of_ble_eq_true rfl⟩ | exact ⟨by decide, Nat.le_of_ble_eq_true rfl⟩) ?_)
      refine am_if rfl (fun c1 => by omega) (fun c1 => ?_)
      iterate 11 (refine am_go rfl (by first | exact True.intro | omega | exact ⟨by decide, Nat.le_of_ble_eq_true rfl, Nat.le_of_ble_eq_true rfl⟩ | exact ⟨by decide, Nat.le_of_ble_eq_true rfl⟩) ?_)
      rw [h1 52 _ (by decide), hc]
      iterate 3 (refine am_go rfl (by first | exact True.intro | omega | exact ⟨by decide, Nat.le_of_ble_eq_true rfl, Nat.le_of_ble_eq_true rfl⟩ | exact ⟨by decide, Nat.le_of_ble_eq_true rfl⟩) ?_)
      refine am_call rfl (cm_goes (k : Int) (zZz g (zCs e) k) ((hd1.d f).I hI) ((hd1.d f).D hD) (by omega) (by rw [q55]; omega) (by rw [q56]; omega) (by rw [q54, q56]; rfl) (by rw [q55]; exact hz.2.2)) (by decide) (Nat.le_of_ble_eq_true rfl) (Nat.le_of_ble_eq_true rfl) (Nat.le_of_ble_eq_true rfl) (fun rv s q => ?_)
      rw [q55, (hd1.d f).pl, (hd1.d f).2 5 _ (by unfold zDg; omega)] at q
      have go : ∀ (rv : Option am_V) (G2 : Nat → Int → Int), rv = some (.inl 1) → G2 = am_u3 (am_u3 (am_u3 G 54 (k : Int) (zCs e k)) 55 ((k : Int) + 1) (zPa g (zCs e) (k + 1)).1) 56 ((k : Int) + 1) (zPa g (zCs e) (k + 1)).2.1 → am_wp l dC dI tc mm6_again 1 58 58 (fun r s => r = none ∧ ∃ G, s = (58, f, G, pr_r a b c) ∧ zFrG G g ∧ zCh1 g G (zCs e) (f 2 0).toNat) 21 [some (.inr (.inr (some 38))), some (.inl x), some (.inl (k : Int)), o3] [.inl 1] (58, f, G2, pr_r a b c) := by
        intro rv G2 hrv hG2
        iterate 3 (refine am_go rfl (by first | exact True.intro | omega | exact ⟨by decide, Nat.le_of_ble_eq_true rfl, Nat.le_of_ble_eq_true rfl⟩ | exact ⟨by decide, Nat.le_of_ble_eq_true rfl⟩) ?_)
        refine ih (k + 1) _ G2 (by omega) (fun c j hc => by rw [hG2, am_u3_c (by omega), am_u3_c (by omega)]; exact hd1 c j hc) ⟨fun j hj => ?_, fun j hj => ?_⟩
        · rw [hG2, am_u3_c (by decide), am_u3_c (by decide)]
          by_cases c : j = k
          · rw [c]
            exact q54
          · rw [am_u3_j (by omega)]
            exact h2.1 j (by omega)
        · by_cases c : j = k + 1
          · subst c
            rw [show (((k + 1 : Nat)) : Int) = (k : Int) + 1 by omega]
            exact ⟨by rw [hG2, am_u3_c (by decide), am_u3_s], by rw [hG2, am_u3_s]⟩
          · have a55 : G2 55 j = G 55 j := by rw [hG2, am_u3_c (by decide), am_u3_j (by omega), am_u3_c (by decide)]
            have a56 : G2 56 j = G 56 j := by rw [hG2, am_u3_j (by omega), am_u3_c (by decide), am_u3_c (by decide)]
            rw [a55, a56]
            exact h2.2 j (by omega)
      have hps := zPa_s g (zCs e) k
      unfold zGo at hg
      rcases q with ⟨rfl, q1, q2, rfl⟩ | ⟨rfl, q1, rfl⟩ | ⟨rfl, q1, q2, rfl⟩
      · omega
      · rcases hps with ⟨w1, w2, w3⟩ | ⟨w1, w2, w3⟩
        · exact go _ _ rfl (by rw [w2, w3])
        · omega
      · rcases hps with ⟨w1, w2, w3⟩ | ⟨w1, w2, w3⟩
        · omega
        · exact go _ _ rfl (by rw [w2, w3])
  iterate 2 (refine am_go rfl (by first | exact True.intro | omega | exact ⟨by decide, Nat.le_of_ble_eq_true rfl, Nat.le_of_ble_eq_true rfl⟩ | exact ⟨by decide, Nat.le_of_ble_eq_true rfl⟩) ?_)
  refine loop (f 2 0).toNat 0 none g (by omega) (fun _ _ _ => rfl) ⟨fun j hj => by omega, fun j hj => ?_⟩
  have hj0 : j = 0 := Nat.le_zero.mp hj
  rw [hj0]
  exact h0
end Ask

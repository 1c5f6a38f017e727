/-! what readings rest on: the cells below 23 -/
def zFrB (G g : Nat → Int → Int) : Prop := ∀ c j, c < 23 ∧ c ≠ 1 ∧ (c < 6 ∨ 11 < c) → G c j = g c j
theorem zFrB.Pl {G g : Nat → Int → Int} (h : zFrB G g) (x : Int) : zPl G x = zPl g x := zPl_fr (fun j => h 13 j (by decide)) x
theorem zFrB.Na {G g : Nat → Int → Int} (h : zFrB G g) (x y : Int) : zNa G x y = zNa g x y := zNa_fr (fun j => h 14 j (by decide)) x y
theorem zFrB.Beh {G g : Nat → Int → Int} (h : zFrB G g) (x y z : Int) : zBeh G x y z = zBeh g x y z := by
  unfold zBeh
  rw [h 5 _ (by decide), h.Pl]
theorem zFrB.Kd {G g : Nat → Int → Int} (h : zFrB G g) (y z k : Int) : zKd G y z k ↔ zKd g y z k := by
  unfold zKd
  rw [h.Na]
  simp only [h 15 _ (by decide)]
theorem zFrB.Tn {G g : Nat → Int → Int} (h : zFrB G g) (x y z q : Int) : zTn G x y z q ↔ zTn g x y z q := by
  unfold zTn
  rw [h 4 _ (by decide), h 3 _ (by decide), h.Beh, h.Beh, h.Kd]
theorem zFrB.Re {G g : Nat → Int → Int} (h : zFrB G g) : ∀ (k : Nat) (j : Int), zRe G k j ↔ zRe g k j := by
  intro k
  induction k with
  | zero => intro j; exact Iff.rfl
  | succ k ih =>
    intro j
    simp only [zRe, ih, h.Tn]
theorem zFrB.Fit {G g : Nat → Int → Int} {F f : Nat → Nat → Int} (h : zFrB G g) (hf : F 18 0 = f 18 0) (k x y : Int) : zFit F G k x y ↔ zFit f g k x y := by
  unfold zFit
  rw [hf]
  simp only [h 19 _ (by decide), h 20 _ (by decide), h 21 _ (by decide)]
theorem zFrB.Mf {G g : Nat → Int → Int} {F f : Nat → Nat → Int} (h : zFrB G g) (hf : F 18 0 = f 18 0) (v k x : Int) : zMf F G v k x = zMf f g v k x := by
  unfold zMf
  by_cases u : v ≠ -1 ∧ (k = 2 ∨ k = 6) ∧ ¬ zFit f g k x v
  · rw [if_pos u, if_pos ⟨u.1, u.2.1, fun q => u.2.2 ((h.Fit hf k x v).mp q)⟩]
  · rw [if_neg u, if_neg (fun q => u ⟨q.1, q.2.1, fun p => q.2.2 ((h.Fit hf k x v).mpr p)⟩)]
theorem zFrB.Suf {G g : Nat → Int → Int} {F f : Nat → Nat → Int} (h : zFrB G g) (h12 : F 12 0 = f 12 0) (hf : F 18 0 = f 18 0) (v : Int) : ∀ (n : Nat) (x y z : Int), zSuf F G v n x y z = zSuf f g v n x y z := by
  intro n
  induction n with
  | zero => intro x y z; simp only [zSuf, h12]
  | succ n ih =>
    intro x y z
    simp only [zSuf, h.Na, h.Beh, h.Mf hf, h 3 _ (by decide), h 4 _ (by decide), h 15 _ (by decide), h 16 _ (by decide), h 17 _ (by decide), ih]
theorem zFrB.Pa {G g : Nat → Int → Int} (h : zFrB G g) (cs : Nat → Int) : ∀ k, zPa G cs k = zPa g cs k := by
  intro k
  induction k with
  | zero => rfl
  | succ k ih => simp only [zPa, ih, h 5 _ (by decide)]
theorem zFrB.Hd {G0 g0 : Nat → Int → Int} (h : zFrB G0 g0) {N : Nat} {f : Nat → Nat → Int} {g : Nat → Int → Int} {q : Nat} {e : Int × List Int} : zHd G0 N f g q e ↔ zHd g0 N f g q e := by
  unfold zHd
  simp only [h.Pa, h 3 _ (by decide), h 16 _ (by decide)]
theorem zFrB.RS {G0 g0 : Nat → Int → Int} (h : zFrB G0 g0) {N : Nat} {f : Nat → Nat → Int} {g : Nat → Int → Int} {a b : Nat} {T : List (Int × List Int)} : zRS G0 N f g a b T ↔ zRS g0 N f g a b T := by
  match T with
  | [] => exact Iff.rfl
  | [d] =>
    simp only [zRS, h.Hd]
  | [d, e] =>
    simp only [zRS, h.Hd]
  | _ :: _ :: _ :: _ => exact Iff.rfl
theorem zFrB.I {G g : Nat → Int → Int} {F f : Nat → Nat → Int} (h : zFrB G g) (h2 : F 2 0 = f 2 0) (h12 : F 12 0 = f 12 0) (h18 : F 18 0 = f 18 0) (hI : zI f g) : zI F G := by
  unfold zI at hI ⊢
  simp only [h2, h12, h18, h 3 _ (by decide), h 4 _ (by decide), h 5 _ (by decide), h 13 _ (by decide), h 14 _ (by decide), h 16 _ (by decide), h 17 _ (by decide)]
  exact hI
/-- what one assumed value adds -/
noncomputable def zOne (f : Nat → Nat → Int) (g : Nat → Int → Int) (T : List (Int × List Int)) (v : Int) : List (Int × List Int) := zAd (f 2 0).toNat (zt2 (zSuf f g v (f 2 0).toNat 0 0 0)) 1 (zAd (f 2 0).toNat (zt2 (zSuf f g v (f 2 0).toNat 0 0 0)) 0 T)
theorem zFrB.One {G g : Nat → Int → Int} {F f : Nat → Nat → Int} (h : zFrB G g) (h2 : F 2 0 = f 2 0) (h12 : F 12 0 = f 12 0) (h18 : F 18 0 = f 18 0) (T : List (Int × List Int)) (v : Int) : zOne F G T v = zOne f g T v := by
  unfold zOne
  rw [h2, h.Suf h12 h18]
/-- the list of the place's values as a list -/
def zVs (g : Nat → Int → Int) (n : Nat) : List Int := (List.range n).map (fun i : Nat => g 36 i)
/-- nothing has changed but the search's own cells -/
def zFrF (F f : Nat → Nat → Int) (G g : Nat → Int → Int) : Prop := (∀ x j, x ≠ 23 ∧ x ≠ 26 ∧ x ≠ 29 ∧ x ≠ 22 → F x j = f x j) ∧ ∀ x j, x < 23 ∨ 36 < x → G x j = g x j
section Fnd
variable {l : Launch} {dC : Nat → ClassId} {dI : Nat → Nat → Nat} {tc : Nat → ClassId} {f : Nat → Nat → Int} {g : Nat → Int → Int} {a b c : Nat}
abbrev zFP (f : Nat → Nat → Int) (g : Nat → Int → Int) : Option am_V → am_H → Prop := fun r s => r = none ∧ ∃ F G a' b' c', s = (58, F, G, pr_r a' b' c') ∧ zPm a' b' c' ∧ zFrF F f G g ∧ zAok G ∧ F 22 4 = 1 ∧ ((f 2 0 = 0 ∧ zRS g 0 F G a' b' []) ∨ (0 < f 2 0 ∧ zLr F G ∧ zRchd f G ∧ ∃ n : Nat, (zVs G n).Nodup ∧ (∀ v ∈ zVs G n, 0 ≤ v) ∧ ((n = 0 ∧ ∀ x, 0 ≤ x → x < f 2 0 → g 3 x ≠ 7) ∨ ∃ x, 0 ≤ x ∧ x < f 2 0 ∧ g 3 x = 7 ∧ ∀ v, zCov G x (f 12 0) 0 v → v ∈ zVs G n) ∧ zRS g (f 2 0).toNat F G a' b' ((-1 :: zVs G n).foldl (zOne f g) [])))
theorem zCov_fr {G g : Nat → Int → Int} (h : zFrB G g) (h32 : ∀ j, G 32 j = g 32 j) (x y z v : Int) : zCov G x y z v ↔ zCov g x y z v := by
  unfold zCov
  simp only [h.Pl, h.Na, h32, h 15 _ (by decide), h 16 _ (by decide)]
theorem zVs_mem {g : Nat → Int → Int} {n : Nat} {v : Int} : v ∈ zVs g n ↔ ∃ i : Nat, i < n ∧ g 36 i = v := by
  unfold zVs
  simp [List.mem_map]
theorem zVs_fr {G g : Nat → Int → Int} (h : ∀ j, G 36 j = g 36 j) (n : Nat) : zVs G n = zVs g n := by
  unfold zVs
  simp only [h]
theorem zVs_s (g : Nat → Int → Int) (n : Nat) : zVs g (n + 1) = zVs g n ++ [g 36 n] := by
  unfold zVs
  rw [List.range_succ, List.map_append]
  rfl
theorem zVs_nd {f : Nat → Nat → Int} {g : Nat → Int → Int} (h : ∀ i j, 0 ≤ i → i < f 22 13 → 0 ≤ j → j < f 22 13 → g 36 i = g 36 j → i = j) : ∀ n : Nat, (n : Int) ≤ f 22 13 → (zVs g n).Nodup := by
  intro n
  induction n with
  | zero => intro _; simp [zVs]
  | succ n ih =>
    intro hn
    rw [zVs_s, List.nodup_append]
    refine ⟨ih (by omega), by simp, fun u hu w hw => ?_⟩
    obtain ⟨i, i1, i2⟩ := zVs_mem.mp hu
    rw [List.mem_singleton] at hw
    rw [hw]
    intro e
    have := h i n (by omega) (by omega) (by omega) (by omega) (by rw [i2]; exact e)
    omega
def zDr (f : Nat → Nat → Int) (a b : Nat) : Nat → Nat → Int := am_u1 (am_u1 (am_u1 (am_u1 (am_u1 (am_u1 f a 0 (-1)) a 1 (-1)) a 2 0) b 0 (-1)) b 1 (-1)) b 2 0
set_option maxRecDepth 100000 in
set_option maxHeartbeats 4000000 in
theorem wp_drops {Q : Option am_V → am_H → Prop} (hp : zPm a b c) (K : am_wp l dC dI tc mm4_find 4 58 58 (Q) 13 [some (.inr (.inr (some 22))), none] [] (58, zDr f a b, g, pr_r a b c)) : am_wp l dC dI tc mm4_find 4 58 58 (Q) 7 [some (.inr (.inr (some 22))), none] [] (58, f, g, pr_r a b c) := by
  rcases hp with ⟨rfl, rfl, rfl⟩ | ⟨rfl, rfl, rfl⟩ | ⟨rfl, rfl, rfl⟩ | ⟨rfl, rfl, rfl⟩ | ⟨rfl, rfl, rfl⟩ | ⟨rfl, rfl, rfl⟩
  · iterate 2 (refine am_go rfl (by first | exact True.intro | omega | exact ⟨by decide, Nat.le_of_ble_eq_true rfl, Nat.le_of_ble_eq_true rfl⟩ | exact ⟨by decide, Nat.le_of_ble_eq_true rfl⟩) ?_)
    refine am_calln rfl (ct_drop 23 (by decide)) (by decide) (Nat.le_of_ble_eq_true rfl) (Nat.le_of_ble_eq_true rfl) ?_
    iterate 2 (refine am_go rfl (by first | exact True.intro | omega | exact ⟨by decide, Nat.le_of_ble_eq_true rfl, Nat.le_of_ble_eq_true rfl⟩ | exact ⟨by decide, Nat.le_of_ble_eq_true rfl⟩) ?_)
    refine am_calln rfl (ct_drop 26 (by decide)) (by decide) (Nat.le_of_ble_eq_true rfl) (Nat.le_of_ble_eq_true rfl) ?_
    exact K
  · iterate 2 (refine am_go rfl (by first | exact True.intro | omega | exact ⟨by decide, Nat.le_of_ble_eq_true rfl, Nat.le_of_ble_eq_true rfl⟩ | exact ⟨by decide, Nat.le_of_ble_eq_true rfl⟩) ?_)
    refine am_calln rfl (ct_drop 23 (by decide)) (by decide) (Nat.le_of_ble_eq_true rfl) (Nat.le_of_ble_eq_true rfl) ?_
    iterate 2 (refine am_go rfl (by first | exact True.intro | omega | exact ⟨by decide, Nat.le_of_ble_eq_true rfl, Nat.le_of_ble_eq_true rfl⟩ | exact ⟨by decide, Nat.le_of_ble_eq_true rfl⟩) ?_)
    refine am_calln rfl (ct_drop 29 (by decide)) (by decide) (Nat.le_of_ble_eq_true rfl) (Nat.le_of_ble_eq_true rfl) ?_
    exact K
  · iterate 2 (refine am_go rfl (by first | exact True.intro | omega | exact ⟨by decide, Nat.le_of_ble_eq_true rfl, Nat.le_of_ble_eq_true rfl⟩ | exact ⟨by decide, Nat.le_of_ble_eq_true rfl⟩) ?_)
    refine am_calln rfl (ct_drop 26 (by decide)) (by decide) (Nat.le_of_ble_eq_true rfl) (Nat.le_of_ble_eq_true rfl) ?_
    iterate 2 (refine am_go rfl (by first | exact True.intro | omega | exact ⟨by decide, Nat.le_of_ble_eq_true rfl, Nat.le_of_ble_eq_true rfl⟩ | exact ⟨by decide, Nat.le_of_ble_eq_true rfl⟩) ?_)
    refine am_calln rfl (ct_drop 23 (by decide)) (by decide) (Nat.le_of_ble_eq_true rfl) (Nat.le_of_ble_eq_true rfl) ?_
    exact K
  · iterate 2 (refine am_go rfl (by first | exact True.intro | omega | exact ⟨by decide, Nat.le_of_ble_eq_true rfl, Nat.le_of_ble_eq_true rfl⟩ | exact ⟨by decide, Nat.le_of_ble_eq_true rfl⟩) ?_)
    refine am_calln rfl (ct_drop 26 (by decide)) (by decide) (Nat.le_of_ble_eq_true rfl) (Nat.le_of_ble_eq_true rfl) ?_
    iterate 2 (refine am_go rfl (by first | exact True.intro | omega | exact ⟨by decide, Nat.le_of_ble_eq_true rfl, Nat.le_of_ble_eq_true rfl⟩ | exact ⟨by decide, Nat.le_of_ble_eq_true rfl⟩) ?_)
    refine am_calln rfl (ct_drop 29 (by decide)) (by decide) (Nat.le_of_ble_eq_true rfl) (Nat.le_of_ble_eq_true rfl) ?_
    exact K
  · iterate 2 (refine am_go rfl (by first | exact True.intro | omega | exact ⟨by decide, Nat.le_of_ble_eq_true rfl, Nat.le_of_ble_eq_true rfl⟩ | exact ⟨by decide, Nat.le_of_ble_eq_true rfl⟩) ?_)
    refine am_calln rfl (ct_drop 29 (by decide)) (by decide) (Nat.le_of_ble_eq_true rfl) (Nat.le_of_ble_eq_true rfl) ?_
    iterate 2 (refine am_go rfl (by first | exact True.intro | omega | exact ⟨by decide, Nat.le_of_ble_eq_true rfl, Nat.le_of_ble_eq_true rfl⟩ | exact ⟨by decide, Nat.le_of_ble_eq_true rfl⟩) ?_)
    refine am_calln rfl (ct_drop 23 (by decide)) (by decide) (Nat.le_of_ble_eq_true rfl) (Nat.le_of_ble_eq_true rfl) ?_
    exact K
  · iterate 2 (refine am_go rfl (by first | exact True.intro | omega | exact ⟨by decide, Nat.le_of_ble_eq_true rfl, Nat.le_of_ble_eq_true rfl⟩ | exact ⟨by decide, Nat.le_of_ble_eq_true rfl⟩) ?_)
    refine am_calln rfl (ct_drop 29 (by decide)) (by decide) (Nat.le_of_ble_eq_true rfl) (Nat.le_of_ble_eq_true rfl) ?_
    iterate 2 (refine am_go rfl (by first | exact True.intro | omega | exact ⟨by decide, Nat.le_of_ble_eq_true rfl, Nat.le_of_ble_eq_true rfl⟩ | exact ⟨by decide, Nat.le_of_ble_eq_true rfl⟩) ?_)
    refine am_calln rfl (ct_drop 26 (by decide)) (by decide) (Nat.le_of_ble_eq_true rfl) (Nat.le_of_ble_eq_true rfl) ?_
    exact K
theorem zDr_c {f : Nat → Nat → Int} {a b x j : Nat} (ha : x ≠ a) (hb : x ≠ b) : zDr f a b x j = f x j := by
  unfold zDr
  rw [am_u1_c hb, am_u1_c hb, am_u1_c hb, am_u1_c ha, am_u1_c ha, am_u1_c ha]
theorem zDr_0 {f : Nat → Nat → Int} {a b : Nat} (h : a ≠ b) : zNil (zDr f a b) a ∧ zNil (zDr f a b) b := by
  unfold zDr zNil
  refine ⟨⟨?_, ?_⟩, ?_, ?_⟩
  · rw [am_u1_c h, am_u1_c h, am_u1_c h, am_u1_j (by decide), am_u1_j (by decide), am_u1_s]
  · rw [am_u1_c h, am_u1_c h, am_u1_c h, am_u1_j (by decide), am_u1_s]
  · rw [am_u1_j (by decide), am_u1_j (by decide), am_u1_s]
  · rw [am_u1_j (by decide), am_u1_s]
theorem zPm_b {a b c x : Nat} (h : zPm a b c) (hx : x ≠ 23 ∧ x ≠ 26 ∧ x ≠ 29) : x ≠ a ∧ x ≠ b := by
  rcases h with ⟨rfl, rfl, rfl⟩ | ⟨rfl, rfl, rfl⟩ | ⟨rfl, rfl, rfl⟩ | ⟨rfl, rfl, rfl⟩ | ⟨rfl, rfl, rfl⟩ | ⟨rfl, rfl, rfl⟩ <;> omega
theorem zPm_ab {a b c : Nat} (h : zPm a b c) : a ≠ b := by
  rcases h with ⟨rfl, rfl, rfl⟩ | ⟨rfl, rfl, rfl⟩ | ⟨rfl, rfl, rfl⟩ | ⟨rfl, rfl, rfl⟩ | ⟨rfl, rfl, rfl⟩ | ⟨rfl, rfl, rfl⟩ <;> decide
set_option maxRecDepth 100000 in
set_option maxHeartbeats 4000000 in
theorem ct_find0 (hp : zPm a b c) (hI : zI f g) (hA : zAok g) (h4 : f 22 4 = 0) : am_Ct l dC dI tc mm4_find 4 58 [(.inr (.inr (some 22)))] (58, f, g, pr_r a b c) (zFP f g) := by
  have i1 := hI.1
  have hd : ∀ x j, x ≠ 23 ∧ x ≠ 26 ∧ x ≠ 29 ∧ x ≠ 22 → zDr (am_u1 f 22 4 1) a b x j = f x j := fun x j hx => by
    rw [zDr_c (zPm_b hp ⟨hx.1, hx.2.1, hx.2.2.1⟩).1 (zPm_b hp ⟨hx.1, hx.2.1, hx.2.2.1⟩).2, am_u1_c hx.2.2.2]
  have hd22 : zDr (am_u1 f 22 4 1) a b 22 4 = 1 := by
    rw [zDr_c (zPm_b hp (by decide)).1 (zPm_b hp (by decide)).2, am_u1_s]
  have hab := zDr_0 (f := am_u1 f 22 4 1) (zPm_ab hp)
  obtain ⟨D, hD⟩ : ∃ D, zDr (am_u1 f 22 4 1) a b = D := ⟨_, rfl⟩
  rw [hD] at hd hd22 hab
  have hI0 : zI D g := zFrB.I (fun _ _ _ => rfl) (hd 2 0 (by decide)) (hd 12 0 (by decide)) (hd 18 0 (by decide)) hI
  have e2 := hd 2 0 (by decide)
  -- the loop over the values
  have loop : ∀ (F2 : Nat → Nat → Int) (G2 : Nat → Int → Int), (∀ x j, x ≠ 23 ∧ x ≠ 26 ∧ x ≠ 29 ∧ x ≠ 22 → F2 x j = f x j) → F2 22 4 = 1 → zFrB G2 g → (∀ x j, x < 23 ∨ 36 < x → G2 x j = g x j) → 0 < f 2 0 → zLr F2 G2 → zRchd f G2 → G2 32 0 = 1 → zLs F2 G2 120 → ((F2 22 13 = 0 ∧ ∀ x, 0 ≤ x → x < f 2 0 → g 3 x ≠ 7) ∨ ∃ x, 0 ≤ x ∧ x < f 2 0 ∧ g 3 x = 7 ∧ ∀ v, zCov G2 x (f 12 0) 0 v → zHas F2 G2 v) →
      ∀ (m n : Nat) (F : Nat → Nat → Int) (G : Nat → Int → Int) (a b c : Nat), (n : Int) ≤ F2 22 13 → (F2 22 13).toNat - n ≤ m → zPm a b c → zFrA F F2 G G2 → zAok G → zRS G2 (f 2 0).toNat F G a b ((-1 :: zVs G2 n).foldl (zOne F2 G2) []) → am_wp l dC dI tc mm4_find 4 58 58 (zFP f g) 27 [some (.inr (.inr (some 22))), some (.inl (n : Int))] [] (58, F, G, pr_r a b c) := by
    intro F2 G2 hf hf4 hB hg hpos hLr hRc h32 hLs hCv m
    have hF2 := hf 2 0 (by decide)
    have hF12 := hf 12 0 (by decide)
    have hF18 := hf 18 0 (by decide)
    have hI2 : zI F2 G2 := hB.I hF2 hF12 hF18 hI
    have hRc2 : zRchd F2 G2 := by
      unfold zRchd at hRc ⊢
      rw [hF2]
      exact hRc
    have done : ∀ (F : Nat → Nat → Int) (G : Nat → Int → Int) (a b c : Nat), zPm a b c → zFrA F F2 G G2 → zAok G → zRS G2 (f 2 0).toNat F G a b ((-1 :: zVs G2 (F2 22 13).toNat).foldl (zOne F2 G2) []) → (zFP f g) none (58, F, G, pr_r a b c) := by
      intro F G a b c q1 q2 q3 q4
      have hBG : zFrB G G2 := fun x j hx => q2.2 x j (by omega) (Or.inl hx.1)
      have g32 : ∀ j, G 32 j = G2 32 j := fun j => q2.2 32 j (by decide) (Or.inr (by decide))
      have g36 : ∀ j, G 36 j = G2 36 j := fun j => q2.2 36 j (by decide) (Or.inr (by decide))
      have f22 : ∀ j, j ≠ 14 → F 22 j = F2 22 j := fun j hj => q2.1 22 j (by decide) (Or.inr hj)
      refine ⟨rfl, F, G, a, b, c, rfl, q1, ⟨fun x j hx => (q2.1 x j ⟨hx.1, hx.2.1, hx.2.2.1⟩ (Or.inl hx.2.2.2)).trans (hf x j hx), fun x j hx => (q2.2 x j (by omega) (by omega)).trans (hg x j hx)⟩, q3, by rw [f22 4 (by decide)]; exact hf4, Or.inr ⟨hpos, ?_, ?_, (F2 22 13).toNat, ?_, ?_, ?_, ?_⟩⟩
      · unfold zLr at hLr ⊢
        rw [f22 2 (by decide)]
        simp only [g32]
        exact hLr
      · unfold zRchd at hRc ⊢
        simp only [g32, hBG.Re]
        exact hRc
      · rw [zVs_fr g36]
        exact zVs_nd hLs.2.2 _ (by have := hLs.1; omega)
      · rw [zVs_fr g36]
        intro v hv
        obtain ⟨i, j1, j2⟩ := zVs_mem.mp hv
        rw [← j2]
        exact hLs.2.1 i (by omega) (by omega)
      · rcases hCv with u | ⟨x, u1, u2, u3, u4⟩
        · exact Or.inl ⟨by rw [u.1]; rfl, u.2⟩
        · refine Or.inr ⟨x, u1, u2, u3, fun v hv => ?_⟩
          obtain ⟨i, j1, j2, j3⟩ := u4 v ((zCov_fr hBG g32 x (f 12 0) 0 v).mp hv)
          rw [zVs_fr g36]
          exact zVs_mem.mpr ⟨i.toNat, by omega, by rw [Int.toNat_of_nonneg j1]; exact j3⟩
      · rw [zVs_fr g36]
        have e9 : ∀ (L : List Int) (T : List (Int × List Int)), L.foldl (zOne F2 G2) T = L.foldl (zOne f g) T := by
          intro L
          induction L with
          | nil => intro T; rfl
          | cons u L ih => intro T; simp only [List.foldl, hB.One hF2 hF12 hF18, ih]
        rw [e9, hB.RS] at q4
        exact q4
    induction m with
    | zero =>
      intro n F G a b c hn hm q1 q2 q3 q4
      have f13 : F 22 13 = F2 22 13 := q2.1 22 13 (by decide) (Or.inr (by decide))
      have e : n = (F2 22 13).toNat := by omega
      iterate 3 (refine am_go rfl (by first | exact True.intro | omega | exact ⟨by decide, Nat.le_of_ble_eq_true rfl, Nat.le_of_ble_eq_true rfl⟩ | exact ⟨by decide, Nat.le_of_ble_eq_true rfl⟩) ?_)
      rw [f13]
      refine am_if rfl (fun c1 => ?_) (fun c1 => ?_)
      · subst e
        exact am_vret (x := 0) rfl rfl rfl (done F G a b c q1 q2 q3 q4)
      · omega
    | succ m ih =>
      intro n F G a b c hn hm q1 q2 q3 q4
      have f13 : F 22 13 = F2 22 13 := q2.1 22 13 (by decide) (Or.inr (by decide))
      have g36 : ∀ j, G 36 j = G2 36 j := fun j => q2.2 36 j (by decide) (Or.inr (by decide))
      have g32 : ∀ j, G 32 j = G2 32 j := fun j => q2.2 32 j (by decide) (Or.inr (by decide))
      have hBG : zFrB G G2 := fun x j hx => q2.2 x j (by omega) (Or.inl hx.1)
      have k2 : F 2 0 = F2 2 0 := q2.1 2 0 (by decide) (Or.inl (by decide))
      have k12 : F 12 0 = F2 12 0 := q2.1 12 0 (by decide) (Or.inl (by decide))
      have k18 : F 18 0 = F2 18 0 := q2.1 18 0 (by decide) (Or.inl (by decide))
      iterate 3 (refine am_go rfl (by first | exact True.intro | omega | exact ⟨by decide, Nat.le_of_ble_eq_true rfl, Nat.le_of_ble_eq_true rfl⟩ | exact ⟨by decide, Nat.le_of_ble_eq_true rfl⟩) ?_)
      rw [f13]
      refine am_if rfl (fun c1 => ?_) (fun c1 => ?_)
      · have e : n = (F2 22 13).toNat := by omega
        subst e
        exact am_vret (x := 0) rfl rfl rfl (done F G a b c q1 q2 q3 q4)
      · have h120 := hLs.1
        iterate 4 (refine am_go rfl (by first | exact True.intro | omega | exact ⟨by decide, Nat.le_of_ble_eq_true rfl, Nat.le_of_ble_eq_true rfl⟩ | exact ⟨by decide, Nat.le_of_ble_eq_true rfl⟩) ?_)
        refine am_if rfl (fun c2 => ?_) (fun c2 => ?_)
        · omega
        · iterate 5 (refine am_go rfl (by first | exact True.intro | omega | exact ⟨by decide, Nat.le_of_ble_eq_true rfl, Nat.le_of_ble_eq_true rfl⟩ | exact ⟨by decide, Nat.le_of_ble_eq_true rfl⟩) ?_)
          rw [g36]
          refine am_call rfl (ct_assume (G2 36 n) _ q1 (hBG.I k2 k12 k18 hI2) ?_ (by rw [g32]; exact h32) q3 (by rw [k2, hF2, hBG.RS]; exact q4)) (by decide) (Nat.le_of_ble_eq_true rfl) (Nat.le_of_ble_eq_true rfl) (Nat.le_of_ble_eq_true rfl) (fun rv s q => ?_)
          · unfold zRchd at hRc2 ⊢
            rw [k2]
            simp only [g32, hBG.Re]
            exact hRc2
          · obtain ⟨rfl, F3, G3, a3, b3, c3, rfl, p1, p2, p3, p4⟩ := q
            iterate 2 (refine am_go rfl (by first | exact True.intro | omega | exact ⟨by decide, Nat.le_of_ble_eq_true rfl, Nat.le_of_ble_eq_true rfl⟩ | exact ⟨by decide, Nat.le_of_ble_eq_true rfl⟩) ?_)
            refine ih (n + 1) F3 G3 a3 b3 c3 (by omega) (by omega) p1 (p2.tr q2) p3 ?_
            have p5 : zRS G (F 2 0).toNat F3 G3 a3 b3 (zOne F G ((-1 :: zVs G2 n).foldl (zOne F2 G2) []) (G2 36 n)) := p4
            rw [hBG.One k2 k12 k18, k2, hF2, hBG.RS] at p5
            rw [zVs_s, ← List.cons_append, List.foldl_append]
            exact p5
  refine am_enter ok_4_find rfl (by decide) (Nat.le_of_ble_eq_true rfl) rfl ?_
  iterate 2 (refine am_go rfl (by first | exact True.intro | omega | exact ⟨by decide, Nat.le_of_ble_eq_true rfl, Nat.le_of_ble_eq_true rfl⟩ | exact ⟨by decide, Nat.le_of_ble_eq_true rfl⟩) ?_)
  refine am_if rfl (fun c1 => ?_) (fun c1 => ?_)
  · iterate 3 (refine am_go rfl (by first | exact True.intro | omega | exact ⟨by decide, Nat.le_of_ble_eq_true rfl, Nat.le_of_ble_eq_true rfl⟩ | exact ⟨by decide, Nat.le_of_ble_eq_true rfl⟩) ?_)
    refine wp_drops hp ?_
    rw [hD]
    iterate 3 (refine am_go rfl (by first | exact True.intro | omega | exact ⟨by decide, Nat.le_of_ble_eq_true rfl, Nat.le_of_ble_eq_true rfl⟩ | exact ⟨by decide, Nat.le_of_ble_eq_true rfl⟩) ?_)
    refine am_if rfl (fun c2 => ?_) (fun c2 => ?_)
    · (refine am_go rfl (by first | exact True.intro | omega | exact ⟨by decide, Nat.le_of_ble_eq_true rfl, Nat.le_of_ble_eq_true rfl⟩ | exact ⟨by decide, Nat.le_of_ble_eq_true rfl⟩) ?_)
      refine am_call rfl (ct_reachAll hI0) (by decide) (Nat.le_of_ble_eq_true rfl) (Nat.le_of_ble_eq_true rfl) (Nat.le_of_ble_eq_true rfl) (fun rv s q => ?_)
      obtain ⟨rfl, F1, G1, rfl, r1, r2, r3⟩ := q
      have hI1 : zI F1 G1 := r1.I hI0
      (refine am_go rfl (by first | exact True.intro | omega | exact ⟨by decide, Nat.le_of_ble_eq_true rfl, Nat.le_of_ble_eq_true rfl⟩ | exact ⟨by decide, Nat.le_of_ble_eq_true rfl⟩) ?_)
      refine am_call rfl (ct_listPlaceValues hI1 r2.2.1) (by decide) (Nat.le_of_ble_eq_true rfl) (Nat.le_of_ble_eq_true rfl) (Nat.le_of_ble_eq_true rfl) (fun rv s q => ?_)
      obtain ⟨rfl, F2, G2, rfl, s1, s2, s3⟩ := q
      have hB1 : zFrB G1 g := fun x j hx => r1.2 x j (by omega)
      have hB2 : zFrB G2 G1 := fun x j hx => s1.2 x j (by omega)
      have hB : zFrB G2 g := fun x j hx => (hB2 x j hx).trans (hB1 x j hx)
      have hf2 : ∀ x j, x ≠ 23 ∧ x ≠ 26 ∧ x ≠ 29 ∧ x ≠ 22 → F2 x j = f x j := fun x j hx => ((s1.1 x j (Or.inl hx.2.2.2)).trans (r1.1 x j (Or.inl hx.2.2.2))).trans (hd x j hx)
      have hG2 : ∀ x j, x ≠ 32 → x ≠ 36 → G2 x j = g x j := fun x j h1 h2 => (s1.2 x j h2).trans (r1.2 x j h1)
      have g32 : ∀ j, G2 32 j = G1 32 j := fun j => s1.2 32 j (by decide)
      have f4 : F2 22 4 = 1 := ((s1.1 22 4 (Or.inr (by decide))).trans (r1.1 22 4 (Or.inr (by decide)))).trans hd22
      have hLr2 : zLr F2 G2 := by
        unfold zLr at r2 ⊢
        rw [s1.1 22 2 (Or.inr (by decide))]
        simp only [g32]
        exact r2
      have hRc : zRchd f G2 := by
        intro j j1 j2
        rw [g32]
        refine ⟨r2.2.1 j j1 j2, ?_⟩
        rw [r3 j j1 j2, e2]
        simp only [hB.Re]
      have h320 : G2 32 0 = 1 := (hRc 0 (by omega) (by omega)).2.mpr ⟨0, by omega, rfl⟩
      have hA2 : zAok G2 := fun j j1 j2 => by
        unfold zOk
        rw [hG2 33 _ (by decide) (by decide), hG2 33 _ (by decide) (by decide)]
        exact hA j j1 j2
      have k2 := hf2 2 0 (by decide)
      have k12 := hf2 12 0 (by decide)
      have k18 := hf2 18 0 (by decide)
      have k12' : F1 12 0 = f 12 0 := (r1.1 12 0 (Or.inl (by decide))).trans (hd 12 0 (by decide))
      have k2' : F1 2 0 = f 2 0 := (r1.1 2 0 (Or.inl (by decide))).trans (hd 2 0 (by decide))
      have hq : ∀ q j, q ≠ 22 → F2 q j = D q j := fun q j hq => (s1.1 q j (Or.inl hq)).trans (r1.1 q j (Or.inl hq))
      obtain ⟨-, -, m6, m7, -⟩ := zPm_a hp
      have hRS0 : zRS G2 (F2 2 0).toNat F2 G2 a b [] := ⟨⟨by rw [hq a 0 m6]; exact hab.1.1, by rw [hq a 1 m6]; exact hab.1.2⟩, ⟨by rw [hq b 0 m7]; exact hab.2.1, by rw [hq b 1 m7]; exact hab.2.2⟩⟩
      clear m6 m7
      iterate 2 (refine am_go rfl (by first | exact True.intro | omega | exact ⟨by decide, Nat.le_of_ble_eq_true rfl, Nat.le_of_ble_eq_true rfl⟩ | exact ⟨by decide, Nat.le_of_ble_eq_true rfl⟩) ?_)
      refine am_call rfl (ct_assume (-1) [] hp (hB.I k2 k12 k18 hI) ?_ h320 hA2 hRS0) (by decide) (Nat.le_of_ble_eq_true rfl) (Nat.le_of_ble_eq_true rfl) (Nat.le_of_ble_eq_true rfl) (fun rv s q => ?_)
      · unfold zRchd at hRc ⊢
        rw [k2]
        exact hRc
      · obtain ⟨rfl, F3, G3, a3, b3, c3, rfl, p1, p2, p3, p4⟩ := q
        iterate 2 (refine am_go rfl (by first | exact True.intro | omega | exact ⟨by decide, Nat.le_of_ble_eq_true rfl, Nat.le_of_ble_eq_true rfl⟩ | exact ⟨by decide, Nat.le_of_ble_eq_true rfl⟩) ?_)
        refine loop F2 G2 hf2 f4 hB (fun x j hx => hG2 x j (by omega) (by omega)) (by omega) hLr2 hRc h320 s2 ?_ _ 0 F3 G3 a3 b3 c3 (by have := s2.1; omega) (Nat.le_refl _) p1 p2 p3 (by rw [k2] at p4; unfold zVs; simp only [List.range_zero, List.map_nil, List.foldl]; unfold zOne; rw [k2]; exact p4)
        rcases s3 with u | ⟨x, u1, u2, u3, u4⟩
        · exact Or.inl ⟨u.1, fun x x1 x2 => by rw [← hB1 3 x (by decide)]; exact u.2 x x1 (by omega)⟩
        · refine Or.inr ⟨x, u1, by omega, by rw [← hB1 3 x (by decide)]; exact u3, fun v hv => u4 v ?_⟩
          rw [k12']
          exact (zCov_fr hB2 g32 x (f 12 0) 0 v).mp hv
    · have c2 : f 2 0 = 0 := by omega
      exact am_vret (x := 0) rfl rfl rfl ⟨rfl, D, g, a, b, c, rfl, hp, ⟨hd, fun _ _ _ => rfl⟩, hA, hd22, Or.inl ⟨c2, hab⟩⟩
  · omega
theorem ct_find1 (h4 : f 22 4 = 1) : am_Ct l dC dI tc mm4_find 4 58 [(.inr (.inr (some 22)))] (58, f, g, pr_r a b c) (fun r s => r = none ∧ s = (58, f, g, pr_r a b c)) := by
  refine am_enter ok_4_find rfl (by decide) (Nat.le_of_ble_eq_true rfl) rfl ?_
  iterate 2 (refine am_go rfl (by first | exact True.intro | omega | exact ⟨by decide, Nat.le_of_ble_eq_true rfl, Nat.le_of_ble_eq_true rfl⟩ | exact ⟨by decide, Nat.le_of_ble_eq_true rfl⟩) ?_)
  refine am_if rfl (fun c1 => ?_) (fun c1 => ?_)
  · omega
  · exact am_vret (x := 0) rfl rfl rfl ⟨rfl, rfl⟩
end Fnd

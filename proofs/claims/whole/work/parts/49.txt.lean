/-! the text of a reading -/
def zDig (kd v : Int) : List Int := zLet kd :: ((if 99 < v then [48 + v / 100] else []) ++ ((if 9 < v then [48 + v / 10 % 10] else []) ++ [48 + v % 10]))
def zSc (g : Nat → Int → Int) (cs : Nat → Int) (k : Nat) : List Int := if (zPa g cs k).1 < (zPa g cs (k + 1)).1 then [59] else []
def zAv (g : Nat → Int → Int) (cs : Nat → Int) (k : Nat) : Int := g 16 (zAlt (zPa g cs k).1 (zPa g cs k).2.1 (cs k))
def zPd (g : Nat → Int → Int) (cs : Nat → Int) (k : Nat) : List Int := if cs k = 4 then [] else zDig (g 3 k) (zAv g cs k)
def zPt (g : Nat → Int → Int) (cs : Nat → Int) : Nat → List Int
  | 0 => []
  | k + 1 => zPt g cs k ++ (zPd g cs k ++ zSc g cs k)
def zPg (n : Int) (h : Int → Int) (L : List Int) : Prop := n = L.length ∧ ∀ i : Nat, i < L.length → h i = L.getD i 0
def zFrT (o s c : Nat) (F f : Nat → Nat → Int) (G g : Nat → Int → Int) : Prop := (∀ x j, x ≠ o ∨ j ≠ s → F x j = f x j) ∧ ∀ x j, x ≠ c → G x j = g x j
theorem zFrT.rf (o s c : Nat) (f : Nat → Nat → Int) (g : Nat → Int → Int) : zFrT o s c f f g g := ⟨fun _ _ _ => rfl, fun _ _ _ => rfl⟩
theorem zFrT.tr {o s c : Nat} {F F1 f : Nat → Nat → Int} {G G1 g : Nat → Int → Int} (h : zFrT o s c F F1 G G1) (h2 : zFrT o s c F1 f G1 g) : zFrT o s c F f G g := ⟨fun x j hx => (h.1 x j hx).trans (h2.1 x j hx), fun x j hx => (h.2 x j hx).trans (h2.2 x j hx)⟩
theorem zFrT.p (o s c : Nat) (f : Nat → Nat → Int) (g : Nat → Int → Int) (u i v : Int) : zFrT o s c (am_u1 f o s u) f (am_u3 g c i v) g := ⟨fun x j hx => am_u1_ne hx, fun x j hx => am_u3_c hx⟩
theorem zPg_nil (h : Int → Int) : zPg 0 h [] := ⟨rfl, fun i hi => by cases hi⟩
theorem zPg_put {g : Nat → Int → Int} {c : Nat} {n v : Int} {L : List Int} (h : zPg n (g c) L) : zPg (n + 1) (am_u3 g c n v c) (L ++ [v]) := by
  refine ⟨by rw [h.1]; simp, fun i hi => ?_⟩
  have h1 := h.1
  simp only [List.length_append, List.length_singleton] at hi
  by_cases u : i = L.length
  · rw [u, ← h1, am_u3_s]
    simp [List.getD_eq_getElem?_getD]
  · rw [am_u3_j (by omega), h.2 i (by omega)]
    simp only [List.getD_eq_getElem?_getD]
    rw [List.getElem?_append_left (by omega)]
theorem zDig_l (kd v : Int) : (zDig kd v).length ≤ 4 := by
  unfold zDig
  split <;> split <;> simp
theorem zPt_l {f : Nat → Nat → Int} {g : Nat → Int → Int} {cs : Nat → Int} : ∀ k : Nat, ((zPt g cs k).length : Int) ≤ 4 * (zPa g cs k).2.2 + (zPa g cs k).1 := by
  intro k
  induction k with
  | zero => simp [zPt, zPa]
  | succ k ih =>
    have h1 := zPa_c g cs k
    have h2 := zPa_s g cs k
    have h3 := zDig_l (g 3 k) (zAv g cs k)
    have hs : ((zSc g cs k).length : Int) ≤ (zPa g cs (k + 1)).1 - (zPa g cs k).1 := by
      unfold zSc
      split
      · rename_i u
        simp only [List.length_singleton]
        omega
      · simp only [List.length_nil]
        omega
    have hp : ((zPd g cs k).length : Int) ≤ 4 * ((zPa g cs (k + 1)).2.2 - (zPa g cs k).2.2) := by
      rw [h1]
      unfold zPd
      split
      · simp only [List.length_nil]
        omega
      · omega
    simp only [zPt, List.length_append]
    omega
/-- from a part that is there to the next -/
theorem zPt_next {f : Nat → Nat → Int} {g : Nat → Int → Int} {cs : Nat → Int} {k : Nat} (hv : 0 ≤ (zPa g cs k).2.1) (hc : cs k ≠ 4) : ∀ (d : Nat), (∀ j : Nat, k < j → j < k + 1 + d → cs j = 4) → ((zPa g cs (k + 1 + d)).1 = (zPa g cs k).1 ∧ 0 < (zPa g cs (k + 1 + d)).2.1 ∧ zPt g cs (k + 1 + d) = zPt g cs k ++ zDig (g 3 k) (zAv g cs k)) ∨ ((zPa g cs (k + 1 + d)).1 = (zPa g cs k).1 + 1 ∧ (zPa g cs (k + 1 + d)).2.1 = 0 ∧ zPt g cs (k + 1 + d) = zPt g cs k ++ (zDig (g 3 k) (zAv g cs k) ++ [59])) := by
  intro d
  induction d with
  | zero =>
    intro _
    have hz : zZz g cs k = (zPa g cs k).2.1 + 1 := if_neg hc
    have hp : zPd g cs k = zDig (g 3 k) (zAv g cs k) := if_neg hc
    simp only [Nat.add_zero, zPt, hp]
    rcases zPa_s g cs k with ⟨w1, w2, w3⟩ | ⟨w1, w2, w3⟩
    · refine Or.inl ⟨w2, by omega, ?_⟩
      rw [show zSc g cs k = [] from if_neg (by omega), List.append_nil]
    · refine Or.inr ⟨w2, w3, ?_⟩
      rw [show zSc g cs k = [59] from if_pos (by omega)]
  | succ d ih =>
    intro h
    have ih := ih (fun j j1 j2 => h j j1 (by omega))
    have hc4 := h (k + 1 + d) (by omega) (by omega)
    have hz : zZz g cs (k + 1 + d) = (zPa g cs (k + 1 + d)).2.1 := if_pos hc4
    have hp : zPd g cs (k + 1 + d) = [] := if_pos hc4
    rw [show k + 1 + (d + 1) = k + 1 + d + 1 by omega]
    simp only [zPt, hp, List.nil_append]
    rcases ih with ⟨a1, a2, a3⟩ | ⟨a1, a2, a3⟩
    · rcases zPa_s g cs (k + 1 + d) with ⟨w1, w2, w3⟩ | ⟨w1, w2, w3⟩
      · refine Or.inl ⟨by omega, by omega, ?_⟩
        rw [show zSc g cs (k + 1 + d) = [] from if_neg (by omega), List.append_nil, a3]
      · refine Or.inr ⟨by omega, w3, ?_⟩
        rw [show zSc g cs (k + 1 + d) = [59] from if_pos (by omega), a3, List.append_assoc]
    · rcases zPa_s g cs (k + 1 + d) with ⟨w1, w2, w3⟩ | ⟨w1, w2, w3⟩
      · refine Or.inr ⟨by omega, by omega, ?_⟩
        rw [show zSc g cs (k + 1 + d) = [] from if_neg (by omega), List.append_nil, a3]
      · omega
theorem zFrD.pt {F f : Nat → Nat → Int} {G g : Nat → Int → Int} (h : zFrD F f G g) (cs : Nat → Int) : ∀ k : Nat, zPt G cs k = zPt g cs k := by
  intro k
  induction k with
  | zero => rfl
  | succ k ih =>
    simp only [zPt, zPd, zSc, zAv]
    rw [ih, h.pa, h.pa, h.2 3 k (by unfold zDg; omega), h.2 16 _ (by unfold zDg; omega)]
section Txt
variable {l : Launch} {dC : Nat → ClassId} {dI : Nat → Nat → Nat} {tc : Nat → ClassId} {f : Nat → Nat → Int} {g : Nat → Int → Int} {a b c : Nat}
variable {cs : Nat → Int}
theorem cm_put1 (x : Int) {L : List Int} (h : zPg (f 38 28) (g 57) L) (hl : L.length < 80) : am_Ct l dC dI tc mm6_put 0 58 [(.inr (.inr (some 38))), .inl x] (58, f, g, pr_r a b c) (fun r s => r = none ∧ ∃ F G, s = (58, F, G, pr_r a b c) ∧ zFrT 38 28 57 F f G g ∧ zPg (F 38 28) (G 57) (L ++ [x])) :=
  am_Ct_mono (fun r s q => ⟨q.1, _, _, q.2, zFrT.p _ _ _ _ _ _ _ _, by rw [am_u1_s]; exact zPg_put h⟩) (cm_put x (by have := h.1; omega))
theorem ct_put1 (x : Int) {L : List Int} (hx : 0 ≤ x ∧ x < 65536) (h : zPg (f 0 9) (g 37) L) (hl : L.length < 42) : am_Ct l dC dI tc mm0_put 0 58 [(.inr (.inr (some 0))), .inl x] (58, f, g, pr_r a b c) (fun r s => r = none ∧ ∃ F G, s = (58, F, G, pr_r a b c) ∧ zFrT 0 9 37 F f G g ∧ zPg (F 0 9) (G 37) (L ++ [x])) :=
  am_Ct_mono (fun r s q => ⟨q.1, _, _, q.2, zFrT.p _ _ _ _ _ _ _ _, by rw [am_u1_s]; exact zPg_put h⟩) (ct_put x hx (by have := h.1; omega))
set_option maxRecDepth 100000 in
set_option maxHeartbeats 4000000 in
theorem wp_print20 {Q : Option am_V → am_H → Prop} (x : Int) (hI : zI f g) (hD : zD f g) (hC : zCh1 g g cs (f 2 0).toNat) (hV : ∀ j : Nat, j < (f 2 0).toNat → zVl f g cs j ∧ zGo g cs j)
    (K : ∀ F G, zFrT 38 28 57 F f G g → zPg (F 38 28) (G 57) (zPt g cs (f 2 0).toNat) → Q (some (.inl (F 38 28))) (58, F, G, pr_r a b c)) : ∀ (m k : Nat) (o3 : Option am_V) (F : Nat → Nat → Int) (G : Nat → Int → Int), k + m = (f 2 0).toNat → zFrT 38 28 57 F f G g → zPg (F 38 28) (G 57) (zPt g cs k) → am_wp l dC dI tc mm6_print 6 58 58 (Q) 20 [some (.inr (.inr (some 38))), some (.inl x), some (.inl (k : Int)), o3] [] (58, F, G, pr_r a b c) := by
  have i1 := hI.1
  have i3 := hI.2.2.1
  have e5 := hD.pn
  intro m
  induction m with
  | zero =>
    intro k o3 F G hk h1 h2
    have f5 : F 38 5 = f 2 0 := by rw [h1.1 38 5 (Or.inr (by decide))]; exact e5
    iterate 3 (refine am_go rfl (by first | exact True.intro | omega | exact ⟨by decide, Nat.le_of_ble_eq_true rfl, Nat.le_of_ble_eq_true rfl⟩ | exact ⟨by decide, Nat.le_of_ble_eq_true rfl⟩) ?_)
    refine am_if rfl (fun c1 => ?_) (fun c1 => by omega)
    iterate 2 (refine am_go rfl (by first | exact True.intro | omega | exact ⟨by decide, Nat.le_of_ble_eq_true rfl, Nat.le_of_ble_eq_true rfl⟩ | exact ⟨by decide, Nat.le_of_ble_eq_true rfl⟩) ?_)
    obtain rfl : k = (f 2 0).toNat := by omega
    exact am_iret rfl rfl rfl (K F G h1 h2)
  | succ m ih =>
    intro k o3 F G hk h1 h2
    have f5 : ∀ {F : Nat → Nat → Int} {G : Nat → Int → Int}, zFrT 38 28 57 F f G g → F 38 5 = f 2 0 := fun h1 => by rw [h1.1 38 5 (Or.inr (by decide))]; exact e5
    have g54 : ∀ {F : Nat → Nat → Int} {G : Nat → Int → Int}, zFrT 38 28 57 F f G g → G 54 k = cs k := fun h1 => by rw [h1.2 54 _ (by decide)]; exact hC.1 k (by omega)
    have hcy := hC.2 k (by omega)
    have hcy1 := hC.2 (k + 1) (by omega)
    rw [show ((k + 1 : Nat) : Int) = (k : Int) + 1 by omega] at hcy1
    have hv := (hV k (by omega)).1
    have hb := zBd_s hI hv (hV k (by omega)).2
    have hb1 := hb.1
    have hkd := hD.kd k (by omega) (by omega)
    have hen := hD.en k (by omega) (by omega)
    have i2 := hI.2.1 k (by omega) (by omega)
    have hlen := zPt_l (f := f) (g := g) (cs := cs) k
    have hlen1 := zPt_l (f := f) (g := g) (cs := cs) (k + 1)
    have hpn := zPa_n g cs k
    have hpn1 := zPa_n g cs (k + 1)
    obtain ⟨v1, v2, v3⟩ := zVl_can.mp hv
    have v21 := v2.1
    have v22 := v2.2
    have hps := zPa_s g cs k
    have hzz := zZz_r hI hv
    have hdl := zDig_l (g 3 k) (zAv g cs k)
    have s114 : ∀ (o3 : Option am_V) (F : Nat → Nat → Int) (G : Nat → Int → Int), zFrT 38 28 57 F f G g → zPg (F 38 28) (G 57) (zPt g cs (k + 1)) → am_wp l dC dI tc mm6_print 6 58 58 (Q) 114 [some (.inr (.inr (some 38))), some (.inl x), some (.inl (k : Int)), o3] [] (58, F, G, pr_r a b c) := by
      intro o3 F G h1 h2
      iterate 2 (refine am_go rfl (by first | exact True.intro | omega | exact ⟨by decide, Nat.le_of_ble_eq_true rfl, Nat.le_of_ble_eq_true rfl⟩ | exact ⟨by decide, Nat.le_of_ble_eq_true rfl⟩) ?_)
      exact ih (k + 1) o3 F G (by omega) h1 h2
    have s77 : ∀ (o3 : Option am_V) (F : Nat → Nat → Int) (G : Nat → Int → Int), zFrT 38 28 57 F f G g → zPg (F 38 28) (G 57) (zPt g cs k ++ zPd g cs k) → am_wp l dC dI tc mm6_print 6 58 58 (Q) 77 [some (.inr (.inr (some 38))), some (.inl x), some (.inl (k : Int)), o3] [] (58, F, G, pr_r a b c) := by
      intro o3 F G h1 h2
      have hll : (zPt g cs k ++ zPd g cs k).length < 80 := by
        rw [List.length_append]
        unfold zPd
        split
        · simp only [List.length_nil]
          omega
        · omega
      have f5' := f5 h1
      have g55 : G 55 k = (zPa g cs k).1 := by rw [h1.2 55 _ (by decide)]; exact hcy.1
      have g551 : G 55 ((k : Int) + 1) = (zPa g cs (k + 1)).1 := by rw [h1.2 55 _ (by decide)]; exact hcy1.1
      have g41 : ∀ j, G 41 j = g 41 j := fun j => h1.2 41 j (by decide)
      have s98 : ∀ t : Int, (t = 1 ∧ g 5 k = 1 ∨ t = 0 ∧ g 5 k = 0) → am_wp l dC dI tc mm6_print 6 58 58 Q 97 [some (.inr (.inr (some 38))), some (.inl x), some (.inl (k : Int)), o3] [.inl t] (58, F, G, pr_r a b c) := by
        intro t ht
        iterate 2 (refine am_go rfl (by first | exact True.intro | omega | exact ⟨by decide, Nat.le_of_ble_eq_true rfl, Nat.le_of_ble_eq_true rfl⟩ | exact ⟨by decide, Nat.le_of_ble_eq_true rfl⟩) ?_)
        rcases ht with ⟨rfl, ht⟩ | ⟨rfl, ht⟩
        · refine am_if rfl (fun c1 => by omega) (fun c1 => ?_)
          iterate 10 (refine am_go rfl (by first | exact True.intro | omega | exact ⟨by decide, Nat.le_of_ble_eq_true rfl, Nat.le_of_ble_eq_true rfl⟩ | exact ⟨by decide, Nat.le_of_ble_eq_true rfl⟩) ?_)
          rw [g551, g55]
          refine am_if rfl (fun c2 => ?_) (fun c2 => ?_)
          · refine s114 _ F G h1 ?_
            have hsc : zSc g cs k = [] := if_neg (by omega)
            simp only [zPt, hsc, List.append_nil]
            exact h2
          · iterate 2 (refine am_go rfl (by first | exact True.intro | omega | exact ⟨by decide, Nat.le_of_ble_eq_true rfl, Nat.le_of_ble_eq_true rfl⟩ | exact ⟨by decide, Nat.le_of_ble_eq_true rfl⟩) ?_)
            refine am_call rfl (cm_put1 59 h2 hll) (by decide) (Nat.le_of_ble_eq_true rfl) (Nat.le_of_ble_eq_true rfl) (Nat.le_of_ble_eq_true rfl) (fun rv s q => ?_)
            obtain ⟨rfl, F', G', rfl, p1, p2⟩ := q
            refine s114 _ F' G' (p1.tr h1) ?_
            have hsc : zSc g cs k = [59] := if_pos (by omega)
            simp only [zPt, hsc]
            rw [← List.append_assoc]
            exact p2
        · refine am_if rfl (fun c1 => ?_) (fun c1 => by omega)
          refine s114 _ F G h1 ?_
          have hsc : zSc g cs k = [] := if_neg (by omega)
          simp only [zPt, hsc, List.append_nil]
          exact h2
      iterate 5 (refine am_go rfl (by first | exact True.intro | omega | exact ⟨by decide, Nat.le_of_ble_eq_true rfl, Nat.le_of_ble_eq_true rfl⟩ | exact ⟨by decide, Nat.le_of_ble_eq_true rfl⟩) ?_)
      rw [f5']
      refine am_if rfl (fun c1 => ?_) (fun c1 => ?_)
      · iterate 2 (refine am_go rfl (by first | exact True.intro | omega | exact ⟨by decide, Nat.le_of_ble_eq_true rfl, Nat.le_of_ble_eq_true rfl⟩ | exact ⟨by decide, Nat.le_of_ble_eq_true rfl⟩) ?_)
        exact s98 1 (Or.inl ⟨rfl, by omega⟩)
      · iterate 10 (refine am_go rfl (by first | exact True.intro | omega | exact ⟨by decide, Nat.le_of_ble_eq_true rfl, Nat.le_of_ble_eq_true rfl⟩ | exact ⟨by decide, Nat.le_of_ble_eq_true rfl⟩) ?_)
        rw [g41, g41]
        refine am_if rfl (fun c2 => ?_) (fun c2 => ?_)
        · (refine am_go rfl (by first | exact True.intro | omega | exact ⟨by decide, Nat.le_of_ble_eq_true rfl, Nat.le_of_ble_eq_true rfl⟩ | exact ⟨by decide, Nat.le_of_ble_eq_true rfl⟩) ?_)
          exact s98 0 (Or.inr ⟨rfl, by omega⟩)
        · iterate 2 (refine am_go rfl (by first | exact True.intro | omega | exact ⟨by decide, Nat.le_of_ble_eq_true rfl, Nat.le_of_ble_eq_true rfl⟩ | exact ⟨by decide, Nat.le_of_ble_eq_true rfl⟩) ?_)
          exact s98 1 (Or.inl ⟨rfl, by omega⟩)
    have f5'' := f5 h1
    have g54'' := g54 h1
    iterate 3 (refine am_go rfl (by first | exact True.intro | omega | exact ⟨by decide, Nat.le_of_ble_eq_true rfl, Nat.le_of_ble_eq_true rfl⟩ | exact ⟨by decide, Nat.le_of_ble_eq_true rfl⟩) ?_)
    refine am_if rfl (fun c1 => by omega) (fun c1 => ?_)
    iterate 5 (refine am_go rfl (by first | exact True.intro | omega | exact ⟨by decide, Nat.le_of_ble_eq_true rfl, Nat.le_of_ble_eq_true rfl⟩ | exact ⟨by decide, Nat.le_of_ble_eq_true rfl⟩) ?_)
    rw [g54'']
    refine am_if rfl (fun c2 => ?_) (fun c2 => ?_)
    · refine s77 _ F G h1 ?_
      have hpd : zPd g cs k = [] := if_pos c2
      rw [hpd, List.append_nil]
      exact h2
    · have hpd : zPd g cs k = zDig (g 3 k) (zAv g cs k) := if_neg c2
      have hat := zVl_at hI hD hv c2
      have hvr := hat.2.2.2.2.1
      have h49 : G 49 (4 * (5 * (zPa g cs k).1 + (zPa g cs k).2.1) + cs k) = zAv g cs k := by rw [h1.2 49 _ (by decide)]; exact hat.2.2.2.1.1
      have hvv : 0 ≤ zAv g cs k ∧ zAv g cs k ≤ 999 := hvr
      have s70 : ∀ (v : Int) (F : Nat → Nat → Int) (G : Nat → Int → Int) (L : List Int), v = zAv g cs k → zFrT 38 28 57 F f G g → L.length < 80 → zPg (F 38 28) (G 57) L → L ++ [48 + v % 10] = zPt g cs k ++ zPd g cs k → am_wp l dC dI tc mm6_print 6 58 58 (Q) 70 [some (.inr (.inr (some 38))), some (.inl x), some (.inl (k : Int)), some (.inl v)] [] (58, F, G, pr_r a b c) := by
        intro v F G L hv0 h1 hl h2 h3
        iterate 6 (refine am_go rfl (by first | exact True.intro | omega | exact ⟨by decide, Nat.le_of_ble_eq_true rfl, Nat.le_of_ble_eq_true rfl⟩ | exact ⟨by decide, Nat.le_of_ble_eq_true rfl⟩) ?_)
        refine am_call rfl (cm_put1 (48 + v % 10) h2 hl) (by decide) (Nat.le_of_ble_eq_true rfl) (Nat.le_of_ble_eq_true rfl) (Nat.le_of_ble_eq_true rfl) (fun rv s q => ?_)
        obtain ⟨rfl, F', G', rfl, p1, p2⟩ := q
        rw [h3] at p2
        exact s77 _ F' G' (p1.tr h1) p2
      have s58 : ∀ (v : Int) (F : Nat → Nat → Int) (G : Nat → Int → Int) (L : List Int), v = zAv g cs k → zFrT 38 28 57 F f G g → L.length < 79 → zPg (F 38 28) (G 57) L → L ++ ((if 9 < v then [48 + v / 10 % 10] else []) ++ [48 + v % 10]) = zPt g cs k ++ zPd g cs k → am_wp l dC dI tc mm6_print 6 58 58 (Q) 58 [some (.inr (.inr (some 38))), some (.inl x), some (.inl (k : Int)), some (.inl v)] [] (58, F, G, pr_r a b c) := by
        intro v F G L hv0 h1 hl h2 h3
        iterate 2 (refine am_go rfl (by first | exact True.intro | omega | exact ⟨by decide, Nat.le_of_ble_eq_true rfl, Nat.le_of_ble_eq_true rfl⟩ | exact ⟨by decide, Nat.le_of_ble_eq_true rfl⟩) ?_)
        refine am_if rfl (fun c3 => ?_) (fun c3 => ?_)
        · rw [if_neg (by omega), List.nil_append] at h3
          exact s70 v F G L hv0 h1 (by omega) h2 h3
        · rw [if_pos (by omega)] at h3
          iterate 8 (refine am_go rfl (by first | exact True.intro | omega | exact ⟨by decide, Nat.le_of_ble_eq_true rfl, Nat.le_of_ble_eq_true rfl⟩ | exact ⟨by decide, Nat.le_of_ble_eq_true rfl⟩) ?_)
          refine am_call rfl (cm_put1 (48 + v / 10 % 10) h2 (by omega)) (by decide) (Nat.le_of_ble_eq_true rfl) (Nat.le_of_ble_eq_true rfl) (Nat.le_of_ble_eq_true rfl) (fun rv s q => ?_)
          obtain ⟨rfl, F', G', rfl, p1, p2⟩ := q
          exact s70 v F' G' _ hv0 (p1.tr h1) (by simp; omega) p2 (by rw [List.append_assoc]; exact h3)
      have s48 : ∀ (v : Int) (F : Nat → Nat → Int) (G : Nat → Int → Int) (L : List Int), v = zAv g cs k → zFrT 38 28 57 F f G g → L.length < 78 → zPg (F 38 28) (G 57) L → L ++ ((if 99 < v then [48 + v / 100] else []) ++ ((if 9 < v then [48 + v / 10 % 10] else []) ++ [48 + v % 10])) = zPt g cs k ++ zPd g cs k → am_wp l dC dI tc mm6_print 6 58 58 (Q) 48 [some (.inr (.inr (some 38))), some (.inl x), some (.inl (k : Int)), some (.inl v)] [] (58, F, G, pr_r a b c) := by
        intro v F G L hv0 h1 hl h2 h3
        iterate 2 (refine am_go rfl (by first | exact True.intro | omega | exact ⟨by decide, Nat.le_of_ble_eq_true rfl, Nat.le_of_ble_eq_true rfl⟩ | exact ⟨by decide, Nat.le_of_ble_eq_true rfl⟩) ?_)
        refine am_if rfl (fun c3 => ?_) (fun c3 => ?_)
        · rw [if_neg (show ¬ 99 < v by omega), List.nil_append] at h3
          exact s58 v F G L hv0 h1 (by omega) h2 h3
        · rw [if_pos (show 99 < v by omega)] at h3
          iterate 6 (refine am_go rfl (by first | exact True.intro | omega | exact ⟨by decide, Nat.le_of_ble_eq_true rfl, Nat.le_of_ble_eq_true rfl⟩ | exact ⟨by decide, Nat.le_of_ble_eq_true rfl⟩) ?_)
          refine am_call rfl (cm_put1 (48 + v / 100) h2 (by omega)) (by decide) (Nat.le_of_ble_eq_true rfl) (Nat.le_of_ble_eq_true rfl) (Nat.le_of_ble_eq_true rfl) (fun rv s q => ?_)
          obtain ⟨rfl, F', G', rfl, p1, p2⟩ := q
          exact s58 v F' G' _ hv0 (p1.tr h1) (by simp; omega) p2 (by rw [List.append_assoc]; exact h3)
      have g55 : G 55 k = (zPa g cs k).1 := by rw [h1.2 55 _ (by decide)]; exact hcy.1
      have g56 : G 56 k = (zPa g cs k).2.1 := by rw [h1.2 56 _ (by decide)]; exact hcy.2
      have g40 : G 40 k = g 3 k := by rw [h1.2 40 _ (by decide)]; exact hkd
      iterate 8 (refine am_go rfl (by first | exact True.intro | omega | exact ⟨by decide, Nat.le_of_ble_eq_true rfl, Nat.le_of_ble_eq_true rfl⟩ | exact ⟨by decide, Nat.le_of_ble_eq_true rfl⟩) ?_)
      rw [g54'']
      (refine am_callv rfl (cm_alternative k (cs k) (by omega) (by omega) (by omega) (by omega)) (by decide) (Nat.le_of_ble_eq_true rfl) (Nat.le_of_ble_eq_true rfl) ?_)
      rw [g55, g56]
      (refine am_go rfl (by first | exact True.intro | omega | exact ⟨by decide, Nat.le_of_ble_eq_true rfl, Nat.le_of_ble_eq_true rfl⟩ | exact ⟨by decide, Nat.le_of_ble_eq_true rfl⟩) ?_)
      rw [h49]
      iterate 6 (refine am_go rfl (by first | exact True.intro | omega | exact ⟨by decide, Nat.le_of_ble_eq_true rfl, Nat.le_of_ble_eq_true rfl⟩ | exact ⟨by decide, Nat.le_of_ble_eq_true rfl⟩) ?_)
      rw [g40]
      (refine am_callv rfl (cm_letter (g 3 k)) (by decide) (Nat.le_of_ble_eq_true rfl) (Nat.le_of_ble_eq_true rfl) ?_)
      refine am_call rfl (cm_put1 (zLet (g 3 k)) h2 (by omega)) (by decide) (Nat.le_of_ble_eq_true rfl) (Nat.le_of_ble_eq_true rfl) (Nat.le_of_ble_eq_true rfl) (fun rv s q => ?_)
      obtain ⟨rfl, F', G', rfl, p1, p2⟩ := q
      refine s48 (zAv g cs k) F' G' _ rfl (p1.tr h1) (by simp; omega) p2 ?_
      rw [hpd, List.append_assoc]
      rfl
set_option maxRecDepth 100000 in
set_option maxHeartbeats 4000000 in
theorem cm_print (x : Int) (hI : zI f g) (hD : zD f g) (hS : mSS f g) : am_Ct l dC dI tc mm6_print 6 58 [(.inr (.inr (some 38))), .inl x] (58, f, g, pr_r a b c) (fun r s => ∃ F G T L, s = (58, F, G, pr_r a b c) ∧ r = some (.inl (if x < 0 ∨ 2 ≤ x then -12 else (L.length : Int))) ∧ (∀ y j, y ≠ 38 ∨ (j ≠ 0 ∧ j ≠ 21 ∧ j ≠ 22 ∧ j ≠ 28) → F y j = f y j) ∧ (∀ y j, y < 52 ∨ 57 < y → G y j = g y j) ∧ F 38 21 = 1 ∧ F 38 0 = 0 ∧ mRes F G T ∧ (((x < 0 ∨ 2 ≤ x) ∧ F 38 28 = f 38 28 ∧ ∀ j, G 57 j = g 57 j) ∨ (¬ (x < 0 ∨ 2 ≤ x) ∧ zPg (F 38 28) (G 57) L ∧ L = (match T[x.toNat]? with | some e => zPt G (zCs e) (F 2 0).toNat | none => [])))) := by
  refine am_enter ok_6_print rfl (by decide) (Nat.le_of_ble_eq_true rfl) rfl ?_
  iterate 2 (refine am_go rfl (by first | exact True.intro | omega | exact ⟨by decide, Nat.le_of_ble_eq_true rfl, Nat.le_of_ble_eq_true rfl⟩ | exact ⟨by decide, Nat.le_of_ble_eq_true rfl⟩) ?_)
  refine am_call rfl (cm_isRank x hI hD hS) (by decide) (Nat.le_of_ble_eq_true rfl) (Nat.le_of_ble_eq_true rfl) (Nat.le_of_ble_eq_true rfl) (fun rv s q => ?_)
  obtain ⟨F, G, T, rfl, rfl, q1, q2, q3, q4⟩ := q
  have hn := mHo_n q4.2.1
  have hfr1 : ∀ y j, y ≠ 38 ∨ (j ≠ 0 ∧ j ≠ 21 ∧ j ≠ 22 ∧ j ≠ 28) → F y j = f y j := fun y j hy => q1.1 y j (by omega)
  have hfr2 : ∀ y j, y < 52 ∨ 57 < y → G y j = g y j := fun y j hy => q1.2 y j (by omega)
  by_cases hx : 0 ≤ x ∧ x < 2
  · rw [if_pos hx]
    refine am_if rfl (fun c1 => ?_) (fun c1 => by omega)
    iterate 3 (refine am_go rfl (by first | exact True.intro | omega | exact ⟨by decide, Nat.le_of_ble_eq_true rfl, Nat.le_of_ble_eq_true rfl⟩ | exact ⟨by decide, Nat.le_of_ble_eq_true rfl⟩) ?_)
    have hI1 := q1.d.I hI
    have hD1 := q1.d.D hD
    have hz : zFrD (am_u1 F 38 28 0) F G G := ⟨fun c j hc => am_u1_ne (by unfold zDf at hc; omega), fun _ _ _ => rfl⟩
    have hr1 : mRes (am_u1 F 38 28 0) G T := mRes_fr q4 hz (am_u1_j (by decide)) (fun _ => rfl) (fun _ => rfl) ⟨rfl, rfl⟩
    have e28 : am_u1 F 38 28 0 38 28 = 0 := am_u1_s
    have e21 : am_u1 F 38 28 0 38 21 = 1 := by rw [am_u1_j (by decide)]; exact q2
    have e0 : am_u1 F 38 28 0 38 0 = 0 := by rw [am_u1_j (by decide)]; exact q3
    have e20 : am_u1 F 38 28 0 2 0 = F 2 0 := am_u1_c (by decide)
    have e22 : am_u1 F 38 28 0 38 22 = F 38 22 := am_u1_j (by decide)
    have hfr3 : ∀ y j, y ≠ 38 ∨ (j ≠ 0 ∧ j ≠ 21 ∧ j ≠ 22 ∧ j ≠ 28) → am_u1 F 38 28 0 y j = f y j := fun y j hy => by rw [am_u1_ne (by omega)]; exact hfr1 y j hy
    have hI2 := hz.I hI1
    have hD2 := hz.D hD1
    clear hz
    revert hr1 e28 e21 e0 e20 e22 hfr3 hI2 hD2
    generalize am_u1 F 38 28 0 = F1
    intro hr1 e28 e21 e0 e20 e22 hfr3 hI2 hD2
    iterate 3 (refine am_go rfl (by first | exact True.intro | omega | exact ⟨by decide, Nat.le_of_ble_eq_true rfl, Nat.le_of_ble_eq_true rfl⟩ | exact ⟨by decide, Nat.le_of_ble_eq_true rfl⟩) ?_)
    rw [e22]
    refine am_if rfl (fun c2 => ?_) (fun c2 => ?_)
    · obtain ⟨e, e1, e2⟩ := mHo_at hr1.2.1 (x := x) (by omega)
      have hvd := mRes_vd hI2 hr1 e (List.mem_of_getElem? e1)
      iterate 2 (refine am_go rfl (by first | exact True.intro | omega | exact ⟨by decide, Nat.le_of_ble_eq_true rfl, Nat.le_of_ble_eq_true rfl⟩ | exact ⟨by decide, Nat.le_of_ble_eq_true rfl⟩) ?_)
      refine am_call rfl (cm_again x (by omega) hI2 hD2 e2 hvd hr1.1) (by decide) (Nat.le_of_ble_eq_true rfl) (Nat.le_of_ble_eq_true rfl) (Nat.le_of_ble_eq_true rfl) (fun rv s q => ?_)
      obtain ⟨rfl, G2, rfl, p1, p2⟩ := q
      have hd2 := p1.d F1
      have z55 : G2 55 0 = 0 := (p2.2 0 (by omega)).1
      have z56 : G2 56 0 = 0 := (p2.2 0 (by omega)).2
      have hres : mRes F1 G2 T := mRes_fr hr1 hd2 rfl (fun j => p1 52 j (by decide)) (fun j => p1 53 j (by decide)) ⟨by rw [z55, hr1.1.1], by rw [z56, hr1.1.2]⟩
      iterate 2 (refine am_go rfl (by first | exact True.intro | omega | exact ⟨by decide, Nat.le_of_ble_eq_true rfl, Nat.le_of_ble_eq_true rfl⟩ | exact ⟨by decide, Nat.le_of_ble_eq_true rfl⟩) ?_)
      refine wp_print20 (cs := zCs e) x (hd2.I hI2) (hd2.D hD2) ⟨p2.1, fun j hj => by rw [hd2.pa]; exact p2.2 j hj⟩ (fun j hj => by rw [hd2.vl, hd2.go]; exact hvd.2.1 j hj) (fun F' G' t1 t2 => ?_) (F1 2 0).toNat 0 none F1 G2 (by omega) (zFrT.rf _ _ _ _ _) (by rw [e28]; exact zPg_nil _)
      have hd3 : zFrD F' F1 G' G2 := ⟨fun c j hc => t1.1 c j (by unfold zDf at hc; omega), fun c j hc => t1.2 c j (by unfold zDg at hc; omega)⟩
      refine ⟨F', G', T, zPt G' (zCs e) (F' 2 0).toNat, rfl, ?_, fun y j hy => by rw [t1.1 y j (by omega)]; exact hfr3 y j hy, fun y j hy => by rw [t1.2 y j (by omega), p1 y j (by omega)]; exact hfr2 y j hy, by rw [t1.1 38 21 (Or.inr (by decide))]; exact e21, by rw [t1.1 38 0 (Or.inr (by decide))]; exact e0, mRes_fr hres hd3 (t1.1 38 22 (Or.inr (by decide))) (fun j => t1.2 52 j (by decide)) (fun j => t1.2 53 j (by decide)) ⟨t1.2 55 0 (by decide), t1.2 56 0 (by decide)⟩, Or.inr ⟨by omega, ?_, by rw [e1]⟩⟩
      · rw [if_neg (by omega)]
        have := t2.1
        rw [show zPt G' (zCs e) (F' 2 0).toNat = zPt G2 (zCs e) (F1 2 0).toNat by rw [hd3.pt, hd3.1 2 0 (by unfold zDf; omega)]]
        rw [this]
      · rw [hd3.pt, hd3.1 2 0 (by unfold zDf; omega)]
        exact t2
    · (refine am_go rfl (by first | exact True.intro | omega | exact ⟨by decide, Nat.le_of_ble_eq_true rfl, Nat.le_of_ble_eq_true rfl⟩ | exact ⟨by decide, Nat.le_of_ble_eq_true rfl⟩) ?_)
      refine am_iret rfl rfl rfl ⟨F1, G, T, [], rfl, by rw [if_neg (by omega)]; rfl, hfr3, hfr2, e21, e0, hr1, Or.inr ⟨by omega, by rw [e28]; exact zPg_nil _, ?_⟩⟩
      have : T[x.toNat]? = none := List.getElem?_eq_none (by omega)
      rw [this]
  · rw [if_neg hx]
    refine am_if rfl (fun c1 => by omega) (fun c1 => ?_)
    (refine am_go rfl (by first | exact True.intro | omega | exact ⟨by decide, Nat.le_of_ble_eq_true rfl, Nat.le_of_ble_eq_true rfl⟩ | exact ⟨by decide, Nat.le_of_ble_eq_true rfl⟩) ?_)
    exact am_iret rfl rfl rfl ⟨F, G, T, [], rfl, by rw [if_pos (by omega)], hfr1, hfr2, q2, q3, q4, Or.inl ⟨by omega, q1.1 38 28 (Or.inr (by decide)), fun j => q1.2 57 j (by decide)⟩⟩
end Txt

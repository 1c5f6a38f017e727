/-! one state of the search: the row that weigh writes -/
noncomputable def zMf (f : Nat → Nat → Int) (g : Nat → Int → Int) (v k x : Int) : Int := @ite Int (v ≠ -1 ∧ (k = 2 ∨ k = 6) ∧ ¬ zFit f g k x v) (Classical.propDecidable _) 100 0
def zSt (x y z : Int) : Int := (x * 7 + y) * 6 + z
def zOffB (g : Nat → Int → Int) (w : zR) (ch cost y : Int) : zR := if y < 0 then w else zOff w ch cost (zRow g y)
def zAlt (x y z : Int) : Int := (x * 5 + y) * 4 + z
noncomputable def zStp (f : Nat → Nat → Int) (g : Nat → Int → Int) (v x y z i : Int) (w : zR) : zR :=
  if g 15 (zAlt y z i) = g 3 x ∧ (g 3 x ≠ 7 ∨ g 16 (zAlt y z i) = v) then zOffB g w i (g 17 (zAlt y z i) + zMf f g v (g 3 x) (g 16 (zAlt y z i))) (zBeh g x y (z + 1)) else w
noncomputable def zLp (f : Nat → Nat → Int) (g : Nat → Int → Int) (v x y z : Int) : Nat → Int → zR → zR
  | 0, _, w => w
  | n + 1, i, w => zLp f g v x y z n (i + 1) (zStp f g v x y z i w)
def zMs (g : Nat → Int → Int) (v x y z : Int) (w : zR) : zR := if g 4 x ≠ -1 ∧ (g 3 x ≠ 7 ∨ v = -1) then zOffB g w 4 (g 4 x) (zBeh g x y z) else w
def zW0 (w : zR) : zR := (1000000, w.2.1, w.2.2.1, 1000000, w.2.2.2.2.1, w.2.2.2.2.2)
noncomputable def zW (f : Nat → Nat → Int) (g : Nat → Int → Int) (v x y z : Int) (w : zR) : zR :=
  if x = f 2 0 then (if y = f 12 0 then 0 else 1000000, w.2.1, w.2.2.1, 1000000, w.2.2.2.2.1, w.2.2.2.2.2) else zMs g v x y z (zLp f g v x y z (zNa g y z).toNat 0 (zW0 w))
/-- the form, the lines and the pairs are as they should be -/
def zI (f : Nat → Nat → Int) (g : Nat → Int → Int) : Prop :=
  (0 ≤ f 2 0 ∧ f 2 0 ≤ 9) ∧ (∀ x, 0 ≤ x → x < f 2 0 → (0 ≤ g 3 x ∧ g 3 x ≤ 8) ∧ (-1 ≤ g 4 x ∧ g 4 x ≤ 999) ∧ (g 5 x = 0 ∨ g 5 x = 1)) ∧
  (0 ≤ f 12 0 ∧ f 12 0 ≤ 6) ∧ (∀ y, 0 ≤ y → y < 6 → (0 ≤ g 13 y ∧ g 13 y ≤ 5) ∧ (y < f 12 0 ↔ 0 < g 13 y)) ∧
  (∀ y z, 0 ≤ y → y < 6 → 0 ≤ z → z < 5 → (0 ≤ g 14 (y * 5 + z) ∧ g 14 (y * 5 + z) ≤ 4) ∧ (z < g 13 y ↔ 0 < g 14 (y * 5 + z))) ∧
  (∀ y z i, 0 ≤ y → y < 6 → 0 ≤ z → z < 5 → 0 ≤ i → i < g 14 (y * 5 + z) → (0 ≤ g 16 (zAlt y z i) ∧ g 16 (zAlt y z i) ≤ 999) ∧ (0 ≤ g 17 (zAlt y z i) ∧ g 17 (zAlt y z i) ≤ 1000)) ∧
  (0 ≤ f 18 0 ∧ f 18 0 ≤ 60)
def zOk (g : Nat → Int → Int) (y : Int) : Prop := (0 ≤ g 33 (y * 2) ∧ g 33 (y * 2) ≤ 1000000) ∧ (0 ≤ g 33 (y * 2 + 1) ∧ g 33 (y * 2 + 1) ≤ 1000000)
theorem zMf_r (f : Nat → Nat → Int) (g : Nat → Int → Int) (v k x : Int) : 0 ≤ zMf f g v k x ∧ zMf f g v k x ≤ 100 := by
  unfold zMf
  split <;> omega
theorem zPl_rw (g : Nat → Int → Int) (s : Int) (w : zR) (x : Int) : zPl (am_rw g s w) x = zPl g x := by
  unfold zPl
  rw [am_rw_c g w (by decide)]
theorem zNa_rw (g : Nat → Int → Int) (s : Int) (w : zR) (x y : Int) : zNa (am_rw g s w) x y = zNa g x y := by
  unfold zNa
  rw [am_rw_c g w (by decide)]
theorem zBeh_rw (g : Nat → Int → Int) (s : Int) (w : zR) (x y z : Int) : zBeh (am_rw g s w) x y z = zBeh g x y z := by
  unfold zBeh
  rw [am_rw_c g w (by decide), zPl_rw]
theorem zFit_rw (f : Nat → Nat → Int) (g : Nat → Int → Int) (s : Int) (w : zR) (k x y : Int) : zFit f (am_rw g s w) k x y ↔ zFit f g k x y := by
  unfold zFit
  simp only [am_rw_c g w (show (19 : Nat) ≠ 33 ∧ (19 : Nat) ≠ 34 ∧ (19 : Nat) ≠ 35 by decide), am_rw_c g w (show (20 : Nat) ≠ 33 ∧ (20 : Nat) ≠ 34 ∧ (20 : Nat) ≠ 35 by decide), am_rw_c g w (show (21 : Nat) ≠ 33 ∧ (21 : Nat) ≠ 34 ∧ (21 : Nat) ≠ 35 by decide)]
theorem zMf_rw (f : Nat → Nat → Int) (g : Nat → Int → Int) (s : Int) (w : zR) (v k x : Int) : zMf f (am_rw g s w) v k x = zMf f g v k x := by
  unfold zMf
  by_cases h : v ≠ -1 ∧ (k = 2 ∨ k = 6) ∧ ¬ zFit f g k x v
  · rw [if_pos h, if_pos ⟨h.1, h.2.1, fun q => h.2.2 ((zFit_rw f g s w k x v).mp q)⟩]
  · rw [if_neg h, if_neg (fun q => h ⟨q.1, q.2.1, fun u => q.2.2 ((zFit_rw f g s w k x v).mpr u)⟩)]
theorem am_w0 (g : Nat → Int → Int) (s : Int) : am_u3 (am_u3 g 33 (s * 2) 1000000) 33 (s * 2 + 1) 1000000 = am_rw g s (zW0 (zRow g s)) := by
  have e : ¬ s * 2 = s * 2 + 1 := by omega
  have e' : ¬ s * 2 + 1 = s * 2 := by omega
  funext u j
  unfold am_u3 am_rw zW0 zRow
  by_cases q1 : u = 33
  · subst q1
    by_cases q4 : j = s * 2
    · subst q4; simp [e]
    · simp [q4]
  · by_cases q2 : u = 34
    · subst q2
      by_cases q4 : j = s * 2
      · subst q4; simp
      · by_cases q5 : j = s * 2 + 1
        · subst q5; simp [e']
        · simp [q4, q5]
    · by_cases q3 : u = 35
      · subst q3
        by_cases q4 : j = s * 2
        · subst q4; simp
        · by_cases q5 : j = s * 2 + 1
          · subst q5; simp [e']
          · simp [q4, q5]
      · simp [q1, q2, q3]
theorem am_u3_rw (g : Nat → Int → Int) (s v : Int) (w : zR) : am_u3 (am_rw g s w) 33 (s * 2) v = am_rw g s (v, w.2) := by
  funext u j
  unfold am_u3 am_rw
  by_cases q1 : u = 33
  · subst q1
    by_cases q4 : j = s * 2
    · subst q4; simp
    · simp [q4]
  · simp [q1]
theorem zNa_r {f : Nat → Nat → Int} {g : Nat → Int → Int} (h : zI f g) (x y : Int) : 0 ≤ zNa g x y ∧ zNa g x y ≤ 4 := by
  unfold zNa
  split
  · rename_i q
    exact (h.2.2.2.2.1 x y q.1.1 q.1.2 q.2.1 q.2.2).1
  · omega
theorem zNa_in {g : Nat → Int → Int} {x y : Int} (h : 0 < zNa g x y) : (0 ≤ x ∧ x < 6) ∧ 0 ≤ y ∧ y < 5 := by
  unfold zNa at h
  split at h
  · assumption
  · omega
section Wgh
variable {l : Launch} {dC : Nat → ClassId} {dI : Nat → Nat → Nat} {tc : Nat → ClassId} {f : Nat → Nat → Int} {g : Nat → Int → Int} {a b c : Nat}
set_option maxRecDepth 100000 in
set_option maxHeartbeats 4000000 in
theorem ct_mf (k v : Int) (hc : 0 ≤ f 18 0 ∧ f 18 0 ≤ 60) : am_Ct l dC dI tc mm4_misfitCost 1 58 [(.inr (.inr (some 22))), .inl k, .inl v] (58, f, g, pr_r a b c) (fun r s => r = some (.inl (zMf f g (f 22 14) k v)) ∧ s = (58, f, g, pr_r a b c)) := by
  refine am_Ct_mono (fun r s q => ?_) (ct_misfitCost k v hc)
  obtain ⟨h1, ⟨h2, h3⟩ | ⟨h2, h3⟩⟩ := q
  · refine ⟨?_, h1⟩
    rw [h2]
    unfold zMf
    rw [if_pos h3]
  · refine ⟨?_, h1⟩
    rw [h2]
    unfold zMf
    rw [if_neg h3]
theorem ct_lk (x y z : Int) (hz : ((0 ≤ x ∧ x < 6) ∧ 0 ≤ y ∧ y < 5) ∧ 0 ≤ z ∧ z < 4) : am_Ct l dC dI tc mm2_kindOf 1 58 [(.inr (.inr (some 12))), .inl x, .inl y, .inl z] (58, f, g, pr_r a b c) (fun r s => r = some (.inl (g 15 (zAlt x y z))) ∧ s = (58, f, g, pr_r a b c)) := by
  have h := ct_lkindOf (l := l) (dC := dC) (dI := dI) (tc := tc) (f := f) (g := g) (a := a) (b := b) (c := c) x y z
  rw [if_pos hz] at h
  exact h
theorem ct_lv (x y z : Int) (hz : ((0 ≤ x ∧ x < 6) ∧ 0 ≤ y ∧ y < 5) ∧ 0 ≤ z ∧ z < 4) : am_Ct l dC dI tc mm2_valueOf 1 58 [(.inr (.inr (some 12))), .inl x, .inl y, .inl z] (58, f, g, pr_r a b c) (fun r s => r = some (.inl (g 16 (zAlt x y z))) ∧ s = (58, f, g, pr_r a b c)) := by
  have h := ct_lvalueOf (l := l) (dC := dC) (dI := dI) (tc := tc) (f := f) (g := g) (a := a) (b := b) (c := c) x y z
  rw [if_pos hz] at h
  exact h
theorem ct_lc (x y z : Int) (hz : ((0 ≤ x ∧ x < 6) ∧ 0 ≤ y ∧ y < 5) ∧ 0 ≤ z ∧ z < 4) : am_Ct l dC dI tc mm2_costOf 1 58 [(.inr (.inr (some 12))), .inl x, .inl y, .inl z] (58, f, g, pr_r a b c) (fun r s => r = some (.inl (g 17 (zAlt x y z))) ∧ s = (58, f, g, pr_r a b c)) := by
  have h := ct_lcostOf (l := l) (dC := dC) (dI := dI) (tc := tc) (f := f) (g := g) (a := a) (b := b) (c := c) x y z
  rw [if_pos hz] at h
  exact h
theorem ct_fk (x : Int) (hs : f 2 0 ≤ 9) (hz : 0 ≤ x ∧ x < f 2 0) : am_Ct l dC dI tc mm1_kindOf 0 58 [(.inr (.inr (some 2))), .inl x] (58, f, g, pr_r a b c) (fun r s => r = some (.inl (g 3 x)) ∧ s = (58, f, g, pr_r a b c)) := by
  have h := ct_fkindOf (l := l) (dC := dC) (dI := dI) (tc := tc) (f := f) (g := g) (a := a) (b := b) (c := c) x hs
  rw [if_pos hz] at h
  exact h
theorem ct_fm (x : Int) (hs : f 2 0 ≤ 9) (hz : 0 ≤ x ∧ x < f 2 0) : am_Ct l dC dI tc mm1_missingCost 0 58 [(.inr (.inr (some 2))), .inl x] (58, f, g, pr_r a b c) (fun r s => r = some (.inl (g 4 x)) ∧ s = (58, f, g, pr_r a b c)) := by
  have h := ct_fmissingCost (l := l) (dC := dC) (dI := dI) (tc := tc) (f := f) (g := g) (a := a) (b := b) (c := c) x hs
  rw [if_pos hz] at h
  exact h
set_option maxRecDepth 100000 in
set_option maxHeartbeats 4000000 in
theorem ct_offerB (s ch cost y : Int) (hs : 0 ≤ s ∧ s < 420) (hy : y < 420) (hn : y ≠ s) (hc : 0 ≤ cost ∧ cost ≤ 2000) (h0 : 0 ≤ y → zOk g y) : am_Ct l dC dI tc mm4_offer 1 58 [(.inr (.inr (some 22))), .inl s, .inl ch, .inl cost, .inl y] (58, f, g, pr_r a b c) (fun r t => r = none ∧ t = (58, f, am_rw g s (zOffB g (zRow g s) ch cost y), pr_r a b c)) := by
  by_cases h : y < 0
  · have e : zOffB g (zRow g s) ch cost y = zRow g s := if_pos h
    rw [e, am_rw_id]
    refine am_enter ok_4_offer rfl (by decide) (Nat.le_of_ble_eq_true rfl) rfl ?_
    (refine am_go rfl (by first | exact True.intro | omega | exact ⟨by decide, Nat.le_of_ble_eq_true rfl, Nat.le_of_ble_eq_true rfl⟩ | exact ⟨by decide, Nat.le_of_ble_eq_true rfl⟩) ?_)
    refine am_if rfl (fun c1 => ?_) (fun c1 => ?_)
    · exact am_vret (x := 0) rfl rfl rfl ⟨rfl, rfl⟩
    · omega
  · have e : zOffB g (zRow g s) ch cost y = zOff (zRow g s) ch cost (zRow g y) := if_neg h
    rw [e]
    exact ct_offer s ch cost y hs ⟨by omega, hy⟩ hn hc (h0 (by omega)).1 (h0 (by omega)).2
set_option maxRecDepth 100000 in
set_option maxHeartbeats 4000000 in
theorem ct_weigh (x y z : Int) (hI : zI f g) (hx : 0 ≤ x ∧ x ≤ f 2 0) (hy : 0 ≤ y ∧ y ≤ f 12 0) (hz : 0 ≤ z ∧ z ≤ zPl g y) (h1 : x < f 2 0 → ∀ q, zBeh g x y (z + 1) = q → 0 ≤ q → zOk g q) (h2 : x < f 2 0 → ∀ q, zBeh g x y z = q → 0 ≤ q → zOk g q) :
    am_Ct l dC dI tc mm4_weigh 2 58 [(.inr (.inr (some 22))), .inl x, .inl y, .inl z] (58, f, g, pr_r a b c) (fun r t => r = none ∧ t = (58, f, am_rw g (zSt x y z) (zW f g (f 22 14) x y z (zRow g (zSt x y z))), pr_r a b c)) := by
  have hI2 := hI
  obtain ⟨i1, i2, i3, i4, i5, i6, i7⟩ := hI2
  have hpl : zPl g y ≤ 5 := by
    unfold zPl
    split
    · rename_i q
      have := (i4 y q.1 q.2).1
      omega
    · omega
  have hst : 0 ≤ zSt x y z ∧ zSt x y z < 420 := by unfold zSt; omega
  have hna := zNa_r hI y z
  have hb : ∀ q, 0 ≤ q → q ≤ 5 → x < f 2 0 → zBeh g x y q < 420 ∧ zBeh g x y q ≠ zSt x y z := by
    intro q q1 q2 q3
    unfold zBeh zSt
    split
    · omega
    · split
      · rename_i u1 u2
        have : zPl g y ≠ 0 := by omega
        have : y < 6 := by
          unfold zPl at this
          split at this <;> omega
        omega
      · omega
  -- behind the loop: the part may be missing
  have tail : ∀ (w : zR) (o8 o9 : Option am_V), x < f 2 0 → am_wp l dC dI tc mm4_weigh 2 58 58 (fun r t => r = none ∧ t = (58, f, am_rw g (zSt x y z) (zMs g (f 22 14) x y z w), pr_r a b c)) 111 [some (.inr (.inr (some 22))), some (.inl x), some (.inl y), some (.inl z), some (.inl (zSt x y z)), some (.inl (g 3 x)), some (.inl (zNa g y z)), some (.inl (zNa g y z)), o8, o9] [] (58, f, am_rw g (zSt x y z) w, pr_r a b c) := by
    intro w o8 o9 hxl
    have hf := i2 x hx.1 hxl
    iterate 3 (refine am_go rfl (by first | exact True.intro | omega | exact ⟨by decide, Nat.le_of_ble_eq_true rfl, Nat.le_of_ble_eq_true rfl⟩ | exact ⟨by decide, Nat.le_of_ble_eq_true rfl⟩) ?_)
    refine am_callv rfl (ct_fm _ (by omega) ⟨hx.1, hxl⟩) (by decide) (Nat.le_of_ble_eq_true rfl) (Nat.le_of_ble_eq_true rfl) ?_
    rw [am_rw_c g w (by decide)]
    iterate 3 (refine am_go rfl (by first | exact True.intro | omega | exact ⟨by decide, Nat.le_of_ble_eq_true rfl, Nat.le_of_ble_eq_true rfl⟩ | exact ⟨by decide, Nat.le_of_ble_eq_true rfl⟩) ?_)
    refine am_if rfl (fun c1 => ?_) (fun c1 => ?_)
    · have e : zMs g (f 22 14) x y z w = w := if_neg (fun q => q.1 c1)
      rw [e]
      exact am_vret (x := 0) rfl rfl rfl ⟨rfl, rfl⟩
    · have fin : (g 3 x ≠ 7 ∨ f 22 14 = -1) → am_wp l dC dI tc mm4_weigh 2 58 58 (fun r t => r = none ∧ t = (58, f, am_rw g (zSt x y z) (zMs g (f 22 14) x y z w), pr_r a b c)) 126 [some (.inr (.inr (some 22))), some (.inl x), some (.inl y), some (.inl z), some (.inl (zSt x y z)), some (.inl (g 3 x)), some (.inl (zNa g y z)), some (.inl (g 4 x)), o8, o9] [] (58, f, am_rw g (zSt x y z) w, pr_r a b c) := by
        intro hv
        have e : zMs g (f 22 14) x y z w = zOffB g w 4 (g 4 x) (zBeh g x y z) := if_pos ⟨c1, hv⟩
        rw [e]
        iterate 8 (refine am_go rfl (by first | exact True.intro | omega | exact ⟨by decide, Nat.le_of_ble_eq_true rfl, Nat.le_of_ble_eq_true rfl⟩ | exact ⟨by decide, Nat.le_of_ble_eq_true rfl⟩) ?_)
        refine am_callv rfl (ct_stateBehind _ _ _ (by omega) ⟨hx.1, hxl⟩ (by omega) (by omega) (by rw [am_rw_c g w (by decide)]; exact hf.2.2)) (by decide) (Nat.le_of_ble_eq_true rfl) (Nat.le_of_ble_eq_true rfl) ?_
        rw [zBeh_rw]
        obtain ⟨b1, b2⟩ := hb z hz.1 (by omega) hxl
        refine am_calln rfl (ct_offerB _ _ _ _ hst b1 b2 (by omega) (fun q0 => ?_)) (by decide) (Nat.le_of_ble_eq_true rfl) (Nat.le_of_ble_eq_true rfl) ?_
        · have h9 := h2 hxl _ rfl q0
          have e3 := am_rw_ne g w b2
          unfold zOk at h9 ⊢
          have e4 : am_rw g (zSt x y z) w 33 (zBeh g x y z * 2) = g 33 (zBeh g x y z * 2) := congrArg (fun u => u.1) e3
          have e5 : am_rw g (zSt x y z) w 33 (zBeh g x y z * 2 + 1) = g 33 (zBeh g x y z * 2 + 1) := congrArg (fun u => u.2.2.2.1) e3
          rw [e4, e5]
          exact h9
        · have e6 : zOffB (am_rw g (zSt x y z) w) w 4 (g 4 x) (zBeh g x y z) = zOffB g w 4 (g 4 x) (zBeh g x y z) := by
            unfold zOffB
            rw [am_rw_ne g w b2]
          rw [am_rw_row, am_rw_rw, e6]
          exact am_vret (x := 0) rfl rfl rfl ⟨rfl, rfl⟩
      iterate 2 (refine am_go rfl (by first | exact True.intro | omega | exact ⟨by decide, Nat.le_of_ble_eq_true rfl, Nat.le_of_ble_eq_true rfl⟩ | exact ⟨by decide, Nat.le_of_ble_eq_true rfl⟩) ?_)
      refine am_if rfl (fun c2 => ?_) (fun c2 => ?_)
      · exact fin (Or.inl c2)
      · iterate 3 (refine am_go rfl (by first | exact True.intro | omega | exact ⟨by decide, Nat.le_of_ble_eq_true rfl, Nat.le_of_ble_eq_true rfl⟩ | exact ⟨by decide, Nat.le_of_ble_eq_true rfl⟩) ?_)
        refine am_if rfl (fun c3 => ?_) (fun c3 => ?_)
        · have e : zMs g (f 22 14) x y z w = w := if_neg (fun q => by omega)
          rw [e]
          exact am_vret (x := 0) rfl rfl rfl ⟨rfl, rfl⟩
        · exact fin (Or.inr (by omega))
  have loop : ∀ (n : Nat) (i : Int) (w : zR) (o8 o9 : Option am_V), x < f 2 0 → 0 ≤ i → i ≤ zNa g y z → (zNa g y z - i).toNat = n → am_wp l dC dI tc mm4_weigh 2 58 58 (fun r t => r = none ∧ t = (58, f, am_rw g (zSt x y z) (zMs g (f 22 14) x y z (zLp f g (f 22 14) x y z n i w)), pr_r a b c)) 60 [some (.inr (.inr (some 22))), some (.inl x), some (.inl y), some (.inl z), some (.inl (zSt x y z)), some (.inl (g 3 x)), some (.inl (zNa g y z)), some (.inl (i)), o8, o9] [] (58, f, am_rw g (zSt x y z) w, pr_r a b c) := by
    intro n
    induction n with
    | zero =>
      intro i w o8 o9 hxl hi hi2 hn
      have e : i = zNa g y z := by omega
      subst e
      iterate 2 (refine am_go rfl (by first | exact True.intro | omega | exact ⟨by decide, Nat.le_of_ble_eq_true rfl, Nat.le_of_ble_eq_true rfl⟩ | exact ⟨by decide, Nat.le_of_ble_eq_true rfl⟩) ?_)
      refine am_if rfl (fun c1 => ?_) (fun c1 => ?_)
      · exact tail w o8 o9 hxl
      · omega
    | succ n ih =>
      intro i w o8 o9 hxl hi hi2 hn
      have hf := i2 x hx.1 hxl
      have hin := zNa_in (show 0 < zNa g y z by omega)
      have e14 : zNa g y z = g 14 (y * 5 + z) := if_pos hin
      have hal := i6 y z i hin.1.1 hin.1.2 hin.2.1 hin.2.2 hi (by omega)
      have next : ∀ (w2 : zR) (p8 p9 : Option am_V), zStp f g (f 22 14) x y z i w = w2 → am_wp l dC dI tc mm4_weigh 2 58 58 (fun r t => r = none ∧ t = (58, f, am_rw g (zSt x y z) (zMs g (f 22 14) x y z (zLp f g (f 22 14) x y z (n + 1) i w)), pr_r a b c)) 109 [some (.inr (.inr (some 22))), some (.inl x), some (.inl y), some (.inl z), some (.inl (zSt x y z)), some (.inl (g 3 x)), some (.inl (zNa g y z)), some (.inl (i)), p8, p9] [] (58, f, am_rw g (zSt x y z) w2, pr_r a b c) := by
        intro w2 p8 p9 e
        have e2 : zLp f g (f 22 14) x y z (n + 1) i w = zLp f g (f 22 14) x y z n (i + 1) w2 := by
          show zLp f g (f 22 14) x y z n (i + 1) (zStp f g (f 22 14) x y z i w) = _
          rw [e]
        rw [e2]
        iterate 2 (refine am_go rfl (by first | exact True.intro | omega | exact ⟨by decide, Nat.le_of_ble_eq_true rfl, Nat.le_of_ble_eq_true rfl⟩ | exact ⟨by decide, Nat.le_of_ble_eq_true rfl⟩) ?_)
        exact ih (i + 1) w2 p8 p9 hxl (by omega) (by omega) (by omega)
      iterate 2 (refine am_go rfl (by first | exact True.intro | omega | exact ⟨by decide, Nat.le_of_ble_eq_true rfl, Nat.le_of_ble_eq_true rfl⟩ | exact ⟨by decide, Nat.le_of_ble_eq_true rfl⟩) ?_)
      refine am_if rfl (fun c1 => ?_) (fun c1 => ?_)
      · omega
      · iterate 5 (refine am_go rfl (by first | exact True.intro | omega | exact ⟨by decide, Nat.le_of_ble_eq_true rfl, Nat.le_of_ble_eq_true rfl⟩ | exact ⟨by decide, Nat.le_of_ble_eq_true rfl⟩) ?_)
        refine am_callv rfl (ct_lk _ _ _ ⟨hin, by omega⟩) (by decide) (Nat.le_of_ble_eq_true rfl) (Nat.le_of_ble_eq_true rfl) ?_
        rw [am_rw_c g w (by decide)]
        (refine am_go rfl (by first | exact True.intro | omega | exact ⟨by decide, Nat.le_of_ble_eq_true rfl, Nat.le_of_ble_eq_true rfl⟩ | exact ⟨by decide, Nat.le_of_ble_eq_true rfl⟩) ?_)
        refine am_if rfl (fun c2 => ?_) (fun c2 => ?_)
        · exact next w o8 o9 (if_neg (fun q => c2 q.1))
        · have c2 : g 15 (zAlt y z i) = g 3 x := by omega
          iterate 5 (refine am_go rfl (by first | exact True.intro | omega | exact ⟨by decide, Nat.le_of_ble_eq_true rfl, Nat.le_of_ble_eq_true rfl⟩ | exact ⟨by decide, Nat.le_of_ble_eq_true rfl⟩) ?_)
          refine am_callv rfl (ct_lv _ _ _ ⟨hin, by omega⟩) (by decide) (Nat.le_of_ble_eq_true rfl) (Nat.le_of_ble_eq_true rfl) ?_
          rw [am_rw_c g w (by decide)]
          have fin : (g 3 x ≠ 7 ∨ g 16 (zAlt y z i) = f 22 14) → am_wp l dC dI tc mm4_weigh 2 58 58 (fun r t => r = none ∧ t = (58, f, am_rw g (zSt x y z) (zMs g (f 22 14) x y z (zLp f g (f 22 14) x y z (n + 1) i w)), pr_r a b c)) 85 [some (.inr (.inr (some 22))), some (.inl x), some (.inl y), some (.inl z), some (.inl (zSt x y z)), some (.inl (g 3 x)), some (.inl (zNa g y z)), some (.inl (i)), some (.inl (g 16 (zAlt y z i))), o9] [] (58, f, am_rw g (zSt x y z) w, pr_r a b c) := by
            intro hv
            have e : zStp f g (f 22 14) x y z i w = zOffB g w i (g 17 (zAlt y z i) + zMf f g (f 22 14) (g 3 x) (g 16 (zAlt y z i))) (zBeh g x y (z + 1)) := if_pos ⟨c2, hv⟩
            have hmf := zMf_r f g (f 22 14) (g 3 x) (g 16 (zAlt y z i))
            iterate 5 (refine am_go rfl (by first | exact True.intro | omega | exact ⟨by decide, Nat.le_of_ble_eq_true rfl, Nat.le_of_ble_eq_true rfl⟩ | exact ⟨by decide, Nat.le_of_ble_eq_true rfl⟩) ?_)
            refine am_callv rfl (ct_lc _ _ _ ⟨hin, by omega⟩) (by decide) (Nat.le_of_ble_eq_true rfl) (Nat.le_of_ble_eq_true rfl) ?_
            rw [am_rw_c g w (by decide)]
            iterate 3 (refine am_go rfl (by first | exact True.intro | omega | exact ⟨by decide, Nat.le_of_ble_eq_true rfl, Nat.le_of_ble_eq_true rfl⟩ | exact ⟨by decide, Nat.le_of_ble_eq_true rfl⟩) ?_)
            refine am_callv rfl (ct_mf _ _ i7) (by decide) (Nat.le_of_ble_eq_true rfl) (Nat.le_of_ble_eq_true rfl) ?_
            rw [zMf_rw]
            iterate 12 (refine am_go rfl (by first | exact True.intro | omega | exact ⟨by decide, Nat.le_of_ble_eq_true rfl, Nat.le_of_ble_eq_true rfl⟩ | exact ⟨by decide, Nat.le_of_ble_eq_true rfl⟩) ?_)
            refine am_callv rfl (ct_stateBehind _ _ _ (by omega) ⟨hx.1, hxl⟩ (by omega) (by omega) (by rw [am_rw_c g w (by decide)]; exact hf.2.2)) (by decide) (Nat.le_of_ble_eq_true rfl) (Nat.le_of_ble_eq_true rfl) ?_
            rw [zBeh_rw]
            obtain ⟨b1, b2⟩ := hb (z + 1) (by omega) (by omega) hxl
            refine am_calln rfl (ct_offerB _ _ _ _ hst b1 b2 (by omega) (fun q0 => ?_)) (by decide) (Nat.le_of_ble_eq_true rfl) (Nat.le_of_ble_eq_true rfl) ?_
            · have h9 := h1 hxl _ rfl q0
              have e3 := am_rw_ne g w b2
              unfold zOk at h9 ⊢
              have e4 : am_rw g (zSt x y z) w 33 (zBeh g x y (z + 1) * 2) = g 33 (zBeh g x y (z + 1) * 2) := congrArg (fun u => u.1) e3
              have e5 : am_rw g (zSt x y z) w 33 (zBeh g x y (z + 1) * 2 + 1) = g 33 (zBeh g x y (z + 1) * 2 + 1) := congrArg (fun u => u.2.2.2.1) e3
              rw [e4, e5]
              exact h9
            · have e6 : ∀ ch cost, zOffB (am_rw g (zSt x y z) w) w ch cost (zBeh g x y (z + 1)) = zOffB g w ch cost (zBeh g x y (z + 1)) := by
                intro ch cost
                unfold zOffB
                rw [am_rw_ne g w b2]
              rw [am_rw_row, am_rw_rw, e6]
              exact next _ _ _ e
          iterate 3 (refine am_go rfl (by first | exact True.intro | omega | exact ⟨by decide, Nat.le_of_ble_eq_true rfl, Nat.le_of_ble_eq_true rfl⟩ | exact ⟨by decide, Nat.le_of_ble_eq_true rfl⟩) ?_)
          refine am_if rfl (fun c3 => ?_) (fun c3 => ?_)
          · exact fin (Or.inl c3)
          · iterate 3 (refine am_go rfl (by first | exact True.intro | omega | exact ⟨by decide, Nat.le_of_ble_eq_true rfl, Nat.le_of_ble_eq_true rfl⟩ | exact ⟨by decide, Nat.le_of_ble_eq_true rfl⟩) ?_)
            refine am_if rfl (fun c4 => ?_) (fun c4 => ?_)
            · exact next w _ _ (if_neg (fun q => by omega))
            · exact fin (Or.inr (by omega))
  refine am_enter ok_4_weigh rfl (by decide) (Nat.le_of_ble_eq_true rfl) rfl ?_
  iterate 3 (refine am_go rfl (by first | exact True.intro | omega | exact ⟨by decide, Nat.le_of_ble_eq_true rfl, Nat.le_of_ble_eq_true rfl⟩ | exact ⟨by decide, Nat.le_of_ble_eq_true rfl⟩) ?_)
  refine am_callv rfl (ct_stateOf _ _ _ (by omega) (by omega) (by omega)) (by decide) (Nat.le_of_ble_eq_true rfl) (Nat.le_of_ble_eq_true rfl) ?_
  show am_wp l dC dI tc mm4_weigh 2 58 58 _ 4 _ [.inl (zSt x y z)] _
  iterate 2 (refine am_go rfl (by first | exact True.intro | omega | exact ⟨by decide, Nat.le_of_ble_eq_true rfl, Nat.le_of_ble_eq_true rfl⟩ | exact ⟨by decide, Nat.le_of_ble_eq_true rfl⟩) ?_)
  refine am_if rfl (fun c1 => ?_) (fun c1 => ?_)
  · omega
  · iterate 2 (refine am_go rfl (by first | exact True.intro | omega | exact ⟨by decide, Nat.le_of_ble_eq_true rfl, Nat.le_of_ble_eq_true rfl⟩ | exact ⟨by decide, Nat.le_of_ble_eq_true rfl⟩) ?_)
    refine am_if rfl (fun c2 => ?_) (fun c2 => ?_)
    · iterate 20 (refine am_go rfl (by first | exact True.intro | omega | exact ⟨by decide, Nat.le_of_ble_eq_true rfl, Nat.le_of_ble_eq_true rfl⟩ | exact ⟨by decide, Nat.le_of_ble_eq_true rfl⟩) ?_)
      rw [am_w0 g (zSt x y z)]
      refine am_if rfl (fun c3 => ?_) (fun c3 => ?_)
      · have e : zW f g (f 22 14) x y z (zRow g (zSt x y z)) = zMs g (f 22 14) x y z (zLp f g (f 22 14) x y z (zNa g y z).toNat 0 (zW0 (zRow g (zSt x y z)))) := if_neg c3
        rw [e]
        have hxl : x < f 2 0 := by omega
        iterate 3 (refine am_go rfl (by first | exact True.intro | omega | exact ⟨by decide, Nat.le_of_ble_eq_true rfl, Nat.le_of_ble_eq_true rfl⟩ | exact ⟨by decide, Nat.le_of_ble_eq_true rfl⟩) ?_)
        refine am_callv rfl (ct_fk _ (by omega) ⟨hx.1, hxl⟩) (by decide) (Nat.le_of_ble_eq_true rfl) (Nat.le_of_ble_eq_true rfl) ?_
        rw [am_rw_c g _ (by decide)]
        iterate 5 (refine am_go rfl (by first | exact True.intro | omega | exact ⟨by decide, Nat.le_of_ble_eq_true rfl, Nat.le_of_ble_eq_true rfl⟩ | exact ⟨by decide, Nat.le_of_ble_eq_true rfl⟩) ?_)
        refine am_callv rfl (ct_alternativesAt _ _) (by decide) (Nat.le_of_ble_eq_true rfl) (Nat.le_of_ble_eq_true rfl) ?_
        rw [zNa_rw]
        iterate 3 (refine am_go rfl (by first | exact True.intro | omega | exact ⟨by decide, Nat.le_of_ble_eq_true rfl, Nat.le_of_ble_eq_true rfl⟩ | exact ⟨by decide, Nat.le_of_ble_eq_true rfl⟩) ?_)
        exact loop _ 0 _ none none hxl (by omega) (by omega) (by omega)
      · have c3 : x = f 2 0 := by omega
        have e : zW f g (f 22 14) x y z (zRow g (zSt x y z)) = _ := if_pos c3
        rw [e]
        iterate 9 (refine am_go rfl (by first | exact True.intro | omega | exact ⟨by decide, Nat.le_of_ble_eq_true rfl, Nat.le_of_ble_eq_true rfl⟩ | exact ⟨by decide, Nat.le_of_ble_eq_true rfl⟩) ?_)
        refine am_if rfl (fun c4 => ?_) (fun c4 => ?_)
        · iterate 2 (refine am_go rfl (by first | exact True.intro | omega | exact ⟨by decide, Nat.le_of_ble_eq_true rfl, Nat.le_of_ble_eq_true rfl⟩ | exact ⟨by decide, Nat.le_of_ble_eq_true rfl⟩) ?_)
          refine am_vret (x := 0) rfl rfl rfl ⟨rfl, ?_⟩
          rw [am_u3_rw, if_neg c4]
          rfl
        · iterate 3 (refine am_go rfl (by first | exact True.intro | omega | exact ⟨by decide, Nat.le_of_ble_eq_true rfl, Nat.le_of_ble_eq_true rfl⟩ | exact ⟨by decide, Nat.le_of_ble_eq_true rfl⟩) ?_)
          refine am_vret (x := 0) rfl rfl rfl ⟨rfl, ?_⟩
          rw [am_u3_rw, if_pos (by omega)]
          rfl
    · omega
end Wgh

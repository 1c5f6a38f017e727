/-! which states are reached -/
def zKd (g : Nat → Int → Int) (y z k : Int) : Prop := ∃ i, 0 ≤ i ∧ i < zNa g y z ∧ g 15 (zAlt y z i) = k
def zTn (g : Nat → Int → Int) (x y z q : Int) : Prop := 0 ≤ q ∧ ((g 4 x ≠ -1 ∧ zBeh g x y z = q) ∨ (zKd g y z (g 3 x) ∧ zBeh g x y (z + 1) = q))
/-- nothing has changed but the states that are reached, and the lines -/
def zFrS (f f0 : Nat → Nat → Int) (g g0 : Nat → Int → Int) : Prop := (∀ x j, x ≠ 22 ∨ j ≠ 2 → f x j = f0 x j) ∧ ∀ x j, x ≠ 32 → g x j = g0 x j
theorem zFrS.rf (f : Nat → Nat → Int) (g : Nat → Int → Int) : zFrS f f g g := ⟨fun _ _ _ => rfl, fun _ _ _ => rfl⟩
theorem zFrS.tr {f f1 f0 : Nat → Nat → Int} {g g1 g0 : Nat → Int → Int} (h : zFrS f f1 g g1) (h0 : zFrS f1 f0 g1 g0) : zFrS f f0 g g0 := ⟨fun x j hx => (h.1 x j hx).trans (h0.1 x j hx), fun x j hx => (h.2 x j hx).trans (h0.2 x j hx)⟩
theorem zFrS.I {f f0 : Nat → Nat → Int} {g g0 : Nat → Int → Int} (h : zFrS f f0 g g0) (hI : zI f0 g0) : zI f g := by
  unfold zI at hI ⊢
  simp only [h.1 2 0 (Or.inl (by decide)), h.1 12 0 (Or.inl (by decide)), h.1 18 0 (Or.inl (by decide)), h.2 3 _ (by decide), h.2 4 _ (by decide), h.2 5 _ (by decide), h.2 13 _ (by decide), h.2 14 _ (by decide), h.2 16 _ (by decide), h.2 17 _ (by decide)]
  exact hI
theorem zFrS.Beh {f f0 : Nat → Nat → Int} {g g0 : Nat → Int → Int} (h : zFrS f f0 g g0) (x y z : Int) : zBeh g x y z = zBeh g0 x y z := by
  unfold zBeh
  rw [h.2 5 _ (by decide), zPl_fr (fun j => h.2 13 j (by decide))]
theorem zFrS.Kd {f f0 : Nat → Nat → Int} {g g0 : Nat → Int → Int} (h : zFrS f f0 g g0) (y z k : Int) : zKd g y z k ↔ zKd g0 y z k := by
  unfold zKd
  rw [zNa_fr (fun j => h.2 14 j (by decide))]
  simp only [h.2 15 _ (by decide)]
theorem zFrS.Tn {f f0 : Nat → Nat → Int} {g g0 : Nat → Int → Int} (h : zFrS f f0 g g0) (x y z q : Int) : zTn g x y z q ↔ zTn g0 x y z q := by
  unfold zTn
  rw [h.2 4 _ (by decide), h.2 3 _ (by decide), h.Beh, h.Beh, h.Kd]
/-- the greatest line of the states that are reached -/
def zLr (f : Nat → Nat → Int) (g : Nat → Int → Int) : Prop := (0 ≤ f 22 2 ∧ f 22 2 ≤ 6) ∧ (∀ j, 0 ≤ j → j < 420 → g 32 j = 0 ∨ g 32 j = 1) ∧ (∀ j, 0 ≤ j → j < 420 → g 32 j = 1 → j / 6 % 7 ≤ f 22 2) ∧ ∃ j, 0 ≤ j ∧ j < 420 ∧ g 32 j = 1 ∧ j / 6 % 7 = f 22 2
theorem zLr_put {f : Nat → Nat → Int} {g : Nat → Int → Int} {x : Int} (h : zLr f g) (hx : 0 ≤ x ∧ x < 420) : zLr (am_u1 f 22 2 (if f 22 2 < x / 6 % 7 then x / 6 % 7 else f 22 2)) (am_u3 g 32 x 1) := by
  obtain ⟨h1, h0, h2, j, j1, j2, j3, j4⟩ := h
  have e : am_u1 f 22 2 (if f 22 2 < x / 6 % 7 then x / 6 % 7 else f 22 2) 22 2 = if f 22 2 < x / 6 % 7 then x / 6 % 7 else f 22 2 := am_u1_s
  have eg : ∀ i, am_u3 g 32 x 1 32 i = if i = x then 1 else g 32 i := fun i => by
    by_cases u : i = x
    · rw [if_pos u, u, am_u3_s]
    · rw [if_neg u, am_u3_j u]
  refine ⟨by rw [e]; split <;> omega, fun i i1 i2 => ?_, fun i i1 i2 i3 => ?_, ?_⟩
  · rw [eg]
    split
    · exact Or.inr rfl
    · exact h0 i i1 i2
  · rw [e]
    rw [eg] at i3
    by_cases u : i = x
    · subst u
      split <;> omega
    · rw [if_neg u] at i3
      have := h2 i i1 i2 i3
      split <;> omega
  · rw [e]
    by_cases u : f 22 2 < x / 6 % 7
    · rw [if_pos u]
      exact ⟨x, hx.1, hx.2, by rw [eg, if_pos rfl], rfl⟩
    · rw [if_neg u]
      refine ⟨j, j1, j2, ?_, j4⟩
      rw [eg]
      split
      · rfl
      · exact j3
theorem zBeh_r {f : Nat → Nat → Int} {g : Nat → Int → Int} (hI : zI f g) {x y z : Int} (hx : 0 ≤ x ∧ x < f 2 0) (hy : 0 ≤ y ∧ y ≤ 6) (hz : 0 ≤ z ∧ z ≤ 5) : zBeh g x y z < 420 ∧ (0 ≤ zBeh g x y z → zBeh g x y z / 42 = x + 1) := by
  have i1 := hI.1
  unfold zBeh
  split
  · omega
  · split
    · rename_i u1 u2
      have : zPl g y ≠ 0 := by omega
      have : y < 6 := by
        unfold zPl at this
        split at this <;> omega
      omega
    · omega
section Rch
variable {l : Launch} {dC : Nat → ClassId} {dI : Nat → Nat → Nat} {tc : Nat → ClassId} {f : Nat → Nat → Int} {g : Nat → Int → Int} {a b c : Nat}
set_option maxRecDepth 100000 in
set_option maxHeartbeats 4000000 in
theorem ct_reachQ (q : Int) (hq : q < 420) (hL : zLr f g) : am_Ct l dC dI tc mm4_reach 1 58 [(.inr (.inr (some 22))), .inl q] (58, f, g, pr_r a b c) (fun r s => r = none ∧ ∃ f' g', s = (58, f', g', pr_r a b c) ∧ zFrS f' f g' g ∧ zLr f' g' ∧ ∀ j, 0 ≤ j → j < 420 → (g' 32 j = 1 ↔ g 32 j = 1 ∨ (0 ≤ q ∧ j = q))) := by
  refine am_Ct_mono (fun r s h => ?_) (ct_reach q hq (by have := hL.1; omega))
  obtain ⟨h1, h2⟩ := h
  refine ⟨h1, ?_⟩
  by_cases u : q < 0
  · rw [if_pos u] at h2
    exact ⟨f, g, h2, zFrS.rf f g, hL, fun j j1 j2 => ⟨Or.inl, fun w => w.elim id (fun w => by omega)⟩⟩
  · rw [if_neg u] at h2
    refine ⟨_, _, h2, ⟨fun x j hx => am_u1_ne hx, fun x j hx => am_u3_c hx⟩, zLr_put hL (by omega), fun j j1 j2 => ?_⟩
    by_cases w : j = q
    · subst w
      rw [am_u3_s]
      exact ⟨fun _ => Or.inr ⟨by omega, rfl⟩, fun _ => rfl⟩
    · rw [am_u3_j w]
      exact ⟨Or.inl, fun v => v.elim id (fun v => absurd v.2 w)⟩
set_option maxRecDepth 100000 in
set_option maxHeartbeats 4000000 in
theorem ct_reachFrom (x y z : Int) (hI : zI f g) (hL : zLr f g) (hx : 0 ≤ x ∧ x < f 2 0) (hy : 0 ≤ y ∧ y ≤ 6) (hz : 0 ≤ z ∧ z ≤ 5) : am_Ct l dC dI tc mm4_reachFrom 2 58 [(.inr (.inr (some 22))), .inl x, .inl y, .inl z] (58, f, g, pr_r a b c) (fun r s => r = none ∧ ∃ f' g', s = (58, f', g', pr_r a b c) ∧ zFrS f' f g' g ∧ zLr f' g' ∧ ∀ j, 0 ≤ j → j < 420 → (g' 32 j = 1 ↔ g 32 j = 1 ∨ zTn g x y z j)) := by
  have hI2 := hI
  obtain ⟨i1, i2, i3, i4, i5, i6, i7⟩ := hI2
  have hf := i2 x hx.1 hx.2
  -- behind the first half
  have half : ∀ (F : Nat → Nat → Int) (G : Nat → Int → Int), zFrS F f G g → zLr F G → (∀ j, 0 ≤ j → j < 420 → (G 32 j = 1 ↔ g 32 j = 1 ∨ (0 ≤ j ∧ g 4 x ≠ -1 ∧ zBeh g x y z = j))) → am_wp l dC dI tc mm4_reachFrom 2 58 58 (fun r s => r = none ∧ ∃ f' g', s = (58, f', g', pr_r a b c) ∧ zFrS f' f g' g ∧ zLr f' g' ∧ ∀ j, 0 ≤ j → j < 420 → (g' 32 j = 1 ↔ g 32 j = 1 ∨ zTn g x y z j)) 13 [some (.inr (.inr (some 22))), some (.inl x), some (.inl y), some (.inl z)] [] (58, F, G, pr_r a b c) := by
    intro F G hF hL1 hS
    iterate 7 (refine am_go rfl (by first | exact True.intro | omega | exact ⟨by decide, Nat.le_of_ble_eq_true rfl, Nat.le_of_ble_eq_true rfl⟩ | exact ⟨by decide, Nat.le_of_ble_eq_true rfl⟩) ?_)
    have e2 : F 2 0 = f 2 0 := hF.1 2 0 (Or.inl (by decide))
    refine am_callv rfl (ct_fk _ (by rw [e2]; omega) (by rw [e2]; omega)) (by decide) (Nat.le_of_ble_eq_true rfl) (Nat.le_of_ble_eq_true rfl) ?_
    rw [hF.2 3 _ (by decide)]
    refine am_call rfl (ct_hasKind _ _ _ (zNa_r (hF.I hI) y z).2) (by decide) (Nat.le_of_ble_eq_true rfl) (Nat.le_of_ble_eq_true rfl) (Nat.le_of_ble_eq_true rfl) (fun rv s q => ?_)
    obtain ⟨rfl, ⟨rfl, hq⟩ | ⟨rfl, hq⟩⟩ := q
    · have hkd : zKd g y z (g 3 x) := (hF.Kd y z _).mp hq
      have hz5 : z < 5 := by
        obtain ⟨i, a1, a2, a3⟩ := hkd
        exact (zNa_in (show 0 < zNa g y z by omega)).2.2
      refine am_if rfl (fun c1 => ?_) (fun c1 => ?_)
      · omega
      · iterate 7 (refine am_go rfl (by first | exact True.intro | omega | exact ⟨by decide, Nat.le_of_ble_eq_true rfl, Nat.le_of_ble_eq_true rfl⟩ | exact ⟨by decide, Nat.le_of_ble_eq_true rfl⟩) ?_)
        refine am_callv rfl (ct_stateBehind _ _ _ (by rw [e2]; omega) (by rw [e2]; omega) (by omega) (by omega) (by rw [hF.2 5 _ (by decide)]; exact hf.2.2)) (by decide) (Nat.le_of_ble_eq_true rfl) (Nat.le_of_ble_eq_true rfl) ?_
        rw [hF.Beh]
        obtain ⟨b1, b2⟩ := zBeh_r hI hx hy (show 0 ≤ z + 1 ∧ z + 1 ≤ 5 by omega)
        refine am_call rfl (ct_reachQ _ b1 hL1) (by decide) (Nat.le_of_ble_eq_true rfl) (Nat.le_of_ble_eq_true rfl) (Nat.le_of_ble_eq_true rfl) (fun rv s q => ?_)
        obtain ⟨rfl, F2, G2, rfl, hF2, hL2, hS2⟩ := q
        refine am_vret (x := 0) rfl rfl rfl ⟨rfl, F2, G2, rfl, hF2.tr hF, hL2, fun j j1 j2 => ?_⟩
        rw [hS2 j j1 j2, hS j j1 j2]
        constructor
        · rintro ((u | ⟨u1, u2, u3⟩) | ⟨u1, u2⟩)
          · exact Or.inl u
          · exact Or.inr ⟨u1, Or.inl ⟨u2, u3⟩⟩
          · exact Or.inr ⟨j1, Or.inr ⟨hkd, u2.symm⟩⟩
        · rintro (u | ⟨u1, ⟨u2, u3⟩ | ⟨u2, u3⟩⟩)
          · exact Or.inl (Or.inl u)
          · exact Or.inl (Or.inr ⟨u1, u2, u3⟩)
          · exact Or.inr ⟨by omega, u3.symm⟩
    · have hkd : ¬ zKd g y z (g 3 x) := fun u => by
        obtain ⟨i, a1, a2, a3⟩ := (hF.Kd y z _).mpr u
        exact hq i a1 a2 a3
      refine am_if rfl (fun c1 => ?_) (fun c1 => ?_)
      · refine am_vret (x := 0) rfl rfl rfl ⟨rfl, F, G, rfl, hF, hL1, fun j j1 j2 => ?_⟩
        rw [hS j j1 j2]
        constructor
        · rintro (u | ⟨u1, u2, u3⟩)
          · exact Or.inl u
          · exact Or.inr ⟨u1, Or.inl ⟨u2, u3⟩⟩
        · rintro (u | ⟨u1, ⟨u2, u3⟩ | ⟨u2, u3⟩⟩)
          · exact Or.inl u
          · exact Or.inr ⟨u1, u2, u3⟩
          · exact absurd u2 hkd
      · omega
  refine am_enter ok_4_reachFrom rfl (by decide) (Nat.le_of_ble_eq_true rfl) rfl ?_
  iterate 3 (refine am_go rfl (by first | exact True.intro | omega | exact ⟨by decide, Nat.le_of_ble_eq_true rfl, Nat.le_of_ble_eq_true rfl⟩ | exact ⟨by decide, Nat.le_of_ble_eq_true rfl⟩) ?_)
  refine am_callv rfl (ct_fm _ (by omega) hx) (by decide) (Nat.le_of_ble_eq_true rfl) (Nat.le_of_ble_eq_true rfl) ?_
  (refine am_go rfl (by first | exact True.intro | omega | exact ⟨by decide, Nat.le_of_ble_eq_true rfl, Nat.le_of_ble_eq_true rfl⟩ | exact ⟨by decide, Nat.le_of_ble_eq_true rfl⟩) ?_)
  refine am_if rfl (fun c1 => ?_) (fun c1 => ?_)
  · exact half f g (zFrS.rf f g) hL (fun j j1 j2 => ⟨Or.inl, fun u => u.elim id (fun u => absurd c1 u.2.1)⟩)
  · iterate 5 (refine am_go rfl (by first | exact True.intro | omega | exact ⟨by decide, Nat.le_of_ble_eq_true rfl, Nat.le_of_ble_eq_true rfl⟩ | exact ⟨by decide, Nat.le_of_ble_eq_true rfl⟩) ?_)
    refine am_callv rfl (ct_stateBehind _ _ _ (by omega) hx (by omega) (by omega) hf.2.2) (by decide) (Nat.le_of_ble_eq_true rfl) (Nat.le_of_ble_eq_true rfl) ?_
    obtain ⟨b1, b2⟩ := zBeh_r hI hx hy hz
    refine am_call rfl (ct_reachQ _ b1 hL) (by decide) (Nat.le_of_ble_eq_true rfl) (Nat.le_of_ble_eq_true rfl) (Nat.le_of_ble_eq_true rfl) (fun rv s q => ?_)
    obtain ⟨rfl, F2, G2, rfl, hF2, hL2, hS2⟩ := q
    refine half F2 G2 hF2 hL2 (fun j j1 j2 => ?_)
    rw [hS2 j j1 j2]
    constructor
    · rintro (u | ⟨u1, u2⟩)
      · exact Or.inl u
      · exact Or.inr ⟨j1, c1, u2.symm⟩
    · rintro (u | ⟨u1, u2, u3⟩)
      · exact Or.inl u
      · exact Or.inr ⟨by omega, u3.symm⟩
end Rch

/-! clear, fits, read: side by side -/
section Ops3
variable {l : Launch} {dC : Nat → ClassId} {dI : Nat → Nat → Nat} {tc : Nat → ClassId} {f : Nat → Nat → Int} {g : Nat → Int → Int} {a b c : Nat}
theorem op_clear (h : zSim f g a b c) : zPair l dC dI tc mm0_clear mm6_clear 1 0 [(.inr (.inr (some 0)))] [(.inr (.inr (some 38)))] (58, f, g, pr_r a b c) := by
  have hI := h.I
  have hD := h.D
  obtain ⟨i1, i2, i3, i4, i5, i6, i7⟩ := id hI
  refine ⟨_, ct_clear, by rintro _ _ ⟨rfl, -⟩ <;> exact zRt_i (by decide) ⟨_, rfl⟩, ?_⟩
  rintro r1 s1 ⟨rfl, rfl⟩
  refine ⟨_, cm_clear, ?_⟩
  rintro r2 s2 ⟨rfl, rfl⟩
  have g0 : ∀ c j, c ≠ 13 ∧ c ≠ 14 → (am_fz (am_fz g 13 6) 14 30) c j = g c j := fun c j hc => by
    unfold am_fz
    rw [if_neg (fun u => hc.2 u.1), if_neg (fun u => hc.1 u.1)]
  have g13 : ∀ j, 0 ≤ j → j < 6 → (am_fz (am_fz g 13 6) 14 30) 13 j = 0 := fun j h1 h2 => by
    unfold am_fz
    rw [if_neg (by omega), if_pos ⟨rfl, h1, h2⟩]
  have g14 : ∀ j, 0 ≤ j → j < 30 → (am_fz (am_fz g 13 6) 14 30) 14 j = 0 := fun j h1 h2 => by
    unfold am_fz
    rw [if_pos ⟨rfl, h1, h2⟩]
  have f2 : (am_u1 (am_u1 (am_u1 (am_u1 (am_u1 f 12 0 0) 22 4 0) 38 0 0) 38 13 0) 38 21 0) 2 0 = f 2 0 := by rw [am_u1_ne (by decide), am_u1_ne (by decide), am_u1_ne (by decide), am_u1_ne (by decide), am_u1_ne (by decide)]
  have f18 : (am_u1 (am_u1 (am_u1 (am_u1 (am_u1 f 12 0 0) 22 4 0) 38 0 0) 38 13 0) 38 21 0) 18 0 = f 18 0 := by rw [am_u1_ne (by decide), am_u1_ne (by decide), am_u1_ne (by decide), am_u1_ne (by decide), am_u1_ne (by decide)]
  have f12 : (am_u1 (am_u1 (am_u1 (am_u1 (am_u1 f 12 0 0) 22 4 0) 38 0 0) 38 13 0) 38 21 0) 12 0 = 0 := by rw [am_u1_ne (by decide), am_u1_ne (by decide), am_u1_ne (by decide), am_u1_ne (by decide), am_u1_s]
  have f13 : (am_u1 (am_u1 (am_u1 (am_u1 (am_u1 f 12 0 0) 22 4 0) 38 0 0) 38 13 0) 38 21 0) 38 13 = 0 := by rw [am_u1_ne (by decide), am_u1_s]
  have f38 : ∀ j, j ≠ 0 ∧ j ≠ 13 ∧ j ≠ 21 → (am_u1 (am_u1 (am_u1 (am_u1 (am_u1 f 12 0 0) 22 4 0) 38 0 0) 38 13 0) 38 21 0) 38 j = f 38 j := fun j hj => by rw [am_u1_ne (by omega), am_u1_ne (by omega), am_u1_ne (by omega), am_u1_ne (by omega), am_u1_ne (by omega)]
  refine ⟨?_, _, _, a, b, c, rfl, zSim_dirty h ?_ ?_ ?_ (Or.inl am_u1_s) (fun j => g0 33 j (by decide)) ⟨?_, ?_, ?_, ?_, ?_, ?_⟩ (fun c j hc => g0 c j (by omega))⟩
  · rw [am_u1_ne (by decide), am_u1_ne (by decide), hD.ln]
  · refine ⟨by rw [f2]; exact i1, fun y y1 y2 => ?_, by rw [f12]; omega, fun y y1 y2 => ?_, fun y z y1 y2 z1 z2 => ?_, fun y z i y1 y2 z1 z2 j1 j2 => ?_, by rw [f18]; exact i7⟩
    · rw [f2] at y2
      rw [g0 3 y (by decide), g0 4 y (by decide), g0 5 y (by decide)]
      exact i2 y y1 y2
    · rw [g13 y y1 y2, f12]
      omega
    · rw [g13 y y1 y2, g14 _ (by omega) (by omega)]
      omega
    · rw [g14 _ (by omega) (by omega)] at j2
      omega
  · refine ⟨?_, ?_, ?_, ?_, by rw [f13, f12], fun y y1 y2 => ?_, fun y z y1 y2 => ?_, fun y z i y1 y2 => ?_, ?_, ?_, ?_, ?_, ?_, ?_⟩
    · rw [f2, f38 5 (by decide)]
      exact hD.pn
    · intro y
      rw [f2, g0 3 y (by decide), g0 40 y (by decide)]
      exact hD.kd y
    · intro y
      rw [f2, g0 4 y (by decide), g0 42 y (by decide)]
      exact hD.ms y
    · intro y
      rw [f2, g0 5 y (by decide), g0 41 y (by decide), g0 41 _ (by decide)]
      exact hD.en y
    · rw [f12] at y2
      omega
    · rw [f12] at y2
      omega
    · rw [f12] at y2
      omega
    · rw [f18, f38 19 (by decide)]
      exact hD.tn
    · intro i
      rw [f18, g0 51 _ (by decide), g0 51 _ (by decide), g0 51 _ (by decide), g0 19 i (by decide), g0 20 i (by decide), g0 21 i (by decide)]
      exact hD.td i
    · rw [f2, g0 41 _ (by decide)]
      exact hD.r0
    · intro y
      rw [f2, g0 41 _ (by decide), g0 41 y (by decide)]
      exact hD.rs y
    · rw [f2, f38 4 (by decide), g0 41 _ (by decide)]
      exact hD.rn
    · intro i j
      rw [f2, g0 3 i (by decide), g0 3 j (by decide)]
      exact hD.di i j
  · rw [am_u1_ne (by decide), am_u1_ne (by decide), am_u1_ne (by decide), am_u1_s]
  all_goals rw [am_u1_ne (by decide), am_u1_ne (by decide), am_u1_ne (by decide), am_u1_ne (by decide), am_u1_ne (by decide)]
theorem op_fits (k v w : Int) (h : zSim f g a b c) : zPair l dC dI tc mm0_fits mm6_fits 2 1 [(.inr (.inr (some 0))), .inl k, .inl v, .inl w] [(.inr (.inr (some 38))), .inl k, .inl v, .inl w] (58, f, g, pr_r a b c) := by
  have hI := h.I
  have hD := h.D
  obtain ⟨i1, i2, i3, i4, i5, i6, i7⟩ := id hI
  have e19 := hD.tn
  refine ⟨_, ct_fits k v w i7, by rintro _ _ (⟨-, rfl, -⟩ | ⟨-, rfl, -⟩) <;> exact zRt_i (by decide) ⟨_, rfl⟩, ?_⟩
  rintro r1 s1 (⟨u, rfl, rfl⟩ | ⟨u, rfl, rfl⟩)
  · refine ⟨_, cm_fits k v w (by rw [e19]; exact i7), ?_⟩
    rw [hD.fit, e19]
    rintro r2 s2 (⟨_, rfl, rfl⟩ | ⟨u2, _⟩)
    · exact ⟨rfl, _, _, a, b, c, rfl, zSim_0 h 0⟩
    · exact absurd u u2
  · have F19 : am_u1 (am_u1 f 18 0 (f 18 0 + 1)) 22 4 0 38 19 = f 38 19 := by rw [am_u1_c (by decide), am_u1_c (by decide)]
    have hmf : mFit (am_u1 (am_u1 f 18 0 (f 18 0 + 1)) 22 4 0) (am_u3 (am_u3 (am_u3 g 19 (f 18 0) k) 20 (f 18 0) v) 21 (f 18 0) w) k v w ↔ zFit f g k v w := by
      rw [← hD.fit]
      unfold mFit
      rw [F19]
      have e51 : ∀ j, (am_u3 (am_u3 (am_u3 g 19 (f 18 0) k) 20 (f 18 0) v) 21 (f 18 0) w) 51 j = g 51 j := fun j => by rw [am_u3_c (by decide), am_u3_c (by decide), am_u3_c (by decide)]
      simp only [e51]
    refine ⟨_, cm_fits k v w (by rw [F19, e19]; exact i7), ?_⟩
    rw [hmf, F19]
    rintro r2 s2 (⟨u2, _⟩ | ⟨_, rfl, rfl⟩)
    · rw [e19] at u2
      exact absurd u2 u
    · have f2 : (am_u1 (am_u1 (am_u1 (am_u1 (am_u1 f 18 0 (f 18 0 + 1)) 22 4 0) 38 0 0) 38 19 (f 38 19 + 1)) 38 21 0) 2 0 = f 2 0 := by rw [am_u1_ne (by decide), am_u1_ne (by decide), am_u1_ne (by decide), am_u1_ne (by decide), am_u1_ne (by decide)]
      have f12 : (am_u1 (am_u1 (am_u1 (am_u1 (am_u1 f 18 0 (f 18 0 + 1)) 22 4 0) 38 0 0) 38 19 (f 38 19 + 1)) 38 21 0) 12 0 = f 12 0 := by rw [am_u1_ne (by decide), am_u1_ne (by decide), am_u1_ne (by decide), am_u1_ne (by decide), am_u1_ne (by decide)]
      have f18 : (am_u1 (am_u1 (am_u1 (am_u1 (am_u1 f 18 0 (f 18 0 + 1)) 22 4 0) 38 0 0) 38 19 (f 38 19 + 1)) 38 21 0) 18 0 = f 18 0 + 1 := by rw [am_u1_ne (by decide), am_u1_ne (by decide), am_u1_ne (by decide), am_u1_ne (by decide), am_u1_s]
      have f19 : (am_u1 (am_u1 (am_u1 (am_u1 (am_u1 f 18 0 (f 18 0 + 1)) 22 4 0) 38 0 0) 38 19 (f 38 19 + 1)) 38 21 0) 38 19 = f 18 0 + 1 := by rw [am_u1_ne (by decide), am_u1_s, e19]
      have f38 : ∀ j, j ≠ 0 ∧ j ≠ 19 ∧ j ≠ 21 → (am_u1 (am_u1 (am_u1 (am_u1 (am_u1 f 18 0 (f 18 0 + 1)) 22 4 0) 38 0 0) 38 19 (f 38 19 + 1)) 38 21 0) 38 j = f 38 j := fun j hj => by rw [am_u1_ne (by omega), am_u1_ne (by omega), am_u1_ne (by omega), am_u1_ne (by omega), am_u1_ne (by omega)]
      have g0 : ∀ c j, c ≠ 19 ∧ c ≠ 20 ∧ c ≠ 21 ∧ c ≠ 51 → (am_u3 (am_u3 (am_u3 (am_u3 (am_u3 (am_u3 g 19 (f 18 0) k) 20 (f 18 0) v) 21 (f 18 0) w) 51 (3 * f 38 19) k) 51 (3 * f 38 19 + 1) v) 51 (3 * f 38 19 + 2) w) c j = g c j := fun c j hc => by rw [am_u3_c (by omega), am_u3_c (by omega), am_u3_c (by omega), am_u3_c (by omega), am_u3_c (by omega), am_u3_c (by omega)]
      refine ⟨rfl, _, _, a, b, c, rfl, zSim_dirty h ?_ ?_ ?_ (Or.inl am_u1_s) (fun j => g0 33 j (by decide)) ⟨?_, ?_, ?_, ?_, ?_, ?_⟩ (fun c j hc => g0 c j (by omega))⟩
      · refine ⟨by rw [f2]; exact i1, fun y y1 y2 => ?_, by rw [f12]; exact i3, fun y y1 y2 => ?_, fun y z y1 y2 z1 z2 => ?_, fun y z i y1 y2 z1 z2 j1 j2 => ?_, by rw [f18]; omega⟩
        · rw [f2] at y2
          rw [g0 3 y (by decide), g0 4 y (by decide), g0 5 y (by decide)]
          exact i2 y y1 y2
        · rw [g0 13 y (by decide), f12]
          exact i4 y y1 y2
        · rw [g0 13 y (by decide), g0 14 _ (by decide)]
          exact i5 y z y1 y2 z1 z2
        · rw [g0 14 _ (by decide)] at j2
          rw [g0 16 _ (by decide), g0 17 _ (by decide)]
          exact i6 y z i y1 y2 z1 z2 j1 j2
      · refine ⟨?_, ?_, ?_, ?_, by rw [f38 13 (by decide), f12]; exact hD.ln, ?_, ?_, ?_, by rw [f19, f18], fun i i1 i2 => ?_, ?_, ?_, ?_, ?_⟩
        · rw [f2, f38 5 (by decide)]
          exact hD.pn
        · intro y
          rw [f2, g0 3 y (by decide), g0 40 y (by decide)]
          exact hD.kd y
        · intro y
          rw [f2, g0 4 y (by decide), g0 42 y (by decide)]
          exact hD.ms y
        · intro y
          rw [f2, g0 5 y (by decide), g0 41 y (by decide), g0 41 _ (by decide)]
          exact hD.en y
        · intro y
          rw [f12, g0 46 y (by decide), g0 13 y (by decide)]
          exact hD.pl y
        · intro y z
          rw [f12, g0 13 y (by decide), g0 47 _ (by decide), g0 14 _ (by decide)]
          exact hD.na y z
        · intro y z i
          rw [f12, g0 13 y (by decide), g0 14 _ (by decide), g0 48 _ (by decide), g0 49 _ (by decide), g0 50 _ (by decide), g0 15 _ (by decide), g0 16 _ (by decide), g0 17 _ (by decide)]
          exact hD.al y z i
        · rw [f18] at i2
          have e51 : ∀ j, (am_u3 (am_u3 (am_u3 (am_u3 (am_u3 (am_u3 g 19 (f 18 0) k) 20 (f 18 0) v) 21 (f 18 0) w) 51 (3 * f 38 19) k) 51 (3 * f 38 19 + 1) v) 51 (3 * f 38 19 + 2) w) 51 j = if j = 3 * f 38 19 + 2 then w else if j = 3 * f 38 19 + 1 then v else if j = 3 * f 38 19 then k else g 51 j := fun j => by
            unfold am_u3
            simp
          have e19' : (am_u3 (am_u3 (am_u3 (am_u3 (am_u3 (am_u3 g 19 (f 18 0) k) 20 (f 18 0) v) 21 (f 18 0) w) 51 (3 * f 38 19) k) 51 (3 * f 38 19 + 1) v) 51 (3 * f 38 19 + 2) w) 19 i = if i = f 18 0 then k else g 19 i := by
            unfold am_u3
            simp
          have e20' : (am_u3 (am_u3 (am_u3 (am_u3 (am_u3 (am_u3 g 19 (f 18 0) k) 20 (f 18 0) v) 21 (f 18 0) w) 51 (3 * f 38 19) k) 51 (3 * f 38 19 + 1) v) 51 (3 * f 38 19 + 2) w) 20 i = if i = f 18 0 then v else g 20 i := by
            unfold am_u3
            simp
          have e21' : (am_u3 (am_u3 (am_u3 (am_u3 (am_u3 (am_u3 g 19 (f 18 0) k) 20 (f 18 0) v) 21 (f 18 0) w) 51 (3 * f 38 19) k) 51 (3 * f 38 19 + 1) v) 51 (3 * f 38 19 + 2) w) 21 i = if i = f 18 0 then w else g 21 i := by
            unfold am_u3
            simp
          rw [e51, e51, e51, e19', e20', e21', e19]
          by_cases cc : i = f 18 0
          · rw [cc, if_pos rfl, if_pos rfl, if_pos rfl, if_pos rfl]
            rw [if_neg (by omega), if_neg (by omega), if_pos rfl, if_neg (by omega), if_pos rfl]
            exact ⟨rfl, rfl, rfl⟩
          · have := hD.td i i1 (by omega)
            rw [if_neg cc, if_neg cc, if_neg cc]
            refine ⟨?_, ?_, ?_⟩
            · rw [if_neg (by omega), if_neg (by omega), if_neg (by omega)]
              exact this.1
            · rw [if_neg (by omega), if_neg (by omega), if_neg (by omega)]
              exact this.2.1
            · rw [if_neg (by omega), if_neg (by omega), if_neg (by omega)]
              exact this.2.2
        · rw [f2, g0 41 _ (by decide)]
          exact hD.r0
        · intro y
          rw [f2, g0 41 _ (by decide), g0 41 y (by decide)]
          exact hD.rs y
        · rw [f2, f38 4 (by decide), g0 41 _ (by decide)]
          exact hD.rn
        · intro i j
          rw [f2, g0 3 i (by decide), g0 3 j (by decide)]
          exact hD.di i j
      · rw [am_u1_ne (by decide), am_u1_ne (by decide), am_u1_ne (by decide), am_u1_s]
      all_goals rw [am_u1_ne (by decide), am_u1_ne (by decide), am_u1_ne (by decide), am_u1_ne (by decide), am_u1_ne (by decide)]
end Ops3

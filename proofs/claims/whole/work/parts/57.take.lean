/-! the class reads a form's text -/
def zRC (f : Nat → Nat → Int) (g : Nat → Int → Int) : zPS → Prop
  | (n, K, R, M, U, row, what) => (f 7 0 = n ∧ f 7 1 = row) ∧ ((f 7 6 = 0 ↔ what = 0) ∧ 0 ≤ f 7 6 ∧ f 7 6 ≤ n) ∧ ((2 ≤ what → f 7 7 = what - 2) ∧ (what < 2 → f 7 7 = -1)) ∧ (∀ p, 0 ≤ p → p < n → g 8 p = K p ∧ g 9 p = M p ∧ (g 10 p = 0 ∨ g 10 p = 1) ∧ (g 10 p = 1 ↔ (p + 1 < n ∧ R (p + 1) ≠ R p) ∨ (p + 1 = n ∧ what = 0))) ∧ ∀ k, 0 ≤ k → k < 9 → g 11 k = U k
def zFrP (F f : Nat → Nat → Int) (G g : Nat → Int → Int) : Prop := (∀ x j, x ≠ 7 → F x j = f x j) ∧ ∀ x j, x < 8 ∨ 11 < x → G x j = g x j
theorem zFrP.tr {F F1 f : Nat → Nat → Int} {G G1 g : Nat → Int → Int} (h : zFrP F F1 G G1) (h2 : zFrP F1 f G1 g) : zFrP F f G g := ⟨fun x j hx => (h.1 x j hx).trans (h2.1 x j hx), fun x j hx => (h.2 x j hx).trans (h2.2 x j hx)⟩
section Rc
variable {f : Nat → Nat → Int} {g : Nat → Int → Int} {n row what : Int} {K R M U : Int → Int}
theorem zRC_row (hW : zWf (n, K, R, M, U, row, what)) (hC : zRC f g (n, K, R, M, U, row, what)) (h1 : what ≠ 0) : zRC (am_u1 (am_u1 (am_u1 f 7 1 (f 7 1 + 1)) 7 6 0) 7 7 (-1)) (am_u3 g 10 (f 7 0 - 1) 1) (n, K, R, M, U, row + 1, 0) := by
  obtain ⟨⟨a1, a2⟩, a3, a4, a5, a6⟩ := hC
  have hn := hW.2.2.2.2.2.2.1.2 h1
  refine ⟨⟨?_, ?_⟩, ⟨?_, ?_, ?_⟩, ⟨fun u => by omega, fun _ => am_u1_s⟩, fun p p1 p2 => ?_, fun k k1 k2 => ?_⟩
  · rw [am_u1_j (by decide), am_u1_j (by decide), am_u1_j (by decide)]
    exact a1
  · rw [am_u1_j (by decide), am_u1_j (by decide), am_u1_s, a2]
  · rw [am_u1_j (by decide), am_u1_s]
  · rw [am_u1_j (by decide), am_u1_s]
    omega
  · rw [am_u1_j (by decide), am_u1_s]
    omega
  · obtain ⟨b1, b2, b3, b4⟩ := a5 p p1 p2
    rw [am_u3_c (by decide), am_u3_c (by decide)]
    refine ⟨b1, b2, ?_⟩
    by_cases c : p = n - 1
    · rw [show p = f 7 0 - 1 by omega, am_u3_s]
      exact ⟨Or.inr rfl, ⟨fun _ => Or.inr ⟨by omega, rfl⟩, fun _ => rfl⟩⟩
    · rw [am_u3_j (by omega)]
      refine ⟨b3, b4.trans ⟨fun u => ?_, fun u => ?_⟩⟩
      · rcases u with u | u
        · exact Or.inl u
        · omega
      · rcases u with u | u
        · exact Or.inl u
        · omega
  · rw [am_u3_c (by decide)]
    exact a6 k k1 k2
theorem zRC_mark {w v d : Int} (hW : zWf (n, K, R, M, U, row, what)) (hC : zRC f g (n, K, R, M, U, row, what)) (h1 : what ≠ 0) (hw : 2 ≤ w ∧ w ≤ 5) (hd : d = w - 2) : zRC (am_u1 f 7 7 d) (am_u3 g 9 (f 7 0 - 1) v) (n, K, R, zUp M (n - 1) v, U, row, w) := by
  obtain ⟨⟨a1, a2⟩, a3, a4, a5, a6⟩ := hC
  have hn := hW.2.2.2.2.2.2.1.2 h1
  refine ⟨⟨?_, ?_⟩, ⟨?_, ?_, ?_⟩, ⟨fun u => by rw [am_u1_s]; exact hd, fun u => by omega⟩, fun p p1 p2 => ?_, fun k k1 k2 => ?_⟩
  · rw [am_u1_j (by decide)]
    exact a1
  · rw [am_u1_j (by decide)]
    exact a2
  · rw [am_u1_j (by decide)]
    exact ⟨fun u => absurd (a3.1.mp u) h1, fun u => by omega⟩
  · rw [am_u1_j (by decide)]
    exact a3.2.1
  · rw [am_u1_j (by decide)]
    exact a3.2.2
  · obtain ⟨b1, b2, b3, b4⟩ := a5 p p1 p2
    have e8 : am_u3 g 9 (f 7 0 - 1) v 8 p = g 8 p := am_u3_c (by decide)
    have e10 : am_u3 g 9 (f 7 0 - 1) v 10 p = g 10 p := am_u3_c (by decide)
    rw [e8, e10]
    refine ⟨b1, ?_, b3, b4.trans ⟨fun u => ?_, fun u => ?_⟩⟩
    · by_cases c : p = n - 1
      · rw [show p = f 7 0 - 1 by omega, am_u3_s, a1, zUp_s]
      · rw [am_u3_j (by omega), zUp_n c]
        exact b2
    · rcases u with u | u
      · exact Or.inl u
      · omega
    · rcases u with u | u
      · exact Or.inl u
      · omega
  · rw [am_u3_c (by decide)]
    exact a6 k k1 k2
theorem zRC_part {x : Int} (hW : zWf (n, K, R, M, U, row, what)) (hC : zRC f g (n, K, R, M, U, row, what)) (hx : 0 ≤ x ∧ x < 9) : zRC (am_u1 (am_u1 (am_u1 f 7 0 (f 7 0 + 1)) 7 6 (f 7 6 + 1)) 7 7 (-1)) (am_u3 (am_u3 (am_u3 (am_u3 g 11 x 1) 8 (f 7 0) x) 9 (f 7 0) (-1)) 10 (f 7 0) 0) (n + 1, zUp K n x, zUp R n row, zUp M n (-1), zUp U x 1, row, 1) := by
  obtain ⟨⟨a1, a2⟩, a3, a4, a5, a6⟩ := hC
  have hw10 := hW.2.2.2.2.2.2.1
  have hn0 := hW.1.1
  refine ⟨⟨?_, ?_⟩, ⟨?_, ?_, ?_⟩, ⟨fun u => by omega, fun _ => am_u1_s⟩, fun p p1 p2 => ?_, fun k k1 k2 => ?_⟩
  · rw [am_u1_j (by decide), am_u1_j (by decide), am_u1_s, a1]
  · rw [am_u1_j (by decide), am_u1_j (by decide), am_u1_j (by decide)]
    exact a2
  · rw [am_u1_j (by decide), am_u1_s]
    exact ⟨fun u => by omega, fun u => by omega⟩
  · rw [am_u1_j (by decide), am_u1_s]
    omega
  · rw [am_u1_j (by decide), am_u1_s]
    omega
  · have e8 : (am_u3 (am_u3 (am_u3 (am_u3 g 11 x 1) 8 (f 7 0) x) 9 (f 7 0) (-1)) 10 (f 7 0) 0) 8 p = am_u3 g 8 (f 7 0) x 8 p := by rw [am_u3_c (by decide), am_u3_c (by decide)]; unfold am_u3; simp
    have e9 : (am_u3 (am_u3 (am_u3 (am_u3 g 11 x 1) 8 (f 7 0) x) 9 (f 7 0) (-1)) 10 (f 7 0) 0) 9 p = am_u3 g 9 (f 7 0) (-1) 9 p := by rw [am_u3_c (by decide)]; unfold am_u3; simp
    have e10 : (am_u3 (am_u3 (am_u3 (am_u3 g 11 x 1) 8 (f 7 0) x) 9 (f 7 0) (-1)) 10 (f 7 0) 0) 10 p = am_u3 g 10 (f 7 0) 0 10 p := by unfold am_u3; simp
    rw [e8, e9, e10]
    by_cases c : p = n
    · rw [c, a1, am_u3_s, am_u3_s, am_u3_s, zUp_s, zUp_s]
      exact ⟨rfl, rfl, Or.inl rfl, ⟨fun u => by omega, fun u => by omega⟩⟩
    · obtain ⟨b1, b2, b3, b4⟩ := a5 p p1 (by omega)
      rw [am_u3_j (by omega), am_u3_j (by omega), am_u3_j (by omega), zUp_n c, zUp_n c, zUp_n c]
      refine ⟨b1, b2, b3, b4.trans ?_⟩
      by_cases c2 : p + 1 = n
      · rw [c2, zUp_s]
        rw [show n - 1 = p by omega] at hw10
        constructor
        · rintro (u | u)
          · omega
          · have := hw10.1 u.2
            exact Or.inl ⟨by omega, by omega⟩
        · rintro (u | u)
          · refine Or.inr ⟨rfl, Classical.byContradiction (fun w => ?_)⟩
            have := hw10.2 w
            omega
          · omega
      · rw [zUp_n c2]
        constructor
        · rintro (u | u)
          · exact Or.inl ⟨by omega, u.2⟩
          · omega
        · rintro (u | u)
          · exact Or.inl ⟨by omega, u.2⟩
          · omega
  · rw [am_u3_c (by decide), am_u3_c (by decide), am_u3_c (by decide)]
    by_cases c : k = x
    · rw [c, am_u3_s, zUp_s]
    · rw [am_u3_j c, zUp_n c]
      exact a6 k k1 k2
theorem zRC_0 (f : Nat → Nat → Int) (g : Nat → Int → Int) : zRC (am_u1 (am_u1 (am_u1 (am_u1 f 7 0 0) 7 1 0) 7 6 0) 7 7 (-1)) (am_fz g 11 9) zS0 := by
  refine ⟨⟨?_, ?_⟩, ⟨?_, ?_, ?_⟩, ⟨fun u => absurd u (by decide), fun _ => am_u1_s⟩, fun p p1 p2 => by omega, fun k k1 k2 => ?_⟩
  · rw [am_u1_j (by decide), am_u1_j (by decide), am_u1_j (by decide), am_u1_s]
  · rw [am_u1_j (by decide), am_u1_j (by decide), am_u1_s]
  · rw [am_u1_j (by decide), am_u1_s]
  · rw [am_u1_j (by decide), am_u1_s]
    omega
  · rw [am_u1_j (by decide), am_u1_s]
    omega
  · unfold am_fz
    rw [if_pos ⟨rfl, k1, k2⟩]
end Rc
section Tk
variable {l : Launch} {dC : Nat → ClassId} {dI : Nat → Nat → Nat} {tc : Nat → ClassId} {f : Nat → Nat → Int} {g : Nat → Int → Int} {a b c : Nat}
variable {n row what : Int} {K R M U : Int → Int}
set_option maxRecDepth 100000 in
set_option maxHeartbeats 4000000 in
theorem ct_take (x : Int) (hx : 32 ≤ x ∧ x ≤ 126) (hW : zWf (n, K, R, M, U, row, what)) (hC : zRC f g (n, K, R, M, U, row, what)) : am_Ct l dC dI tc mm1_take 4 58 [(.inr (.inr (some 7))), .inl x] (58, f, g, pr_r a b c) (fun r s => (r = some (.inl 0) ∧ zStep (n, K, R, M, U, row, what) x = none ∧ s = (58, f, g, pr_r a b c)) ∨ (r = some (.inl 1) ∧ ∃ s' F G, zStep (n, K, R, M, U, row, what) x = some s' ∧ s = (58, F, G, pr_r a b c) ∧ zFrP F f G g ∧ zRC F G s')) := by
  have hC0 := hC
  have hW0 := hW
  obtain ⟨⟨a1, a2⟩, a3, a4, a5, a6⟩ := hC
  obtain ⟨⟨h1, h2⟩, h3, h4, h5, h6, ⟨h8, h9⟩, ⟨h10, h11⟩, h13, h12⟩ := hW
  have a41 := a4.1
  have a42 := a4.2
  have a31 := a3.1
  have a32 := a3.2
  refine am_enter ok_1_take rfl (by decide) (Nat.le_of_ble_eq_true rfl) rfl ?_
  iterate 2 (refine am_go rfl (by first | exact True.intro | omega | exact ⟨by decide, Nat.le_of_ble_eq_true rfl, Nat.le_of_ble_eq_true rfl⟩ | exact ⟨by decide, Nat.le_of_ble_eq_true rfl⟩) ?_)
  refine am_if rfl (fun c1 => ?_) (fun c1 => ?_)
  · iterate 2 (refine am_go rfl (by first | exact True.intro | omega | exact ⟨by decide, Nat.le_of_ble_eq_true rfl, Nat.le_of_ble_eq_true rfl⟩ | exact ⟨by decide, Nat.le_of_ble_eq_true rfl⟩) ?_)
    refine am_if rfl (fun c2 => ?_) (fun c2 => ?_)
    · have lett : (¬ (48 ≤ x ∧ x ≤ 57)) → am_wp l dC dI tc mm1_take 4 58 58 (fun r s => (r = some (.inl 0) ∧ zStep (n, K, R, M, U, row, what) x = none ∧ s = (58, f, g, pr_r a b c)) ∨ (r = some (.inl 1) ∧ ∃ s' F G, zStep (n, K, R, M, U, row, what) x = some s' ∧ s = (58, F, G, pr_r a b c) ∧ zFrP F f G g ∧ zRC F G s')) 24 [some (.inr (.inr (some 7))), some (.inl x)] [] (58, f, g, pr_r a b c) := by
        intro hdg
        iterate 3 (refine am_go rfl (by first | exact True.intro | omega | exact ⟨by decide, Nat.le_of_ble_eq_true rfl, Nat.le_of_ble_eq_true rfl⟩ | exact ⟨by decide, Nat.le_of_ble_eq_true rfl⟩) ?_)
        (refine am_callJ (q := 0) (na := 2) rfl rfl (by decide) rfl (by decide +kernel) (by decide +kernel) (by decide +kernel) (by decide +kernel) (by decide +kernel) (by decide +kernel) (cj_indexOf x (by omega)) (by decide) (Nat.le_refl _) (Nat.le_of_ble_eq_true rfl) (fun rv s q => ?_))
        obtain ⟨rfl, q1, rfl, q2⟩ := q
        obtain rfl := zIxR_ix q2
        have hr := zIx_r x
        have hu : ∀ k, 0 ≤ k → k < 9 → g 11 k = U k := a6
        (refine am_callv rfl (ct_takePart (zIx x) (by omega) (by omega)) (by decide) (Nat.le_of_ble_eq_true rfl) (Nat.le_of_ble_eq_true rfl) ?_)
        by_cases cc : (zIx x < 0 ∨ 9 ≤ zIx x) ∨ g 11 (zIx x) ≠ 0 ∨ f 7 7 = 0 ∨ 9 ≤ f 7 0
        · rw [if_pos cc, if_pos cc]
          refine am_zret rfl rfl (by first | exact Or.inl rfl | exact Or.inr rfl) rfl (Or.inl ⟨rfl, ?_, rfl⟩)
          have hno : ¬ (what ≠ 2 ∧ zIx x ≠ -1 ∧ U (zIx x) = 0) := by
            rintro ⟨w1, w2, w3⟩
            have h99 := zWf_full hW0 (k := zIx x) (by omega) w3
            have h11u := hu (zIx x) (by omega) (by omega)
            have : f 7 7 ≠ 0 := by
              by_cases w : 2 ≤ what
              · have := a41 w
                omega
              · have := a42 (by omega)
                omega
            omega
          simp only [zStep]
          rw [if_neg hno, if_neg (by omega), if_neg (by omega), if_neg (by omega)]
        · rw [if_neg cc, if_neg cc]
          have h11u := hu (zIx x) (by omega) (by omega)
          have w2 : what ≠ 2 := fun u => by
            have := a41 (by omega)
            omega
          refine am_zret rfl rfl (by first | exact Or.inl rfl | exact Or.inr rfl) rfl (Or.inr ⟨rfl, _, _, _, ?_, rfl, ⟨fun y j hy => by simp only [am_u1_c hy], fun y j hy => by first | rw [am_u3_c (by omega), am_u3_c (by omega), am_u3_c (by omega), am_u3_c (by omega)] | rw [am_u3_c (by omega)]⟩, zRC_part (x := zIx x) hW0 hC0 (by omega)⟩)
          simp only [zStep]
          rw [if_pos ⟨w2, by omega, by omega⟩]
      iterate 2 (refine am_go rfl (by first | exact True.intro | omega | exact ⟨by decide, Nat.le_of_ble_eq_true rfl, Nat.le_of_ble_eq_true rfl⟩ | exact ⟨by decide, Nat.le_of_ble_eq_true rfl⟩) ?_)
      refine am_if rfl (fun c3 => ?_) (fun c3 => ?_)
      · exact lett (by omega)
      · iterate 2 (refine am_go rfl (by first | exact True.intro | omega | exact ⟨by decide, Nat.le_of_ble_eq_true rfl, Nat.le_of_ble_eq_true rfl⟩ | exact ⟨by decide, Nat.le_of_ble_eq_true rfl⟩) ?_)
        refine am_if rfl (fun c4 => ?_) (fun c4 => ?_)
        · exact lett (by omega)
        · have hix : zIx x = -1 := Classical.byContradiction (fun u => (zIx_sg u).2.2 (by omega))
          have hm9 : 0 < f 7 0 → -1 ≤ g 9 (f 7 0 - 1) ∧ g 9 (f 7 0 - 1) ≤ 999 := fun u => by
            rw [a1] at u ⊢
            rw [(a5 (n - 1) (by omega) (by omega)).2.1]
            exact (h4 (n - 1) (by omega) (by omega)).2
          have hf7 : -1 ≤ f 7 7 := by
            by_cases w : 2 ≤ what
            · have := a41 w
              omega
            · have := a42 (by omega)
              omega
          iterate 4 (refine am_go rfl (by first | exact True.intro | omega | exact ⟨by decide, Nat.le_of_ble_eq_true rfl, Nat.le_of_ble_eq_true rfl⟩ | exact ⟨by decide, Nat.le_of_ble_eq_true rfl⟩) ?_)
          (refine am_callv rfl (ct_takeDigit (x - 48) (by omega) (by omega) hm9 hf7) (by decide) (Nat.le_of_ble_eq_true rfl) (Nat.le_of_ble_eq_true rfl) ?_)
          by_cases cc : f 7 7 = -1 ∨ 3 ≤ f 7 7 ∨ f 7 0 ≤ 0
          · rw [if_pos cc, if_pos cc]
            refine am_zret rfl rfl (by first | exact Or.inl rfl | exact Or.inr rfl) rfl (Or.inl ⟨rfl, ?_, rfl⟩)
            simp only [zStep]
            rw [if_neg (by omega), if_neg (by omega), if_neg (by omega), if_neg ?_]
            rintro ⟨_, w1, w2⟩
            have := a41 (by omega)
            have := h11 (by omega)
            omega
          · rw [if_neg cc, if_neg cc]
            have w2 : 2 ≤ what ∧ what < 5 := by
              by_cases w : 2 ≤ what
              · have := a41 w
                omega
              · have := a42 (by omega)
                omega
            have hdd := a41 w2.1
            have hgm : g 9 (f 7 0 - 1) * 10 + (x - 48) = 10 * M (n - 1) + (x - 48) := by
              rw [a1, (a5 (n - 1) (by omega) (by omega)).2.1]
              omega
            rw [hgm]
            refine am_zret rfl rfl (by first | exact Or.inl rfl | exact Or.inr rfl) rfl (Or.inr ⟨rfl, _, _, _, ?_, rfl, ⟨fun y j hy => by simp only [am_u1_c hy], fun y j hy => by first | rw [am_u3_c (by omega), am_u3_c (by omega), am_u3_c (by omega), am_u3_c (by omega)] | rw [am_u3_c (by omega)]⟩, zRC_mark (w := what + 1) hW0 hC0 (by omega) (by omega) (by omega)⟩)
            simp only [zStep]
            rw [if_neg (by omega), if_neg (by omega), if_neg (by omega), if_pos (by omega)]
    · have hix : zIx x = -1 := Classical.byContradiction (fun u => (zIx_sg u).2.1 (by omega))
      (refine am_go rfl (by first | exact True.intro | omega | exact ⟨by decide, Nat.le_of_ble_eq_true rfl, Nat.le_of_ble_eq_true rfl⟩ | exact ⟨by decide, Nat.le_of_ble_eq_true rfl⟩) ?_)
      (refine am_callv rfl (ct_takeMark (by omega)) (by decide) (Nat.le_of_ble_eq_true rfl) (Nat.le_of_ble_eq_true rfl) ?_)
      by_cases cc : f 7 6 = 0 ∨ f 7 7 ≠ -1 ∨ f 7 0 ≤ 0
      · rw [if_pos cc, if_pos cc]
        refine am_zret rfl rfl (by first | exact Or.inl rfl | exact Or.inr rfl) rfl (Or.inl ⟨rfl, ?_, rfl⟩)
        simp only [zStep]
        rw [if_neg (by omega), if_neg (by omega), if_neg ?_, if_neg (by omega)]
        rintro ⟨_, w1⟩
        have := a42 (by omega)
        have := h11 (by omega)
        have : ¬ f 7 6 = 0 := fun u => by have := a31.mp u; omega
        omega
      · rw [if_neg cc, if_neg cc]
        have w1 : what = 1 := by
          have : what ≠ 0 := fun u => by have := a31.mpr u; omega
          by_cases w : 2 ≤ what
          · have := a41 w
            omega
          · omega
        refine am_zret rfl rfl (by first | exact Or.inl rfl | exact Or.inr rfl) rfl (Or.inr ⟨rfl, _, _, _, ?_, rfl, ⟨fun y j hy => by simp only [am_u1_c hy], fun y j hy => by first | rw [am_u3_c (by omega), am_u3_c (by omega), am_u3_c (by omega), am_u3_c (by omega)] | rw [am_u3_c (by omega)]⟩, zRC_mark (w := 2) hW0 hC0 (by omega) (by omega) (by omega)⟩)
        simp only [zStep]
        rw [if_neg (by omega), if_neg (by omega), if_pos (by omega)]
  · have hix : zIx x = -1 := Classical.byContradiction (fun u => (zIx_sg u).1 (by omega))
    (refine am_go rfl (by first | exact True.intro | omega | exact ⟨by decide, Nat.le_of_ble_eq_true rfl, Nat.le_of_ble_eq_true rfl⟩ | exact ⟨by decide, Nat.le_of_ble_eq_true rfl⟩) ?_)
    (refine am_callv rfl (ct_takeRowEnd (by omega) (by omega)) (by decide) (Nat.le_of_ble_eq_true rfl) (Nat.le_of_ble_eq_true rfl) ?_)
    by_cases cc : f 7 6 = 0 ∨ f 7 7 = 0 ∨ f 7 0 ≤ 0
    · rw [if_pos cc, if_pos cc]
      refine am_zret rfl rfl (by first | exact Or.inl rfl | exact Or.inr rfl) rfl (Or.inl ⟨rfl, ?_, rfl⟩)
      simp only [zStep]
      rw [if_neg (by omega), if_neg ?_, if_neg (by omega), if_neg (by omega)]
      rintro ⟨_, w1, w2⟩
      have := h11 w1
      have : ¬ f 7 6 = 0 := fun u => w1 (a31.mp u)
      have : f 7 7 ≠ 0 := by
        by_cases w : 2 ≤ what
        · have := a41 w
          omega
        · have := a42 (by omega)
          omega
      omega
    · rw [if_neg cc, if_neg cc]
      have w0 : what ≠ 0 := fun u => by have := a31.mpr u; omega
      have w2 : what ≠ 2 := fun u => by
        have := a41 (by omega)
        omega
      refine am_zret rfl rfl (by first | exact Or.inl rfl | exact Or.inr rfl) rfl (Or.inr ⟨rfl, _, _, _, ?_, rfl, ⟨fun y j hy => by simp only [am_u1_c hy], fun y j hy => by first | rw [am_u3_c (by omega), am_u3_c (by omega), am_u3_c (by omega), am_u3_c (by omega)] | rw [am_u3_c (by omega)]⟩, zRC_row hW0 hC0 w0⟩)
      simp only [zStep]
      rw [if_neg (by omega), if_pos ⟨by omega, w0, w2⟩]
end Tk

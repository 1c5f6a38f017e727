/-! the class's fill and become -/
section Fil
variable {l : Launch} {dC : Nat → ClassId} {dI : Nat → Nat → Nat} {tc : Nat → ClassId} {f : Nat → Nat → Int} {g : Nat → Int → Int} {a b c : Nat}
set_option maxRecDepth 100000 in
set_option maxHeartbeats 4000000 in
theorem ct_fill (n : Nat) (hn : n ≤ 60) (ht : ∀ i : Nat, i < n → 32 ≤ g 1 i ∧ g 1 i ≤ 126) : am_Ct l dC dI tc mm1_fill 5 58 [(.inr (.inr (some 7))), (.inr (.inr (some 1))), .inl (n : Int)] (58, f, g, pr_r a b c) (fun r s => r = some (.inl ((zRun (g 1) n 0 zS0).1)) ∧ ∃ F G, s = (58, F, G, pr_r a b c) ∧ zFrP F f G g ∧ zRC F G ((zRun (g 1) n 0 zS0).2)) := by
  refine am_enter ok_1_fill rfl (by decide) (Nat.le_of_ble_eq_true rfl) rfl ?_
  have loop : ∀ (m i : Nat) (s : zPS) (F : Nat → Nat → Int) (G : Nat → Int → Int), i + m = n → zWf s → zRC F G s → zFrP F f G g → zRun (g 1) m i s = zRun (g 1) n 0 zS0 → am_wp l dC dI tc mm1_fill 5 58 58 (fun r s => r = some (.inl ((zRun (g 1) n 0 zS0).1)) ∧ ∃ F G, s = (58, F, G, pr_r a b c) ∧ zFrP F f G g ∧ zRC F G ((zRun (g 1) n 0 zS0).2)) 4 [some (.inr (.inr (some 7))), some (.inr (.inr (some 1))), some (.inl (n : Int)), some (.inl (i : Int))] [] (58, F, G, pr_r a b c) := by
    intro m
    induction m with
    | zero =>
      intro i s F G hi hW hC hf hz
      obtain ⟨n0, K, R, M, U, row, what⟩ := s
      have hC0 := hC
      obtain ⟨⟨a1, a2⟩, a3, -⟩ := hC
      obtain ⟨-, -, -, -, -, ⟨h8, h9⟩, -⟩ := hW
      have a31 := a3.1
      simp only [zRun] at hz
      rw [← hz]
      have hz2 : zRC F G (n0, K, R, M, U, row, what) := hC0
      iterate 2 (refine am_go rfl (by first | exact True.intro | omega | exact ⟨by decide, Nat.le_of_ble_eq_true rfl, Nat.le_of_ble_eq_true rfl⟩ | exact ⟨by decide, Nat.le_of_ble_eq_true rfl⟩) ?_)
      refine am_if rfl (fun c1 => ?_) (fun c1 => by omega)
      iterate 2 (refine am_go rfl (by first | exact True.intro | omega | exact ⟨by decide, Nat.le_of_ble_eq_true rfl, Nat.le_of_ble_eq_true rfl⟩ | exact ⟨by decide, Nat.le_of_ble_eq_true rfl⟩) ?_)
      refine am_if rfl (fun c2 => ?_) (fun c2 => ?_)
      · (refine am_go rfl (by first | exact True.intro | omega | exact ⟨by decide, Nat.le_of_ble_eq_true rfl, Nat.le_of_ble_eq_true rfl⟩ | exact ⟨by decide, Nat.le_of_ble_eq_true rfl⟩) ?_)
        refine am_iret rfl rfl rfl ⟨?_, F, G, rfl, hf, hz2⟩
        rw [if_neg (by omega), show i = n by omega]
      · iterate 2 (refine am_go rfl (by first | exact True.intro | omega | exact ⟨by decide, Nat.le_of_ble_eq_true rfl, Nat.le_of_ble_eq_true rfl⟩ | exact ⟨by decide, Nat.le_of_ble_eq_true rfl⟩) ?_)
        refine am_if rfl (fun c3 => ?_) (fun c3 => ?_)
        · (refine am_go rfl (by first | exact True.intro | omega | exact ⟨by decide, Nat.le_of_ble_eq_true rfl, Nat.le_of_ble_eq_true rfl⟩ | exact ⟨by decide, Nat.le_of_ble_eq_true rfl⟩) ?_)
          refine am_iret rfl rfl rfl ⟨?_, F, G, rfl, hf, hz2⟩
          rw [if_neg (fun u => c3 (a31.mpr u.1)), show i = n by omega]
        · iterate 2 (refine am_go rfl (by first | exact True.intro | omega | exact ⟨by decide, Nat.le_of_ble_eq_true rfl, Nat.le_of_ble_eq_true rfl⟩ | exact ⟨by decide, Nat.le_of_ble_eq_true rfl⟩) ?_)
          refine am_iret rfl rfl rfl ⟨?_, F, G, rfl, hf, hz2⟩
          rw [if_pos ⟨a31.mp (Classical.byContradiction c3), by omega⟩]
    | succ m ih =>
      intro i s F G hi hW hC hf hz
      have g1 : G 1 i = g 1 i := hf.2 1 i (Or.inl (by decide))
      have hti := ht i (by omega)
      iterate 2 (refine am_go rfl (by first | exact True.intro | omega | exact ⟨by decide, Nat.le_of_ble_eq_true rfl, Nat.le_of_ble_eq_true rfl⟩ | exact ⟨by decide, Nat.le_of_ble_eq_true rfl⟩) ?_)
      refine am_if rfl (fun c1 => by omega) (fun c1 => ?_)
      iterate 3 (refine am_go rfl (by first | exact True.intro | omega | exact ⟨by decide, Nat.le_of_ble_eq_true rfl, Nat.le_of_ble_eq_true rfl⟩ | exact ⟨by decide, Nat.le_of_ble_eq_true rfl⟩) ?_)
      refine am_if rfl (fun c2 => by omega) (fun c2 => ?_)
      iterate 4 (refine am_go rfl (by first | exact True.intro | omega | exact ⟨by decide, Nat.le_of_ble_eq_true rfl, Nat.le_of_ble_eq_true rfl⟩ | exact ⟨by decide, Nat.le_of_ble_eq_true rfl⟩) ?_)
      rw [g1]
      obtain ⟨n0, K, R, M, U, row, what⟩ := s
      refine am_call rfl (ct_take (g 1 i) hti hW hC) (by decide) (Nat.le_of_ble_eq_true rfl) (Nat.le_of_ble_eq_true rfl) (Nat.le_of_ble_eq_true rfl) (fun rv s q => ?_)
      rcases q with ⟨rfl, q1, rfl⟩ | ⟨rfl, s', F', G', q1, rfl, q2, q3⟩
      · refine am_if rfl (fun c3 => by omega) (fun c3 => ?_)
        (refine am_go rfl (by first | exact True.intro | omega | exact ⟨by decide, Nat.le_of_ble_eq_true rfl, Nat.le_of_ble_eq_true rfl⟩ | exact ⟨by decide, Nat.le_of_ble_eq_true rfl⟩) ?_)
        simp only [zRun, q1] at hz
        refine am_iret rfl rfl rfl ?_
        rw [← hz]
        exact ⟨rfl, F, G, rfl, hf, hC⟩
      · refine am_if rfl (fun c3 => ?_) (fun c3 => by omega)
        iterate 2 (refine am_go rfl (by first | exact True.intro | omega | exact ⟨by decide, Nat.le_of_ble_eq_true rfl, Nat.le_of_ble_eq_true rfl⟩ | exact ⟨by decide, Nat.le_of_ble_eq_true rfl⟩) ?_)
        simp only [zRun, q1] at hz
        exact ih (i + 1) s' F' G' (by omega) (zWf_s hW q1) q3 (q2.tr hf) hz
  (refine am_go rfl (by first | exact True.intro | omega | exact ⟨by decide, Nat.le_of_ble_eq_true rfl, Nat.le_of_ble_eq_true rfl⟩ | exact ⟨by decide, Nat.le_of_ble_eq_true rfl⟩) ?_)
  (refine am_calln rfl (ct_empty) (by decide) (Nat.le_of_ble_eq_true rfl) (Nat.le_of_ble_eq_true rfl) ?_)
  iterate 2 (refine am_go rfl (by first | exact True.intro | omega | exact ⟨by decide, Nat.le_of_ble_eq_true rfl, Nat.le_of_ble_eq_true rfl⟩ | exact ⟨by decide, Nat.le_of_ble_eq_true rfl⟩) ?_)
  refine loop n 0 zS0 _ _ (by omega) zWf_0 (zRC_0 f g) ⟨fun x j hx => ?_, fun x j hx => ?_⟩ rfl
  · rw [am_u1_c hx, am_u1_c hx, am_u1_c hx, am_u1_c hx]
  · unfold am_fz
    rw [if_neg (by omega)]
set_option maxRecDepth 100000 in
set_option maxHeartbeats 4000000 in
theorem ct_become (hn : 0 ≤ f 7 0 ∧ f 7 0 ≤ 9) (hb : ∀ p, 0 ≤ p → p < f 7 0 → g 10 p = 0 ∨ g 10 p = 1) : am_Ct l dC dI tc mm1_become 0 58 [(.inr (.inr (some 2))), (.inr (.inr (some 7)))] (58, f, g, pr_r a b c) (fun r s => r = none ∧ ∃ G, s = (58, am_u1 (am_u1 f 2 0 (f 7 0)) 2 1 (f 7 1), G, pr_r a b c) ∧ (∀ p, 0 ≤ p → p < f 7 0 → G 3 p = g 8 p ∧ G 4 p = g 9 p ∧ G 5 p = g 10 p) ∧ ∀ x j, x ≠ 3 ∧ x ≠ 4 ∧ x ≠ 5 → G x j = g x j) := by
  refine am_enter ok_1_become rfl (by decide) (Nat.le_of_ble_eq_true rfl) rfl ?_
  have e0 : (am_u1 (am_u1 f 2 0 (f 7 0)) 2 1 (f 7 1)) 2 0 = f 7 0 := by rw [am_u1_j (by decide), am_u1_s]
  have loop : ∀ (m k : Nat) (G : Nat → Int → Int), (k : Int) + m = f 7 0 → (∀ p, 0 ≤ p → p < (k : Int) → G 3 p = g 8 p ∧ G 4 p = g 9 p ∧ G 5 p = g 10 p) → (∀ x j, x ≠ 3 ∧ x ≠ 4 ∧ x ≠ 5 → G x j = g x j) → am_wp l dC dI tc mm1_become 0 58 58 (fun r s => r = none ∧ ∃ G, s = (58, am_u1 (am_u1 f 2 0 (f 7 0)) 2 1 (f 7 1), G, pr_r a b c) ∧ (∀ p, 0 ≤ p → p < f 7 0 → G 3 p = g 8 p ∧ G 4 p = g 9 p ∧ G 5 p = g 10 p) ∧ ∀ x j, x ≠ 3 ∧ x ≠ 4 ∧ x ≠ 5 → G x j = g x j) 10 [some (.inr (.inr (some 2))), some (.inr (.inr (some 7))), some (.inl (k : Int))] [] (58, (am_u1 (am_u1 f 2 0 (f 7 0)) 2 1 (f 7 1)), G, pr_r a b c) := by
    intro m
    induction m with
    | zero =>
      intro k G hk h1 h2
      iterate 3 (refine am_go rfl (by first | exact True.intro | omega | exact ⟨by decide, Nat.le_of_ble_eq_true rfl, Nat.le_of_ble_eq_true rfl⟩ | exact ⟨by decide, Nat.le_of_ble_eq_true rfl⟩) ?_)
      rw [e0]
      refine am_if rfl (fun c1 => ?_) (fun c1 => by omega)
      exact am_vret (x := 0) rfl rfl rfl ⟨rfl, G, rfl, fun p p1 p2 => h1 p p1 (by omega), h2⟩
    | succ m ih =>
      intro k G hk h1 h2
      have hbk := hb k (by omega) (by omega)
      iterate 3 (refine am_go rfl (by first | exact True.intro | omega | exact ⟨by decide, Nat.le_of_ble_eq_true rfl, Nat.le_of_ble_eq_true rfl⟩ | exact ⟨by decide, Nat.le_of_ble_eq_true rfl⟩) ?_)
      rw [e0]
      refine am_if rfl (fun c1 => by omega) (fun c1 => ?_)
      iterate 2 (refine am_go rfl (by first | exact True.intro | omega | exact ⟨by decide, Nat.le_of_ble_eq_true rfl, Nat.le_of_ble_eq_true rfl⟩ | exact ⟨by decide, Nat.le_of_ble_eq_true rfl⟩) ?_)
      refine am_if rfl (fun c1 => by omega) (fun c1 => ?_)
      iterate 7 (refine am_go rfl (by first | exact True.intro | omega | exact ⟨by decide, Nat.le_of_ble_eq_true rfl, Nat.le_of_ble_eq_true rfl⟩ | exact ⟨by decide, Nat.le_of_ble_eq_true rfl⟩) ?_)
      rw [h2 8 _ (by decide)]
      iterate 8 (refine am_go rfl (by first | exact True.intro | omega | exact ⟨by decide, Nat.le_of_ble_eq_true rfl, Nat.le_of_ble_eq_true rfl⟩ | exact ⟨by decide, Nat.le_of_ble_eq_true rfl⟩) ?_)
      rw [am_u3_c (show (9 : Nat) ≠ 3 by decide), h2 9 _ (by decide)]
      iterate 8 (refine am_go rfl (by first | exact True.intro | omega | exact ⟨by decide, Nat.le_of_ble_eq_true rfl, Nat.le_of_ble_eq_true rfl⟩ | exact ⟨by decide, Nat.le_of_ble_eq_true rfl⟩) ?_)
      rw [am_u3_c (show (10 : Nat) ≠ 4 by decide), am_u3_c (show (10 : Nat) ≠ 3 by decide), h2 10 _ (by decide)]
      iterate 3 (refine am_go rfl (by first | exact True.intro | omega | exact ⟨by decide, Nat.le_of_ble_eq_true rfl, Nat.le_of_ble_eq_true rfl⟩ | exact ⟨by decide, Nat.le_of_ble_eq_true rfl⟩) ?_)
      refine ih (k + 1) _ (by omega) (fun p p1 p2 => ?_) (fun x j hx => ?_)
      · by_cases c : p = (k : Int)
        · rw [c]
          refine ⟨?_, ?_, am_u3_s⟩
          · rw [am_u3_c (by decide), am_u3_c (by decide), am_u3_s]
          · rw [am_u3_c (by decide), am_u3_s]
        · obtain ⟨b1, b2, b3⟩ := h1 p p1 (by omega)
          refine ⟨?_, ?_, ?_⟩
          · rw [am_u3_c (by decide), am_u3_c (by decide), am_u3_j c]
            exact b1
          · rw [am_u3_c (by decide), am_u3_j c, am_u3_c (by decide)]
            exact b2
          · rw [am_u3_j c, am_u3_c (by decide), am_u3_c (by decide)]
            exact b3
      · rw [am_u3_c hx.2.2, am_u3_c hx.2.1, am_u3_c hx.1]
        exact h2 x j hx
  iterate 7 (refine am_go rfl (by first | exact True.intro | omega | exact ⟨by decide, Nat.le_of_ble_eq_true rfl, Nat.le_of_ble_eq_true rfl⟩ | exact ⟨by decide, Nat.le_of_ble_eq_true rfl⟩) ?_)
  rw [show am_u1 f 2 0 (f 7 0) 7 1 = f 7 1 from am_u1_c (by decide)]
  iterate 3 (refine am_go rfl (by first | exact True.intro | omega | exact ⟨by decide, Nat.le_of_ble_eq_true rfl, Nat.le_of_ble_eq_true rfl⟩ | exact ⟨by decide, Nat.le_of_ble_eq_true rfl⟩) ?_)
  exact loop (f 7 0).toNat 0 g (by omega) (fun p p1 p2 => by omega) (fun _ _ _ => rfl)
end Fil

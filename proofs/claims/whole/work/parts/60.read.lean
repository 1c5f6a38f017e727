/-! the reference's read -/
section Rd2
variable {l : Launch} {dC : Nat → ClassId} {dI : Nat → Nat → Nat} {tc : Nat → ClassId} {f : Nat → Nat → Int} {g : Nat → Int → Int} {a b c : Nat}
variable {n row what : Int} {K R M U : Int → Int}
set_option maxRecDepth 100000 in
set_option maxHeartbeats 4000000 in
theorem wp_read28 {Q : Option am_V → am_H → Prop} (x : Int) (hn : 0 < n ∧ n ≤ 9) (h5 : f 38 5 = n) (hR : 0 ≤ R (n - 1) ∧ R (n - 1) ≤ 9) (hM : ∀ p, 0 ≤ p → p < n → g 43 p = K p ∧ g 44 p = R p ∧ g 45 p = M p)
    (Kn : ∀ G, (∀ p, 0 ≤ p → p < n → G 40 p = K p ∧ G 41 p = R p ∧ G 42 p = M p) → (∀ y j, y ≠ 40 ∧ y ≠ 41 ∧ y ≠ 42 → G y j = g y j) → Q (some (.inl (R (n - 1) + 1))) (58, am_u1 (am_u1 f 38 4 (R (n - 1) + 1)) 38 21 0, G, pr_r a b c)) : ∀ (m k : Nat) (G : Nat → Int → Int), (k : Int) + m = n → (∀ p, 0 ≤ p → p < (k : Int) → G 40 p = K p ∧ G 41 p = R p ∧ G 42 p = M p) → (∀ y j, y ≠ 40 ∧ y ≠ 41 ∧ y ≠ 42 → G y j = g y j) → am_wp l dC dI tc mm6_read 3 58 58 (Q) 28 [some (.inr (.inr (some 38))), some (.inl x), some (.inl (k : Int))] [] (58, f, G, pr_r a b c) := by
  intro m
  induction m with
  | zero =>
    intro k G hk h1 h2
    have e41 := (h1 (n - 1) (by omega) (by omega)).2.1
    iterate 3 (refine am_go rfl (by first | exact True.intro | omega | exact ⟨by decide, Nat.le_of_ble_eq_true rfl, Nat.le_of_ble_eq_true rfl⟩ | exact ⟨by decide, Nat.le_of_ble_eq_true rfl⟩) ?_)
    refine am_if rfl (fun c1 => ?_) (fun c1 => by omega)
    iterate 5 (refine am_go rfl (by first | exact True.intro | omega | exact ⟨by decide, Nat.le_of_ble_eq_true rfl, Nat.le_of_ble_eq_true rfl⟩ | exact ⟨by decide, Nat.le_of_ble_eq_true rfl⟩) ?_)
    rw [h5]
    iterate 3 (refine am_go rfl (by first | exact True.intro | omega | exact ⟨by decide, Nat.le_of_ble_eq_true rfl, Nat.le_of_ble_eq_true rfl⟩ | exact ⟨by decide, Nat.le_of_ble_eq_true rfl⟩) ?_)
    rw [e41]
    iterate 8 (refine am_go rfl (by first | exact True.intro | omega | exact ⟨by decide, Nat.le_of_ble_eq_true rfl, Nat.le_of_ble_eq_true rfl⟩ | exact ⟨by decide, Nat.le_of_ble_eq_true rfl⟩) ?_)
    rw [show am_u1 (am_u1 f 38 4 (R (n - 1) + 1)) 38 21 0 38 4 = R (n - 1) + 1 by rw [am_u1_j (by decide), am_u1_s]]
    exact am_iret rfl rfl rfl (Kn G (fun p p1 p2 => h1 p p1 (by omega)) h2)
  | succ m ih =>
    intro k G hk h1 h2
    obtain ⟨b1, b2, b3⟩ := hM k (by omega) (by omega)
    iterate 3 (refine am_go rfl (by first | exact True.intro | omega | exact ⟨by decide, Nat.le_of_ble_eq_true rfl, Nat.le_of_ble_eq_true rfl⟩ | exact ⟨by decide, Nat.le_of_ble_eq_true rfl⟩) ?_)
    refine am_if rfl (fun c1 => by omega) (fun c1 => ?_)
    iterate 7 (refine am_go rfl (by first | exact True.intro | omega | exact ⟨by decide, Nat.le_of_ble_eq_true rfl, Nat.le_of_ble_eq_true rfl⟩ | exact ⟨by decide, Nat.le_of_ble_eq_true rfl⟩) ?_)
    rw [h2 43 _ (by decide), b1]
    iterate 8 (refine am_go rfl (by first | exact True.intro | omega | exact ⟨by decide, Nat.le_of_ble_eq_true rfl, Nat.le_of_ble_eq_true rfl⟩ | exact ⟨by decide, Nat.le_of_ble_eq_true rfl⟩) ?_)
    rw [am_u3_c (show (44 : Nat) ≠ 40 by decide), h2 44 _ (by decide), b2]
    iterate 8 (refine am_go rfl (by first | exact True.intro | omega | exact ⟨by decide, Nat.le_of_ble_eq_true rfl, Nat.le_of_ble_eq_true rfl⟩ | exact ⟨by decide, Nat.le_of_ble_eq_true rfl⟩) ?_)
    rw [am_u3_c (show (45 : Nat) ≠ 41 by decide), am_u3_c (show (45 : Nat) ≠ 40 by decide), h2 45 _ (by decide), b3]
    iterate 3 (refine am_go rfl (by first | exact True.intro | omega | exact ⟨by decide, Nat.le_of_ble_eq_true rfl, Nat.le_of_ble_eq_true rfl⟩ | exact ⟨by decide, Nat.le_of_ble_eq_true rfl⟩) ?_)
    refine ih (k + 1) _ (by omega) (fun p p1 p2 => ?_) (fun y j hy => ?_)
    · by_cases c : p = (k : Int)
      · rw [c]
        refine ⟨?_, ?_, am_u3_s⟩
        · rw [am_u3_c (by decide), am_u3_c (by decide), am_u3_s]
        · rw [am_u3_c (by decide), am_u3_s]
      · obtain ⟨d1, d2, d3⟩ := h1 p p1 (by omega)
        refine ⟨?_, ?_, ?_⟩
        · rw [am_u3_c (by decide), am_u3_c (by decide), am_u3_j c]
          exact d1
        · rw [am_u3_c (by decide), am_u3_j c, am_u3_c (by decide)]
          exact d2
        · rw [am_u3_j c, am_u3_c (by decide), am_u3_c (by decide)]
          exact d3
    · rw [am_u3_c hy.2.2, am_u3_c hy.2.1, am_u3_c hy.1]
      exact h2 y j hy
set_option maxRecDepth 100000 in
set_option maxHeartbeats 4000000 in
theorem cm_read (len : Nat) (hl : len ≤ 60) (h1 : f 38 1 = len) (ht : ∀ i : Nat, i < len → 32 ≤ g 39 i ∧ g 39 i ≤ 126) : am_Ct l dC dI tc mm6_read 3 58 [(.inr (.inr (some 38)))] (58, f, g, pr_r a b c) (fun r s => ((zRun (g 39) len 0 zS0).1 ≠ -1 ∧ r = some (.inl 0) ∧ ∃ F G, s = (58, F, G, pr_r a b c) ∧ (∀ y j, y ≠ 38 ∨ (j ≠ 0 ∧ j ≠ 1 ∧ j ≠ 3 ∧ j ≠ 9) → F y j = f y j) ∧ (∀ y j, y < 43 ∨ 45 < y → G y j = g y j) ∧ F 38 0 = 1 ∧ F 38 1 = 0 ∧ F 38 3 = (zRun (g 39) len 0 zS0).1) ∨ ((zRun (g 39) len 0 zS0).1 = -1 ∧ ∃ F G, s = (58, F, G, pr_r a b c) ∧ r = some (.inl (F 38 4)) ∧ (∀ y j, y ≠ 38 ∨ (j ≠ 0 ∧ j ≠ 1 ∧ j ≠ 4 ∧ j ≠ 5 ∧ j ≠ 9 ∧ j ≠ 21) → F y j = f y j) ∧ (∀ y j, y < 40 ∨ 45 < y → G y j = g y j) ∧ F 38 0 = 0 ∧ F 38 1 = 0 ∧ F 38 5 = (zRun (g 39) len 0 zS0).2.1 ∧ F 38 21 = 0 ∧ F 38 4 = (zRun (g 39) len 0 zS0).2.2.2.1 ((zRun (g 39) len 0 zS0).2.1 - 1) + 1 ∧ ∀ p, 0 ≤ p → p < (zRun (g 39) len 0 zS0).2.1 → G 40 p = (zRun (g 39) len 0 zS0).2.2.1 p ∧ G 41 p = (zRun (g 39) len 0 zS0).2.2.2.1 p ∧ G 42 p = (zRun (g 39) len 0 zS0).2.2.2.2.1 p)) := by
  have hWf := zRun_wf (g 39) len 0 zS0 zWf_0
  have hOk := zRun_ok (g 39) len 0 zS0
  have hGe := zRun_ge (g 39) len 0 zS0
  refine am_enter ok_6_read rfl (by decide) (Nat.le_of_ble_eq_true rfl) rfl ?_
  (refine am_go rfl (by first | exact True.intro | omega | exact ⟨by decide, Nat.le_of_ble_eq_true rfl, Nat.le_of_ble_eq_true rfl⟩ | exact ⟨by decide, Nat.le_of_ble_eq_true rfl⟩) ?_)
  refine am_call rfl (cm_fault len hl h1 ht) (by decide) (Nat.le_of_ble_eq_true rfl) (Nat.le_of_ble_eq_true rfl) (Nat.le_of_ble_eq_true rfl) (fun rv s q => ?_)
  obtain ⟨rfl, F, G, rfl, q1, q2⟩ := q
  revert hWf hOk hGe q2
  generalize zRun (g 39) len 0 zS0 = rr
  intro hWf hOk hGe q2
  obtain ⟨fl, n, K, R, M, U, row, what⟩ := rr
  have hWf : zWf (n, K, R, M, U, row, what) := hWf
  have hOk : fl = -1 → what = 0 ∧ row ≠ 0 := hOk
  have hGe : fl = -1 ∨ (0 ≤ fl ∧ fl ≤ ((0 : Nat) : Int) + len) := hGe
  obtain ⟨p1, p2⟩ : zRM F G (n, K, R, M, U, row, what) := q2
  iterate 7 (refine am_go rfl (by first | exact True.intro | omega | exact ⟨by decide, Nat.le_of_ble_eq_true rfl, Nat.le_of_ble_eq_true rfl⟩ | exact ⟨by decide, Nat.le_of_ble_eq_true rfl⟩) ?_)
  refine am_if rfl (fun c1 => ?_) (fun c1 => ?_)
  · have hfl : fl = -1 := c1
    obtain ⟨o1, o2⟩ := hOk hfl
    obtain ⟨⟨w1, w2⟩, w3, w4, w5, w6, ⟨w8, w9⟩, ⟨w10, w11⟩, w13, w12⟩ := hWf
    have hn : 0 < n := by have := w10 o1; omega
    have hR := w12 (n - 1) (by omega) (by omega)
    iterate 4 (refine am_go rfl (by first | exact True.intro | omega | exact ⟨by decide, Nat.le_of_ble_eq_true rfl, Nat.le_of_ble_eq_true rfl⟩ | exact ⟨by decide, Nat.le_of_ble_eq_true rfl⟩) ?_)
    rw [show am_u1 (am_u1 F 38 1 0) 38 0 0 38 0 = 0 from am_u1_s]
    refine am_if rfl (fun c2 => ?_) (fun c2 => by omega)
    iterate 3 (refine am_go rfl (by first | exact True.intro | omega | exact ⟨by decide, Nat.le_of_ble_eq_true rfl, Nat.le_of_ble_eq_true rfl⟩ | exact ⟨by decide, Nat.le_of_ble_eq_true rfl⟩) ?_)
    rw [show am_u1 (am_u1 F 38 1 0) 38 0 0 38 9 = n by rw [am_u1_j (by decide), am_u1_j (by decide)]; exact p1]
    iterate 3 (refine am_go rfl (by first | exact True.intro | omega | exact ⟨by decide, Nat.le_of_ble_eq_true rfl, Nat.le_of_ble_eq_true rfl⟩ | exact ⟨by decide, Nat.le_of_ble_eq_true rfl⟩) ?_)
    refine wp_read28 (n := n) (K := K) (R := R) (M := M) _ (by omega) am_u1_s (by omega) p2 (fun G' k1 k2 => Or.inr ⟨hfl, _, G', rfl, ?_, ?_, ?_, ?_, ?_, ?_, ?_, ?_, ?_⟩) n.toNat 0 G (by omega) (fun p h1 h2 => by omega) (fun _ _ _ => rfl)
    · rw [am_u1_j (by decide), am_u1_s]
    · intro y j hy
      rw [am_u1_ne (by omega), am_u1_ne (by omega), am_u1_ne (by omega), am_u1_ne (by omega), am_u1_ne (by omega)]
      exact q1.1 y j (by omega)
    · intro y j hy
      rw [k2 y j (by omega)]
      exact q1.2 y j (by omega)
    · rw [am_u1_j (by decide), am_u1_j (by decide), am_u1_j (by decide), am_u1_s]
    · rw [am_u1_j (by decide), am_u1_j (by decide), am_u1_j (by decide), am_u1_j (by decide), am_u1_s]
    · rw [am_u1_j (by decide), am_u1_j (by decide), am_u1_s]
    · exact am_u1_s
    · rw [am_u1_j (by decide), am_u1_s]
    · exact k1
  · have hfl : fl ≠ -1 := c1
    iterate 5 (refine am_go rfl (by first | exact True.intro | omega | exact ⟨by decide, Nat.le_of_ble_eq_true rfl, Nat.le_of_ble_eq_true rfl⟩ | exact ⟨by decide, Nat.le_of_ble_eq_true rfl⟩) ?_)
    rw [show am_u1 (am_u1 F 38 1 0) 38 0 1 38 0 = 1 from am_u1_s]
    refine am_if rfl (fun c2 => by omega) (fun c2 => ?_)
    iterate 4 (refine am_go rfl (by first | exact True.intro | omega | exact ⟨by decide, Nat.le_of_ble_eq_true rfl, Nat.le_of_ble_eq_true rfl⟩ | exact ⟨by decide, Nat.le_of_ble_eq_true rfl⟩) ?_)
    refine am_iret rfl rfl rfl (Or.inl ⟨hfl, rfl, _, G, rfl, ?_, q1.2, ?_, ?_, am_u1_s⟩)
    · intro y j hy
      rw [am_u1_ne (by omega), am_u1_ne (by omega), am_u1_ne (by omega)]
      exact q1.1 y j (by omega)
    · rw [am_u1_j (by decide), am_u1_s]
    · rw [am_u1_j (by decide), am_u1_j (by decide), am_u1_s]
end Rd2

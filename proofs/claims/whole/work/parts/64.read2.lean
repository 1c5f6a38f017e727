/-! read: side by side -/
section Rd3
variable {l : Launch} {dC : Nat → ClassId} {dI : Nat → Nat → Nat} {tc : Nat → ClassId} {f : Nat → Nat → Int} {g : Nat → Int → Int} {a b c : Nat}
set_option maxRecDepth 100000 in
set_option maxHeartbeats 4000000 in
theorem ct_read_ok (n : Nat) (hn : n ≤ 60) (hl : f 0 1 = n) (ht : ∀ i : Nat, i < n → 32 ≤ g 1 i ∧ g 1 i ≤ 126) (hok : (zRun (g 1) n 0 zS0).1 = -1) : am_Ct l dC dI tc mm0_read 6 58 [(.inr (.inr (some 0)))] (58, f, g, pr_r a b c) (fun r s => ∃ F G F1 G1, s = (58, F, G, pr_r a b c) ∧ r = some (.inl (F 2 1)) ∧ zRC F1 G1 (zRun (g 1) n 0 zS0).2 ∧ (∀ y j, y ≠ 7 → y ≠ 0 ∨ j ≠ 1 → y ≠ 2 ∨ (j ≠ 0 ∧ j ≠ 1) → y ≠ 22 ∨ j ≠ 4 → F y j = f y j) ∧ (∀ y j, (y < 3 ∨ 5 < y) ∧ (y < 8 ∨ 11 < y) → G y j = g y j) ∧ F 0 1 = 0 ∧ F 2 0 = F1 7 0 ∧ F 2 1 = F1 7 1 ∧ F 22 4 = 0 ∧ ∀ p, 0 ≤ p → p < F1 7 0 → G 3 p = G1 8 p ∧ G 4 p = G1 9 p ∧ G 5 p = G1 10 p) := by
  have hWf := zRun_wf (g 1) n 0 zS0 zWf_0
  refine am_enter ok_0_read rfl (by decide) (Nat.le_of_ble_eq_true rfl) rfl ?_
  iterate 6 (refine am_go rfl (by first | exact True.intro | omega | exact ⟨by decide, Nat.le_of_ble_eq_true rfl, Nat.le_of_ble_eq_true rfl⟩ | exact ⟨by decide, Nat.le_of_ble_eq_true rfl⟩) ?_)
  rw [hl]
  refine am_call rfl (ct_fill n hn ht) (by decide) (Nat.le_of_ble_eq_true rfl) (Nat.le_of_ble_eq_true rfl) (Nat.le_of_ble_eq_true rfl) (fun rv s q => ?_)
  obtain ⟨rfl, F, G, rfl, q1, q2⟩ := q
  rw [hok]
  revert hWf q2
  generalize (zRun (g 1) n 0 zS0).2 = st
  intro hWf q2
  obtain ⟨n0, K, R, M, U, row, what⟩ := st
  obtain ⟨⟨a1, a2⟩, a3, a4, a5, a6⟩ := id q2
  obtain ⟨⟨w1, w2⟩, -⟩ := hWf
  iterate 6 (refine am_go rfl (by first | exact True.intro | omega | exact ⟨by decide, Nat.le_of_ble_eq_true rfl, Nat.le_of_ble_eq_true rfl⟩ | exact ⟨by decide, Nat.le_of_ble_eq_true rfl⟩) ?_)
  refine am_if rfl (fun c1 => ?_) (fun c1 => by omega)
  iterate 4 (refine am_go rfl (by first | exact True.intro | omega | exact ⟨by decide, Nat.le_of_ble_eq_true rfl, Nat.le_of_ble_eq_true rfl⟩ | exact ⟨by decide, Nat.le_of_ble_eq_true rfl⟩) ?_)
  have e70 : am_u1 F 0 1 0 7 0 = F 7 0 := am_u1_c (by decide)
  have e71 : am_u1 F 0 1 0 7 1 = F 7 1 := am_u1_c (by decide)
  refine am_call rfl (ct_become (by rw [e70]; omega) (fun p p1 p2 => (a5 p p1 (by omega)).2.2.1)) (by decide) (Nat.le_of_ble_eq_true rfl) (Nat.le_of_ble_eq_true rfl) (Nat.le_of_ble_eq_true rfl) (fun rv s q => ?_)
  obtain ⟨rfl, G2, rfl, p1, p2⟩ := q
  rw [e70] at p1
  rw [e70, e71]
  iterate 2 (refine am_go rfl (by first | exact True.intro | omega | exact ⟨by decide, Nat.le_of_ble_eq_true rfl, Nat.le_of_ble_eq_true rfl⟩ | exact ⟨by decide, Nat.le_of_ble_eq_true rfl⟩) ?_)
  (refine am_calln rfl (ct_forget) (by decide) (Nat.le_of_ble_eq_true rfl) (Nat.le_of_ble_eq_true rfl) ?_)
  iterate 3 (refine am_go rfl (by first | exact True.intro | omega | exact ⟨by decide, Nat.le_of_ble_eq_true rfl, Nat.le_of_ble_eq_true rfl⟩ | exact ⟨by decide, Nat.le_of_ble_eq_true rfl⟩) ?_)
  refine am_iret rfl rfl rfl ⟨_, G2, F, G, rfl, rfl, q2, fun y j y1 y2 y3 y4 => ?_, fun y j hy => ?_, ?_, ?_, ?_, am_u1_s, p1⟩
  · rw [am_u1_ne (by omega), am_u1_ne (by omega), am_u1_ne (by omega), am_u1_ne (by omega)]
    exact q1.1 y j y1
  · rw [p2 y j (by omega)]
    exact q1.2 y j (by omega)
  · rw [am_u1_ne (by decide), am_u1_ne (by decide), am_u1_ne (by decide), am_u1_s]
  · rw [am_u1_ne (by decide), am_u1_ne (by decide), am_u1_s]
  · rw [am_u1_ne (by decide), am_u1_s]
/-- the form that was read: sound, and the same on both sides -/
theorem op_read_ok (h : zSim f g a b c) (hok : (zRun (g 1) (f 0 1).toNat 0 zS0).1 = -1) : ∃ Q1, am_Ct l dC dI tc mm0_read 6 58 [(.inr (.inr (some 0)))] (58, f, g, pr_r a b c) Q1 ∧ ∀ r1 s1, Q1 r1 s1 → ∃ q, r1 = some (.inl q) ∧ ∃ Q2, am_Ct l dC dI tc mm6_read 3 58 [(.inr (.inr (some 38)))] s1 Q2 ∧ ∀ r2 s2, Q2 r2 s2 → r2 = some (.inl q) ∧ ∃ F G a' b' c', s2 = (58, F, G, pr_r a' b' c') ∧ F 38 0 = 0 ∧ zSim F G a' b' c' := by
  obtain ⟨t1, t2, t3⟩ := h.2.1
  have hI := h.I
  have hD := h.D
  obtain ⟨i1, i2, i3, i4, i5, i6, i7⟩ := id hI
  have ht : ∀ i : Nat, i < (f 0 1).toNat → 32 ≤ g 1 i ∧ g 1 i ≤ 126 := fun i hi => (t3 i (by omega) (by omega)).2
  refine ⟨_, ct_read_ok (f 0 1).toNat (by omega) (by omega) ht hok, ?_⟩
  rintro r1 s1 ⟨F, G, F1, G1, rfl, rfl, q1, q2, q3, q4, q5, q6, q7, q8⟩
  have F381 : F 38 1 = f 0 1 := by rw [q2 38 1 (by decide) (by decide) (by decide) (by decide), t1]
  have G39 : ∀ j, G 39 j = g 39 j := fun j => q3 39 j (by decide)
  have hrun : zRun (G 39) (f 0 1).toNat 0 zS0 = zRun (g 1) (f 0 1).toNat 0 zS0 := zRun_t _ _ _ (fun j _ hj => by rw [G39]; exact ((t3 j (by omega) (by omega)).1).symm)
  refine ⟨F 2 1, rfl, _, cm_read (f 0 1).toNat (by omega) (by rw [F381]; omega) (fun i hi => by rw [G39, ← (t3 i (by omega) (by omega)).1]; exact ht i hi), ?_⟩
  rw [hrun]
  have hWf := zRun_wf (g 1) (f 0 1).toNat 0 zS0 zWf_0
  have hOk := zRun_ok (g 1) (f 0 1).toNat 0 zS0 hok
  rw [hok]
  revert hWf hOk q1
  generalize (zRun (g 1) (f 0 1).toNat 0 zS0).2 = st
  intro q1 hWf hOk
  obtain ⟨n, K, R, M, U, row, what⟩ := st
  obtain ⟨o1, o2⟩ : what = 0 ∧ row ≠ 0 := hOk
  obtain ⟨⟨b1, b2⟩, b3, b4, b5, b6⟩ := q1
  obtain ⟨⟨w1, w2⟩, w3, w4, w5, ⟨w6, w7⟩, ⟨w8, w9⟩, ⟨w10, w11⟩, w13, w12⟩ := hWf
  have hn : 0 < n ∧ row = R (n - 1) + 1 := by
    have := w10 o1
    omega
  rintro r2 s2 (⟨u, _⟩ | ⟨_, F2, G2, rfl, rfl, p1, p2, p3, p4, p5, p6, p7, p8⟩)
  · exact absurd rfl u
  · have p5 : F2 38 5 = n := p5
    have p7 : F2 38 4 = R (n - 1) + 1 := p7
    have p8 : ∀ p, 0 ≤ p → p < n → G2 40 p = K p ∧ G2 41 p = R p ∧ G2 42 p = M p := p8
    have fs : ∀ y j, y ≠ 38 → F2 y j = F y j := fun y j hy => p1 y j (Or.inl hy)
    have f20 : F2 2 0 = n := by rw [fs 2 0 (by decide), q5, b1]
    have f12 : F2 12 0 = f 12 0 := by rw [fs 12 0 (by decide), q2 12 0 (by decide) (by decide) (by decide) (by decide)]
    have f18 : F2 18 0 = f 18 0 := by rw [fs 18 0 (by decide), q2 18 0 (by decide) (by decide) (by decide) (by decide)]
    have f38 : ∀ j, j = 13 ∨ j = 19 ∨ j = 3 ∨ j = 28 → F2 38 j = f 38 j := fun j hj => by rw [p1 38 j (by omega), q2 38 j (by omega) (by omega) (by omega) (by omega)]
    have gs : ∀ y j, (y < 3 ∨ 5 < y) ∧ (y < 8 ∨ 11 < y) ∧ (y < 40 ∨ 45 < y) → G2 y j = g y j := fun y j hy => by rw [p2 y j (by omega), q3 y j (by omega)]
    have g345 : ∀ p, 0 ≤ p → p < n → G2 3 p = K p ∧ G2 4 p = M p ∧ (G2 5 p = 0 ∨ G2 5 p = 1) ∧ (G2 5 p = 1 ↔ (p + 1 < n ∧ R (p + 1) ≠ R p) ∨ p + 1 = n) := by
      intro p h1 h2
      obtain ⟨c1, c2, c3⟩ := q8 p h1 (by omega)
      obtain ⟨d1, d2, d3, d4⟩ := b5 p h1 h2
      rw [p2 3 p (by decide), p2 4 p (by decide), p2 5 p (by decide), c1, c2, c3]
      refine ⟨d1, d2, d3, d4.trans ?_⟩
      rw [o1]
      simp
    refine ⟨?_, F2, G2, a, b, c, rfl, p3, ⟨⟨h.1.1.1, ?_, fun j j1 j2 => ?_, Or.inl ?_⟩, ?_, Or.inl p6⟩, ?_, ?_, ?_⟩
    · rw [p7, q6, b2, hn.2]
    · refine ⟨by rw [f20]; exact w1, fun y y1 y2 => ?_, by rw [f12]; exact i3, fun y y1 y2 => ?_, fun y z y1 y2 z1 z2 => ?_, fun y z i y1 y2 z1 z2 j1 j2 => ?_, by rw [f18]; exact i7⟩
      · rw [f20] at y2
        obtain ⟨e1, e2, e3, _⟩ := g345 y y1 y2
        rw [e1, e2]
        exact ⟨(w4 y y1 y2).1, (w4 y y1 y2).2, e3⟩
      · rw [gs 13 y (by decide), f12]
        exact i4 y y1 y2
      · rw [gs 13 y (by decide), gs 14 _ (by decide)]
        exact i5 y z y1 y2 z1 z2
      · rw [gs 14 _ (by decide)] at j2
        rw [gs 16 _ (by decide), gs 17 _ (by decide)]
        exact i6 y z i y1 y2 z1 z2 j1 j2
    · unfold zOk
      rw [gs 33 _ (by decide), gs 33 _ (by decide)]
      exact h.1.1.2.2.1 j j1 j2
    · rw [fs 22 4 (by decide)]
      exact q7
    · refine ⟨by rw [f20]; exact p5, fun y y1 y2 => ?_, fun y y1 y2 => ?_, fun y y1 y2 => ?_, by rw [f12, f38 13 (by decide)]; exact hD.ln, fun y => ?_, fun y z => ?_, fun y z i => ?_, by rw [f18, f38 19 (by decide)]; exact hD.tn, fun i => ?_, fun _ => ?_, fun y y1 y2 => ?_, fun _ => ?_, fun i j i1 i2 j1 j2 e => ?_⟩
      · rw [f20] at y2
        rw [(g345 y y1 y2).1, (p8 y y1 y2).1]
      · rw [f20] at y2
        rw [(g345 y y1 y2).2.1, (p8 y y1 y2).2.2]
      · rw [f20] at y2 ⊢
        rw [(g345 y y1 y2).2.2.2]
        by_cases cc : y + 1 = n
        · exact ⟨fun _ => Or.inl cc, fun _ => Or.inr cc⟩
        · rw [(p8 (y + 1) (by omega) (by omega)).2.1, (p8 y y1 y2).2.1]
          constructor
          · rintro (u | u)
            · exact Or.inr u.2
            · exact absurd u cc
          · rintro (u | u)
            · exact absurd u cc
            · exact Or.inl ⟨by omega, u⟩
      · rw [f12, gs 46 y (by decide), gs 13 y (by decide)]
        exact hD.pl y
      · rw [f12, gs 13 y (by decide), gs 47 _ (by decide), gs 14 _ (by decide)]
        exact hD.na y z
      · rw [f12, gs 13 y (by decide), gs 14 _ (by decide), gs 48 _ (by decide), gs 49 _ (by decide), gs 50 _ (by decide), gs 15 _ (by decide), gs 16 _ (by decide), gs 17 _ (by decide)]
        exact hD.al y z i
      · rw [f18, gs 51 _ (by decide), gs 51 _ (by decide), gs 51 _ (by decide), gs 19 i (by decide), gs 20 i (by decide), gs 21 i (by decide)]
        exact hD.td i
      · rw [(p8 0 (by omega) (by omega)).2.1]
        exact w6 (by omega)
      · rw [f20] at y2
        rw [(p8 (y + 1) (by omega) (by omega)).2.1, (p8 y y1 (by omega)).2.1]
        exact w7 y y1 y2
      · rw [f20, (p8 (n - 1) (by omega) (by omega)).2.1]
        exact p7
      · rw [f20] at i2 j2
        rw [(g345 i i1 i2).1, (g345 j j1 j2).1] at e
        exact w5 i j i1 i2 j1 j2 e
    · refine ⟨?_, ?_, fun i i1 i2 => ?_⟩
      · rw [fs 0 1 (by decide), q4, p4]
      · rw [fs 0 1 (by decide), q4]
        omega
      · rw [fs 0 1 (by decide), q4] at i2
        omega
    · exact zPp_fr h.2.2.1 (by rw [fs 0 9 (by decide), q2 0 9 (by decide) (by decide) (by decide) (by decide)]) (f38 28 (by decide)) (fun j => gs 37 j (by decide)) (fun j => gs 57 j (by decide))
    · rw [fs 0 2 (by decide), q2 0 2 (by decide) (by decide) (by decide) (by decide), f38 3 (by decide)]
      exact h.2.2.2
/-- the state in which the class's read throws -/
def zThr (f : Nat → Nat → Int) (g : Nat → Int → Int) (F : Nat → Nat → Int) (G : Nat → Int → Int) : Prop := (∀ y j, y ≠ 7 → y ≠ 0 ∨ (j ≠ 1 ∧ j ≠ 2) → F y j = f y j) ∧ (∀ y j, y < 8 ∨ 11 < y → G y j = g y j) ∧ F 0 1 = 0 ∧ F 0 2 = (zRun (g 1) (f 0 1).toNat 0 zS0).1
theorem op_read_bad {F : Nat → Nat → Int} {G : Nat → Int → Int} (h : zSim f g a b c) (hbad : (zRun (g 1) (f 0 1).toNat 0 zS0).1 ≠ -1) (hT : zThr f g F G) : ∃ Q2, am_Ct l dC dI tc mm6_read 3 58 [(.inr (.inr (some 38)))] (58, F, G, pr_r a b c) Q2 ∧ ∀ r2 s2, Q2 r2 s2 → r2 = some (.inl 0) ∧ ∃ F2 G2 a' b' c', s2 = (58, F2, G2, pr_r a' b' c') ∧ F2 38 0 = 1 ∧ zSim F2 G2 a' b' c' := by
  obtain ⟨t1, t2, t3⟩ := h.2.1
  obtain ⟨q1, q2, q3, q4⟩ := hT
  have F381 : F 38 1 = f 0 1 := by rw [q1 38 1 (by decide) (by decide), t1]
  have G39 : ∀ j, G 39 j = g 39 j := fun j => q2 39 j (by decide)
  have hrun : zRun (G 39) (f 0 1).toNat 0 zS0 = zRun (g 1) (f 0 1).toNat 0 zS0 := zRun_t _ _ _ (fun j _ hj => by rw [G39]; exact ((t3 j (by omega) (by omega)).1).symm)
  refine ⟨_, cm_read (f 0 1).toNat (by omega) (by rw [F381]; omega) (fun i hi => by rw [G39, ← (t3 i (by omega) (by omega)).1]; exact (t3 i (by omega) (by omega)).2), ?_⟩
  rw [hrun]
  rintro r2 s2 (⟨_, e0, F2, G2, rfl, p1, p2, p3, p4, p5⟩ | ⟨u, _⟩)
  · have fs : ∀ y j, y ≠ 38 → F2 y j = F y j := fun y j hy => p1 y j (Or.inl hy)
    have hd : zFrD F2 f G2 g := ⟨fun c j hc => by unfold zDf at hc; rw [p1 c j (by omega), q1 c j (by omega) (by omega)], fun c j hc => by unfold zDg at hc; rw [p2 c j (by omega), q2 c j (by omega)]⟩
    have f38 : ∀ j, j ≠ 0 ∧ j ≠ 1 ∧ j ≠ 3 ∧ j ≠ 9 → F2 38 j = f 38 j := fun j hj => by rw [p1 38 j (by omega), q1 38 j (by omega) (by omega)]
    have gs : ∀ y j, (y < 8 ∨ 11 < y) ∧ (y < 43 ∨ 45 < y) → G2 y j = g y j := fun y j hy => by rw [p2 y j (by omega), q2 y j (by omega)]
    refine ⟨e0, F2, G2, a, b, c, rfl, p3, ⟨zSS_fr h.1.1 (hd.1 2 0 (by unfold zDf; omega)) (hd.1 12 0 (by unfold zDf; omega)) (hd.1 18 0 (by unfold zDf; omega)) (fun y j h1 h2 => by rw [fs y j (by omega), q1 y j (by omega) (by omega)]) (fun y j hy => gs y j (by omega)) (fun y j h1 h2 => gs y j (by omega)), hd.D h.D, mSS_fr h.1.2.2 hd (f38 21 (by decide)) (f38 22 (by decide)) (fun j => gs 52 j (by decide)) (fun j => gs 53 j (by decide)) ⟨gs 55 0 (by decide), gs 56 0 (by decide)⟩⟩, ⟨?_, ?_, fun i i1 i2 => ?_⟩, ?_, ?_⟩
    · rw [fs 0 1 (by decide), q3, p4]
    · rw [fs 0 1 (by decide), q3]
      omega
    · rw [fs 0 1 (by decide), q3] at i2
      omega
    · exact zPp_fr h.2.2.1 (by rw [fs 0 9 (by decide), q1 0 9 (by decide) (by decide)]) (f38 28 (by decide)) (fun j => gs 37 j (by decide)) (fun j => gs 57 j (by decide))
    · rw [fs 0 2 (by decide), q4, p5]
  · exact absurd u hbad
end Rd3

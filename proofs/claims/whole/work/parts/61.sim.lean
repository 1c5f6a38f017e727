/-! class and reference side by side -/
def zTx (f : Nat → Nat → Int) (g : Nat → Int → Int) : Prop := f 0 1 = f 38 1 ∧ (0 ≤ f 0 1 ∧ f 0 1 ≤ 60) ∧ ∀ i, 0 ≤ i → i < f 0 1 → g 1 i = g 39 i ∧ 32 ≤ g 1 i ∧ g 1 i ≤ 126
def zPp (f : Nat → Nat → Int) (g : Nat → Int → Int) : Prop := f 0 9 = f 38 28 ∧ (0 ≤ f 0 9 ∧ f 0 9 ≤ 42) ∧ ∀ i, 0 ≤ i → i < f 0 9 → g 37 i = g 57 i
def zCore (f : Nat → Nat → Int) (g : Nat → Int → Int) (a b c : Nat) : Prop := zSS f g a b c ∧ zD f g ∧ mSS f g
def zSim (f : Nat → Nat → Int) (g : Nat → Int → Int) (a b c : Nat) : Prop := zCore f g a b c ∧ zTx f g ∧ zPp f g ∧ f 0 2 = f 38 3
def zSg (s : am_H) : Prop := ∃ f g a b c, s = (58, f, g, pr_r a b c) ∧ zSim f g a b c
def zRt (M : am_M) (r : Option am_V) : Prop := (M.2.2.2.1 = some .long → ∃ q, r = some (.inr (.inl q))) ∧ (M.2.2.2.1 ≠ some .long → ∃ q, r = some (.inl q))
theorem zRt_i {M : am_M} {r : Option am_V} (h : M.2.2.2.1 ≠ some .long) (h2 : ∃ q, r = some (.inl q)) : zRt M r := ⟨fun h3 => absurd h3 h, fun _ => h2⟩
theorem zRt_l {M : am_M} {r : Option am_V} (h : M.2.2.2.1 = some .long) (h2 : ∃ q, r = some (.inr (.inl q))) : zRt M r := ⟨fun _ => h2, fun h3 => absurd h h3⟩
def zPair (l : Launch) (dC : Nat → ClassId) (dI : Nat → Nat → Nat) (tc : Nat → ClassId) (MC MM : am_M) (dc dm : Nat) (asC asM : List am_V) (s : am_H) : Prop := ∃ Q1, am_Ct l dC dI tc MC dc 58 asC s Q1 ∧ (∀ r1 s1, Q1 r1 s1 → zRt MC r1) ∧ ∀ r1 s1, Q1 r1 s1 → ∃ Q2, am_Ct l dC dI tc MM dm 58 asM s1 Q2 ∧ ∀ r2 s2, Q2 r2 s2 → r1 = r2 ∧ zSg s2
section Sim
variable {F f : Nat → Nat → Int} {G g : Nat → Int → Int} {a b c : Nat}
def zFrQ (F f : Nat → Nat → Int) (G g : Nat → Int → Int) : Prop := (∀ x j, x ≠ 0 ∧ (x ≠ 38 ∨ (j ≠ 0 ∧ j ≠ 1 ∧ j ≠ 3 ∧ j ≠ 28)) → F x j = f x j) ∧ ∀ x j, x ≠ 1 ∧ x ≠ 37 ∧ x ≠ 39 ∧ x ≠ 57 → G x j = g x j
theorem zFrQ.d (h : zFrQ F f G g) : zFrD F f G g := ⟨fun c j hc => h.1 c j (by unfold zDf at hc; omega), fun c j hc => h.2 c j (by unfold zDg at hc; omega)⟩
theorem zCore_fr (h : zCore f g a b c) (hq : zFrQ F f G g) : zCore F G a b c :=
  ⟨zSS_fr h.1 (hq.1 2 0 (by decide)) (hq.1 12 0 (by decide)) (hq.1 18 0 (by decide)) (fun x j h1 h2 => hq.1 x j (by omega)) (fun x j hx => hq.2 x j (by omega)) (fun x j h1 h2 => hq.2 x j (by omega)), hq.d.D h.2.1, mSS_fr h.2.2 hq.d (hq.1 38 21 (by decide)) (hq.1 38 22 (by decide)) (fun j => hq.2 52 j (by decide)) (fun j => hq.2 53 j (by decide)) ⟨hq.2 55 0 (by decide), hq.2 56 0 (by decide)⟩⟩
theorem zTx_fr (h : zTx f g) (h1 : F 0 1 = f 0 1) (h2 : F 38 1 = f 38 1) (h3 : ∀ j, G 1 j = g 1 j) (h4 : ∀ j, G 39 j = g 39 j) : zTx F G := by
  unfold zTx at h ⊢
  simp only [h1, h2, h3, h4]
  exact h
theorem zPp_fr (h : zPp f g) (h1 : F 0 9 = f 0 9) (h2 : F 38 28 = f 38 28) (h3 : ∀ j, G 37 j = g 37 j) (h4 : ∀ j, G 57 j = g 57 j) : zPp F G := by
  unfold zPp at h ⊢
  simp only [h1, h2, h3, h4]
  exact h
/-- only the reference's mark of a throw is written -/
theorem zSim_0 (h : zSim f g a b c) (v : Int) : zSim (am_u1 f 38 0 v) g a b c :=
  ⟨zCore_fr h.1 ⟨fun x j hx => am_u1_ne (by omega), fun _ _ _ => rfl⟩, zTx_fr h.2.1 (am_u1_c (by decide)) (am_u1_j (by decide)) (fun _ => rfl) (fun _ => rfl), zPp_fr h.2.2.1 (am_u1_c (by decide)) (am_u1_j (by decide)) (fun _ => rfl) (fun _ => rfl), by rw [am_u1_c (by decide), am_u1_j (by decide)]; exact h.2.2.2⟩
/-- behind a look of the class -/
theorem zSim_c {a' b' c' : Nat} (h : zSim f g a b c) (h1 : zSS F G a' b' c') (h2 : zFrF F f G g) : zSim F G a' b' c' :=
  ⟨⟨h1, h2.d.D h.1.2.1, mSS_fr h.1.2.2 h2.d (h2.1 38 21 (by decide)) (h2.1 38 22 (by decide)) (fun j => h2.2 52 j (by decide)) (fun j => h2.2 53 j (by decide)) ⟨h2.2 55 0 (by decide), h2.2 56 0 (by decide)⟩⟩, zTx_fr h.2.1 (h2.1 0 1 (by decide)) (h2.1 38 1 (by decide)) (fun j => h2.2 1 j (by decide)) (fun j => h2.2 39 j (by decide)), zPp_fr h.2.2.1 (h2.1 0 9 (by decide)) (h2.1 38 28 (by decide)) (fun j => h2.2 37 j (by decide)) (fun j => h2.2 57 j (by decide)), by rw [h2.1 0 2 (by decide), h2.1 38 3 (by decide)]; exact h.2.2.2⟩
/-- behind a question of the reference -/
theorem zSim_m {T : List (Int × List Int)} (h : zSim f g a b c) (h1 : F 38 21 = 1) (h2 : mRes F G T) (h3 : zFrM F f G g) : zSim F G a b c :=
  ⟨⟨zSS_fr h.1.1 (h3.1 2 0 (by decide)) (h3.1 12 0 (by decide)) (h3.1 18 0 (by decide)) (fun x j _ _ => h3.1 x j (by omega)) (fun x j hx => h3.2 x j (by omega)) (fun x j _ _ => h3.2 x j (by omega)), h3.d.D h.1.2.1, Or.inr ⟨h1, T, h2⟩⟩, zTx_fr h.2.1 (h3.1 0 1 (by decide)) (h3.1 38 1 (by decide)) (fun j => h3.2 1 j (by decide)) (fun j => h3.2 39 j (by decide)), zPp_fr h.2.2.1 (h3.1 0 9 (by decide)) (h3.1 38 28 (by decide)) (fun j => h3.2 37 j (by decide)) (fun j => h3.2 57 j (by decide)), by rw [h3.1 0 2 (by decide), h3.1 38 3 (by decide)]; exact h.2.2.2⟩
theorem zSim.I (h : zSim f g a b c) : zI f g := h.1.1.2.1
theorem zSim.D (h : zSim f g a b c) : zD f g := h.1.2.1
/-- the two lists are one -/
theorem zT_eq {Tc Tm : List (Int × List Int)} (hI : zI f g) (hc : cRes f g a b Tc) (hm : mRes F G Tm) (hd : zFrD F f G g) : Tc = Tm := by
  have i1 := hI.1
  have e20 : F 2 0 = f 2 0 := hd.1 2 0 (by unfold zDf; omega)
  by_cases u : 0 < f 2 0
  · have h1 := hc.2.1 u
    have h2 := hm.2.2.1 (by rw [e20]; exact u)
    rw [e20] at h2
    exact zTw_u h1 (zTw_c (fun e => hd.vd _ e) h2)
  · rw [hc.2.2 (by omega), hm.2.2.2 (by rw [e20]; omega)]
end Sim
section Ops
variable {l : Launch} {dC : Nat → ClassId} {dI : Nat → Nat → Nat} {tc : Nat → ClassId} {f : Nat → Nat → Int} {g : Nat → Int → Int} {a b c : Nat}
theorem op_wrong (h : zSim f g a b c) : zPair l dC dI tc mm0_wrong mm6_wrong 0 0 [(.inr (.inr (some 0)))] [(.inr (.inr (some 38)))] (58, f, g, pr_r a b c) := by
  refine ⟨_, ct_wrong, by rintro _ _ ⟨rfl, -⟩ <;> exact zRt_i (by decide) ⟨_, rfl⟩, ?_⟩
  rintro r1 s1 ⟨rfl, rfl⟩
  refine ⟨_, cm_wrong, ?_⟩
  rintro r2 s2 ⟨rfl, rfl⟩
  exact ⟨by rw [h.2.2.2], _, _, a, b, c, rfl, zSim_0 h 0⟩
theorem op_at (x : Int) (h : zSim f g a b c) : zPair l dC dI tc mm0_at mm6_at 0 0 [(.inr (.inr (some 0))), .inl x] [(.inr (.inr (some 38))), .inl x] (58, f, g, pr_r a b c) := by
  obtain ⟨p1, p2, p3⟩ := h.2.2.1
  refine ⟨_, ct_at x, by rintro _ _ ⟨rfl, -⟩ <;> exact zRt_i (by decide) ⟨_, rfl⟩, ?_⟩
  rintro r1 s1 ⟨rfl, rfl⟩
  refine ⟨_, cm_at x (by omega), ?_⟩
  rintro r2 s2 ⟨rfl, rfl⟩
  refine ⟨?_, _, _, a, b, c, rfl, zSim_0 h 0⟩
  by_cases u : 0 ≤ x ∧ x < f 0 9
  · rw [if_pos (by omega), if_pos (by omega), p3 x u.1 u.2]
  · rw [if_neg (by omega), if_neg (by omega)]
theorem op_sign (x : Int) (h : zSim f g a b c) : zPair l dC dI tc mm0_sign mm6_sign 0 0 [(.inr (.inr (some 0))), .inl x] [(.inr (.inr (some 38))), .inl x] (58, f, g, pr_r a b c) := by
  obtain ⟨t1, t2, t3⟩ := h.2.1
  refine ⟨_, ct_sign x t2, by rintro _ _ ⟨rfl, -⟩ <;> exact zRt_i (by decide) ⟨_, rfl⟩, ?_⟩
  rintro r1 s1 ⟨rfl, rfl⟩
  by_cases u : x < 32 ∨ 126 < x ∨ f 0 1 = 60
  · rw [if_pos u, if_pos u]
    refine ⟨_, cm_sign x (by omega), ?_⟩
    rintro r2 s2 ⟨rfl, rfl⟩
    rw [if_pos (show x < 32 ∨ 126 < x ∨ f 38 1 = 60 by omega), if_pos (show x < 32 ∨ 126 < x ∨ f 38 1 = 60 by omega)]
    exact ⟨rfl, _, _, a, b, c, rfl, zSim_0 h 0⟩
  · rw [if_neg u, if_neg u]
    have e381 : am_u1 f 0 1 (f 0 1 + 1) 38 1 = f 38 1 := am_u1_c (by decide)
    refine ⟨_, cm_sign x (by rw [e381]; omega), ?_⟩
    rintro r2 s2 ⟨rfl, rfl⟩
    rw [e381, if_neg (show ¬ (x < 32 ∨ 126 < x ∨ f 38 1 = 60) by omega), if_neg (show ¬ (x < 32 ∨ 126 < x ∨ f 38 1 = 60) by omega)]
    refine ⟨rfl, _, _, a, b, c, rfl, zCore_fr h.1 ⟨fun y j hy => ?_, fun y j hy => ?_⟩, ⟨?_, ?_, fun i i1 i2 => ?_⟩, ?_, ?_⟩
    · rw [am_u1_ne (by omega), am_u1_ne (by omega), am_u1_ne (by omega)]
    · rw [am_u3_c (by omega), am_u3_c (by omega)]
    · rw [am_u1_c (by decide), am_u1_c (by decide), am_u1_s, am_u1_s, t1]
    · rw [am_u1_c (by decide), am_u1_c (by decide), am_u1_s]
      omega
    · rw [am_u1_c (by decide), am_u1_c (by decide), am_u1_s] at i2
      rw [am_u3_c (show (1 : Nat) ≠ 39 by decide)]
      by_cases v : i = f 0 1
      · rw [v, am_u3_s, t1, am_u3_s]
        omega
      · rw [am_u3_j v, am_u3_j (by omega), am_u3_c (by decide)]
        exact t3 i i1 (by omega)
    · exact zPp_fr h.2.2.1 (by rw [am_u1_c (by decide), am_u1_c (by decide), am_u1_j (by decide)]) (by rw [am_u1_j (by decide), am_u1_j (by decide), am_u1_c (by decide)]) (fun j => by rw [am_u3_c (by decide), am_u3_c (by decide)]) (fun j => by rw [am_u3_c (by decide), am_u3_c (by decide)])
    · rw [am_u1_c (by decide), am_u1_c (by decide), am_u1_j (by decide), am_u1_j (by decide), am_u1_j (by decide), am_u1_c (by decide)]
      exact h.2.2.2
theorem op_derive (x : Int) (h : zSim f g a b c) : zPair l dC dI tc mm0_derive mm6_derive 6 6 [(.inr (.inr (some 0))), .inl x] [(.inr (.inr (some 38))), .inl x] (58, f, g, pr_r a b c) := by
  refine ⟨_, ct_derive x h.1.1, by rintro _ _ (⟨-, rfl, -⟩ | ⟨-, F, G, a', b', c', rfl, -⟩) <;> exact zRt_i (by decide) ⟨_, rfl⟩, ?_⟩
  rintro r1 s1 (⟨u, rfl, rfl⟩ | ⟨u, F, G, a', b', c', rfl, rfl, q1, q2, q3, q4⟩)
  · refine ⟨_, cm_derive x h.I h.D h.1.2.2, ?_⟩
    rintro r2 s2 ⟨F, G, T, rfl, p1, p2, p3, p4, rfl⟩
    rw [if_pos u]
    exact ⟨rfl, F, G, a, b, c, rfl, zSim_m h p2 p4 p1⟩
  · have h' := zSim_c h q1 q4
    refine ⟨_, cm_derive x h'.I h'.D h'.1.2.2, ?_⟩
    rintro r2 s2 ⟨F2, G2, T, rfl, p1, p2, p3, p4, rfl⟩
    rw [if_neg u]
    obtain ⟨Tc, hTc⟩ := zRes_c h'.I h'.D q3
    obtain rfl := zT_eq h'.I hTc p4 p1.d
    refine ⟨?_, F2, G2, a', b', c', rfl, zSim_m h' p2 p4 p1⟩
    have e20 : F2 2 0 = F 2 0 := p1.d.1 2 0 (by unfold zDf; omega)
    rcases zRS_at hTc.1 (x := x) (by omega) with ⟨e, e1, e2⟩ | ⟨e1, e2⟩
    · simp only [zDv, e1]
      rw [e2.2.2.1, p1.d.pa, e20]
    · simp only [zDv, e1]
      rw [e2.1]
theorem op_sum (x : Int) (h : zSim f g a b c) : zPair l dC dI tc mm0_sum mm6_sum 6 6 [(.inr (.inr (some 0))), .inl x] [(.inr (.inr (some 38))), .inl x] (58, f, g, pr_r a b c) := by
  refine ⟨_, ct_sum x h.1.1, by rintro _ _ (⟨-, rfl, -⟩ | ⟨-, F, G, a', b', c', rfl, -⟩) <;> exact zRt_l rfl ⟨_, rfl⟩, ?_⟩
  rintro r1 s1 (⟨u, rfl, rfl⟩ | ⟨u, F, G, a', b', c', rfl, rfl, q1, q2, q3, q4⟩)
  · refine ⟨_, cm_sum x h.I h.D h.1.2.2, ?_⟩
    rintro r2 s2 ⟨F, G, T, rfl, p1, p2, p3, p4, rfl⟩
    rw [if_pos u]
    exact ⟨rfl, F, G, a, b, c, rfl, zSim_m h p2 p4 p1⟩
  · have h' := zSim_c h q1 q4
    refine ⟨_, cm_sum x h'.I h'.D h'.1.2.2, ?_⟩
    rintro r2 s2 ⟨F2, G2, T, rfl, p1, p2, p3, p4, rfl⟩
    rw [if_neg u]
    obtain ⟨Tc, hTc⟩ := zRes_c h'.I h'.D q3
    obtain rfl := zT_eq h'.I hTc p4 p1.d
    refine ⟨?_, F2, G2, a', b', c', rfl, zSim_m h' p2 p4 p1⟩
    rcases zRS_at hTc.1 (x := x) (by omega) with ⟨e, e1, e2⟩ | ⟨e1, e2⟩
    · simp only [zSv, e1]
      rw [e2.1]
    · simp only [zSv, e1]
      rw [e2.2]
theorem zHd_fact {g0 : Nat → Int → Int} {N : Nat} {f : Nat → Nat → Int} {g : Nat → Int → Int} {q : Nat} {e : Int × List Int} (h : zHd g0 N f g q e) {k : Nat} (hk : k < N) (hc : zCs e k ≠ 4) {y z : Int} (hy : (zPa g0 (zCs e) k).2.2 = y) (hz : 0 ≤ z ∧ z < 5) : g (q + 2) (y * 5 + z) = zFact g0 (zCs e) k z := by
  obtain ⟨t0, t1, t2, t3, t4⟩ := h.2.2.2.2 k hk hc
  rw [hy] at t0 t1 t2 t3 t4
  have hz5 : z = 0 ∨ z = 1 ∨ z = 2 ∨ z = 3 ∨ z = 4 := by omega
  unfold zFact
  rcases hz5 with rfl | rfl | rfl | rfl | rfl
  · rw [Int.add_zero, t0]
    rfl
  · rw [t1]
    rfl
  · rw [t2]
    rfl
  · rw [t3]
    rfl
  · rw [t4]
    rfl
theorem zFrD.fact {F f : Nat → Nat → Int} {G g : Nat → Int → Int} (h : zFrD F f G g) (cs : Nat → Int) (k : Nat) (w : Int) : zFact G cs k w = zFact g cs k w := by
  unfold zFact
  rw [h.pa, h.2 3 k (by unfold zDg; omega), h.2 16 _ (by unfold zDg; omega)]
theorem op_part (x y z : Int) (h : zSim f g a b c) : zPair l dC dI tc mm0_part mm6_part 6 6 [(.inr (.inr (some 0))), .inl x, .inl y, .inl z] [(.inr (.inr (some 38))), .inl x, .inl y, .inl z] (58, f, g, pr_r a b c) := by
  refine ⟨_, ct_part x y z h.1.1, by rintro _ _ (⟨-, rfl, -⟩ | ⟨-, F, G, a', b', c', rfl, -⟩) <;> exact zRt_i (by decide) ⟨_, rfl⟩, ?_⟩
  rintro r1 s1 (⟨u, rfl, rfl⟩ | ⟨u, F, G, a', b', c', rfl, rfl, q1, q2, q3, q4⟩)
  · refine ⟨_, cm_part x y z h.I h.D h.1.2.2, ?_⟩
    rintro r2 s2 ⟨F, G, T, rfl, p1, p2, p3, p4, ⟨u2, rfl⟩ | ⟨u2, _⟩⟩
    · exact ⟨rfl, F, G, a, b, c, rfl, zSim_m h p2 p4 p1⟩
    · exact absurd u u2
  · have h' := zSim_c h q1 q4
    refine ⟨_, cm_part x y z h'.I h'.D h'.1.2.2, ?_⟩
    rintro r2 s2 ⟨F2, G2, T, rfl, p1, p2, p3, p4, ⟨u2, rfl⟩ | ⟨u2, p5⟩⟩
    · exact absurd u2 u
    · obtain ⟨Tc, hTc⟩ := zRes_c h'.I h'.D q3
      obtain rfl := zT_eq h'.I hTc p4 p1.d
      refine ⟨?_, F2, G2, a', b', c', rfl, zSim_m h' p2 p4 p1⟩
      have e20 : F2 2 0 = F 2 0 := p1.d.1 2 0 (by unfold zDf; omega)
      rcases zRS_at hTc.1 (x := x) (by omega) with ⟨e, e1, e2⟩ | ⟨e1, e2⟩
      · rcases p5 with ⟨p6, _⟩ | ⟨e', p6, p7⟩
        · rw [e1] at p6
          cases p6
        · rw [e1] at p6
          obtain rfl := Option.some.inj p6
          rw [p1.d.pa, e20, ← e2.2.2.1] at p7
          rcases p7 with ⟨p7, rfl⟩ | ⟨p7, k, k1, k2, k3, rfl⟩
          · rw [if_neg (fun w => p7 w.1)]
          · rw [p1.d.pa] at k3
            rw [if_pos ⟨p7, by omega⟩, zHd_fact e2 k1 k2 k3 (by omega), p1.d.fact]
      · rcases p5 with ⟨p6, rfl⟩ | ⟨e', p6, p7⟩
        · have := e2.1
          rw [if_neg (by omega)]
        · rw [e1] at p6
          cases p6
theorem op_furthest (h : zSim f g a b c) : zPair l dC dI tc mm0_furthest mm6_furthest 5 1 [(.inr (.inr (some 0)))] [(.inr (.inr (some 38)))] (58, f, g, pr_r a b c) := by
  have i1 := h.I.1
  refine ⟨_, ct_furthest h.1.1, by rintro _ _ (⟨-, rfl, -⟩ | ⟨-, F, G, a', b', c', rfl, -⟩) <;> exact zRt_i (by decide) ⟨_, rfl⟩, ?_⟩
  rintro r1 s1 (⟨u, rfl, rfl⟩ | ⟨u, F, G, a', b', c', rfl, rfl, q1, q2, q3, q4⟩)
  · refine ⟨_, cm_furthest h.I h.D, ?_⟩
    rintro r2 s2 ⟨rfl, ⟨_, rfl⟩ | ⟨u2, _⟩⟩
    · exact ⟨rfl, _, _, a, b, c, rfl, zSim_0 h 0⟩
    · omega
  · have h' := zSim_c h q1 q4
    have e20 : F 2 0 = f 2 0 := q4.d.1 2 0 (by unfold zDf; omega)
    refine ⟨_, cm_furthest h'.I h'.D, ?_⟩
    rintro r2 s2 ⟨rfl, ⟨u2, _⟩ | ⟨u2, L, rfl, hL⟩⟩
    · omega
    · refine ⟨?_, _, _, a', b', c', rfl, zSim_0 h' 0⟩
      rcases q3 with q3 | ⟨_, l1, l2, _⟩
      · omega
      · rw [zMo_lr h'.I h'.D u2 l1 l2 hL]
theorem op_print (x : Int) (h : zSim f g a b c) : zPair l dC dI tc mm0_print mm6_print 6 6 [(.inr (.inr (some 0))), .inl x] [(.inr (.inr (some 38))), .inl x] (58, f, g, pr_r a b c) := by
  refine ⟨_, ct_print x h.1.1 h.D, by rintro _ _ (⟨-, rfl, -⟩ | ⟨-, F, G, a', b', c', Tc, L, rfl, rfl, -⟩) <;> exact zRt_i (by decide) ⟨_, rfl⟩, ?_⟩
  rintro r1 s1 (⟨u, rfl, rfl⟩ | ⟨u, F, G, a', b', c', Tc, L, rfl, rfl, q1, q2, q3, q4, q5, q6⟩)
  · refine ⟨_, cm_print x h.I h.D h.1.2.2, ?_⟩
    rintro r2 s2 ⟨F, G, T, L, rfl, rfl, p1, p2, p3, p4, p5, ⟨_, p6, p7⟩ | ⟨u2, _⟩⟩
    · rw [if_pos u]
      refine ⟨rfl, F, G, a, b, c, rfl, zSim_m h p3 p5 ⟨fun y j hy => ?_, fun y j hy => ?_⟩⟩
      · by_cases w : y = 38 ∧ j = 28
        · rw [w.1, w.2]
          exact p6
        · exact p1 y j (by omega)
      · by_cases w : y = 57
        · rw [w]
          exact p7 j
        · exact p2 y j (by omega)
    · exact absurd u u2
  · have hD' : zD F G := q4.d.D h.D
    have hS' : mSS F G := mSS_fr h.1.2.2 q4.d (q4.1 38 21 (by decide) (by decide)) (q4.1 38 22 (by decide) (by decide)) (fun j => q4.2 52 j (by decide)) (fun j => q4.2 53 j (by decide)) ⟨q4.2 55 0 (by decide), q4.2 56 0 (by decide)⟩
    refine ⟨_, cm_print x q1.2.1 hD' hS', ?_⟩
    rintro r2 s2 ⟨F2, G2, T, L2, rfl, rfl, p1, p2, p3, p4, p5, ⟨u2, _⟩ | ⟨_, p6, p7⟩⟩
    · exact absurd u2 u
    · rw [if_neg u]
      have hd : zFrD F2 F G2 G := ⟨fun c j hc => p1 c j (by unfold zDf at hc; omega), fun c j hc => p2 c j (by unfold zDg at hc; omega)⟩
      obtain rfl := zT_eq q1.2.1 q3 p5 hd
      have e20 : F2 2 0 = F 2 0 := hd.1 2 0 (by unfold zDf; omega)
      have hLL : L2 = L := by
        rw [p7, q6]
        cases Tc[x.toNat]? with
        | none => rfl
        | some e =>
          show zPt G2 (zCs e) (F2 2 0).toNat = zPt G (zCs e) (F 2 0).toNat
          rw [hd.pt, e20]
      subst hLL
      refine ⟨rfl, F2, G2, a', b', c', rfl, ⟨zSS_fr q1 (p1 2 0 (by decide)) (p1 12 0 (by decide)) (p1 18 0 (by decide)) (fun y j _ _ => p1 y j (by omega)) (fun y j hy => p2 y j (by omega)) (fun y j _ _ => p2 y j (by omega)), hd.D hD', Or.inr ⟨p3, _, p5⟩⟩, zTx_fr h.2.1 ?_ ?_ (fun j => ?_) (fun j => ?_), ?_, ?_⟩
      · rw [p1 0 1 (by decide)]
        exact q4.1 0 1 (by decide) (by decide)
      · rw [p1 38 1 (by decide)]
        exact q4.1 38 1 (by decide) (by decide)
      · rw [p2 1 j (by decide)]
        exact q4.2 1 j (by decide)
      · rw [p2 39 j (by decide)]
        exact q4.2 39 j (by decide)
      · have e1 : F2 0 9 = F 0 9 := p1 0 9 (by decide)
        have e2 : ∀ j, G2 37 j = G 37 j := fun j => p2 37 j (by decide)
        have hlen : L2.length ≤ 42 := by
          rw [q6]
          split
          · rename_i e he
            obtain ⟨h0, hvd⟩ := cRes_vd q1.2.1 q3 he
            have i1 := q1.2.1.1
            have i3 := q1.2.1.2.2.1
            have h1 := zPt_l (f := F) (g := G) (cs := zCs e) (F 2 0).toNat
            have h2 := zPa_n G (zCs e) (F 2 0).toNat
            have h3 := hvd.2.2.1
            omega
          · simp
        refine ⟨?_, ?_, fun i i1 i2 => ?_⟩
        · rw [e1, q5.1, p6.1]
        · rw [e1, q5.1]
          omega
        · rw [e1, q5.1] at i2
          obtain ⟨n, rfl⟩ := Int.eq_ofNat_of_zero_le i1
          rw [e2, q5.2 n (by omega), p6.2 n (by omega)]
      · rw [p1 0 2 (by decide), p1 38 3 (by decide), q4.1 0 2 (by decide) (by decide), q4.1 38 3 (by decide) (by decide)]
        exact h.2.2.2
end Ops

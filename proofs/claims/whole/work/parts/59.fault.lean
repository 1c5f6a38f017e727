/-! the reference reads a form's text -/
def zRM (f : Nat → Nat → Int) (g : Nat → Int → Int) : zPS → Prop
  | (n, K, R, M, _, _, _) => f 38 9 = n ∧ ∀ p, 0 ≤ p → p < n → g 43 p = K p ∧ g 44 p = R p ∧ g 45 p = M p
def zFrN (F f : Nat → Nat → Int) (G g : Nat → Int → Int) : Prop := (∀ x j, x ≠ 38 ∨ j ≠ 9 → F x j = f x j) ∧ ∀ x j, x < 43 ∨ 45 < x → G x j = g x j
theorem zFrN.tr {F F1 f : Nat → Nat → Int} {G G1 g : Nat → Int → Int} (h : zFrN F F1 G G1) (h2 : zFrN F1 f G1 g) : zFrN F f G g := ⟨fun x j hx => (h.1 x j hx).trans (h2.1 x j hx), fun x j hx => (h.2 x j hx).trans (h2.2 x j hx)⟩
theorem zLet_ne {k x : Int} (hk : 0 ≤ k ∧ k < 9) : zLet k = x ↔ k = zIx x := by
  constructor
  · intro h
    rw [← h, zLet_ix k hk.1 hk.2]
  · intro h
    rw [h]
    exact zIx_let x (by omega)
section Rd
variable {l : Launch} {dC : Nat → ClassId} {dI : Nat → Nat → Nat} {tc : Nat → ClassId} {f : Nat → Nat → Int} {g : Nat → Int → Int} {a b c : Nat}
variable {n row what : Int} {K R M U : Int → Int}
set_option maxRecDepth 100000 in
set_option maxHeartbeats 4000000 in
theorem cm_newKind (x : Int) (hW : zWf (n, K, R, M, U, row, what)) (hM : zRM f g (n, K, R, M, U, row, what)) : am_Ct l dC dI tc mm6_newKind 1 58 [(.inr (.inr (some 38))), .inl x] (58, f, g, pr_r a b c) (fun r s => r = some (.inl (if zIx x ≠ -1 ∧ U (zIx x) = 0 then zIx x else -1)) ∧ s = (58, f, g, pr_r a b c)) := by
  obtain ⟨m1, m2⟩ := hM
  obtain ⟨⟨h1, h2⟩, h3, h4, -⟩ := hW
  have hr := zIx_r x
  refine am_enter ok_6_newKind rfl (by decide) (Nat.le_of_ble_eq_true rfl) rfl ?_
  have loop2 : ∀ (m k : Nat) (t : Int), (k : Int) + m = n → ((t = zIx x ∧ ¬ ∃ p, 0 ≤ p ∧ p < (k : Int) ∧ K p = zIx x) ∨ (t = -1 ∧ ∃ p, 0 ≤ p ∧ p < (k : Int) ∧ K p = zIx x)) → am_wp l dC dI tc mm6_newKind 1 58 58 (fun r s => r = some (.inl (if zIx x ≠ -1 ∧ U (zIx x) = 0 then zIx x else -1)) ∧ s = (58, f, g, pr_r a b c)) 19 [some (.inr (.inr (some 38))), some (.inl x), some (.inl t), some (.inl (k : Int))] [] (58, f, g, pr_r a b c) := by
    intro m
    induction m with
    | zero =>
      intro k t hk ht
      iterate 3 (refine am_go rfl (by first | exact True.intro | omega | exact ⟨by decide, Nat.le_of_ble_eq_true rfl, Nat.le_of_ble_eq_true rfl⟩ | exact ⟨by decide, Nat.le_of_ble_eq_true rfl⟩) ?_)
      refine am_if rfl (fun c1 => ?_) (fun c1 => by omega)
      (refine am_go rfl (by first | exact True.intro | omega | exact ⟨by decide, Nat.le_of_ble_eq_true rfl, Nat.le_of_ble_eq_true rfl⟩ | exact ⟨by decide, Nat.le_of_ble_eq_true rfl⟩) ?_)
      refine am_iret rfl rfl rfl ⟨?_, rfl⟩
      rw [show (k : Int) = n by omega] at ht
      rcases ht with ⟨rfl, ht⟩ | ⟨rfl, ht⟩
      · by_cases c : zIx x = -1
        · rw [if_neg (fun u => u.1 c), c]
        · have hu := h3 (zIx x) (by omega) (by omega)
          rw [if_pos ⟨c, hu.1.resolve_right (fun u => ht (hu.2.mp u))⟩]
      · rw [if_neg ?_]
        rintro ⟨u1, u2⟩
        have hu := (h3 (zIx x) (by omega) (by omega)).2.mpr ht
        omega
    | succ m ih =>
      intro k t hk ht
      have e43 := (m2 k (by omega) (by omega)).1
      have hkk := (h4 k (by omega) (by omega)).1
      iterate 3 (refine am_go rfl (by first | exact True.intro | omega | exact ⟨by decide, Nat.le_of_ble_eq_true rfl, Nat.le_of_ble_eq_true rfl⟩ | exact ⟨by decide, Nat.le_of_ble_eq_true rfl⟩) ?_)
      refine am_if rfl (fun c1 => by omega) (fun c1 => ?_)
      iterate 5 (refine am_go rfl (by first | exact True.intro | omega | exact ⟨by decide, Nat.le_of_ble_eq_true rfl, Nat.le_of_ble_eq_true rfl⟩ | exact ⟨by decide, Nat.le_of_ble_eq_true rfl⟩) ?_)
      rw [e43]
      refine am_if rfl (fun c2 => ?_) (fun c2 => ?_)
      · iterate 4 (refine am_go rfl (by first | exact True.intro | omega | exact ⟨by decide, Nat.le_of_ble_eq_true rfl, Nat.le_of_ble_eq_true rfl⟩ | exact ⟨by decide, Nat.le_of_ble_eq_true rfl⟩) ?_)
        refine ih (k + 1) t (by omega) ?_
        rcases ht with ⟨rfl, ht⟩ | ⟨rfl, p, p1, p2, p3⟩
        · refine Or.inl ⟨rfl, ?_⟩
          rintro ⟨p, p1, p2, p3⟩
          by_cases c : p = (k : Int)
          · rw [c] at p3
            exact c2 p3
          · exact ht ⟨p, p1, by omega, p3⟩
        · exact Or.inr ⟨rfl, p, p1, by omega, p3⟩
      · iterate 5 (refine am_go rfl (by first | exact True.intro | omega | exact ⟨by decide, Nat.le_of_ble_eq_true rfl, Nat.le_of_ble_eq_true rfl⟩ | exact ⟨by decide, Nat.le_of_ble_eq_true rfl⟩) ?_)
        refine ih (k + 1) (-1) (by omega) (Or.inr ⟨rfl, ?_⟩)
        rcases ht with ⟨rfl, ht⟩ | ⟨rfl, p, p1, p2, p3⟩
        · exact ⟨k, by omega, by omega, by omega⟩
        · exact ⟨p, p1, by omega, p3⟩
  have loop1 : ∀ (m k : Nat) (t : Int), k + m = 9 → ((t = zIx x ∧ zIx x < (k : Int)) ∨ (t = -1 ∧ (k : Int) ≤ zIx x)) → am_wp l dC dI tc mm6_newKind 1 58 58 (fun r s => r = some (.inl (if zIx x ≠ -1 ∧ U (zIx x) = 0 then zIx x else -1)) ∧ s = (58, f, g, pr_r a b c)) 4 [some (.inr (.inr (some 38))), some (.inl x), some (.inl t), some (.inl (k : Int))] [] (58, f, g, pr_r a b c) := by
    intro m
    induction m with
    | zero =>
      intro k t hk ht
      iterate 2 (refine am_go rfl (by first | exact True.intro | omega | exact ⟨by decide, Nat.le_of_ble_eq_true rfl, Nat.le_of_ble_eq_true rfl⟩ | exact ⟨by decide, Nat.le_of_ble_eq_true rfl⟩) ?_)
      refine am_if rfl (fun c1 => ?_) (fun c1 => by omega)
      iterate 2 (refine am_go rfl (by first | exact True.intro | omega | exact ⟨by decide, Nat.le_of_ble_eq_true rfl, Nat.le_of_ble_eq_true rfl⟩ | exact ⟨by decide, Nat.le_of_ble_eq_true rfl⟩) ?_)
      refine loop2 n.toNat 0 t (by omega) (Or.inl ⟨by omega, ?_⟩)
      rintro ⟨p, p1, p2, p3⟩
      omega
    | succ m ih =>
      intro k t hk ht
      have hl := zLet_ne (k := (k : Int)) (x := x) (by omega)
      iterate 2 (refine am_go rfl (by first | exact True.intro | omega | exact ⟨by decide, Nat.le_of_ble_eq_true rfl, Nat.le_of_ble_eq_true rfl⟩ | exact ⟨by decide, Nat.le_of_ble_eq_true rfl⟩) ?_)
      refine am_if rfl (fun c1 => by omega) (fun c1 => ?_)
      (refine am_go rfl (by first | exact True.intro | omega | exact ⟨by decide, Nat.le_of_ble_eq_true rfl, Nat.le_of_ble_eq_true rfl⟩ | exact ⟨by decide, Nat.le_of_ble_eq_true rfl⟩) ?_)
      (refine am_callv rfl (cm_letter (k : Int)) (by decide) (Nat.le_of_ble_eq_true rfl) (Nat.le_of_ble_eq_true rfl) ?_)
      (refine am_go rfl (by first | exact True.intro | omega | exact ⟨by decide, Nat.le_of_ble_eq_true rfl, Nat.le_of_ble_eq_true rfl⟩ | exact ⟨by decide, Nat.le_of_ble_eq_true rfl⟩) ?_)
      refine am_if rfl (fun c2 => ?_) (fun c2 => ?_)
      · have : (k : Int) ≠ zIx x := fun u => c2 (hl.mpr u)
        iterate 4 (refine am_go rfl (by first | exact True.intro | omega | exact ⟨by decide, Nat.le_of_ble_eq_true rfl, Nat.le_of_ble_eq_true rfl⟩ | exact ⟨by decide, Nat.le_of_ble_eq_true rfl⟩) ?_)
        exact ih (k + 1) t (by omega) (by omega)
      · have : (k : Int) = zIx x := hl.mp (Classical.byContradiction c2)
        iterate 5 (refine am_go rfl (by first | exact True.intro | omega | exact ⟨by decide, Nat.le_of_ble_eq_true rfl, Nat.le_of_ble_eq_true rfl⟩ | exact ⟨by decide, Nat.le_of_ble_eq_true rfl⟩) ?_)
        exact ih (k + 1) k (by omega) (by omega)
  iterate 4 (refine am_go rfl (by first | exact True.intro | omega | exact ⟨by decide, Nat.le_of_ble_eq_true rfl, Nat.le_of_ble_eq_true rfl⟩ | exact ⟨by decide, Nat.le_of_ble_eq_true rfl⟩) ?_)
  exact loop1 9 0 (-1) (by omega) (by omega)
set_option maxRecDepth 100000 in
set_option maxHeartbeats 4000000 in
theorem cm_fault (len : Nat) (hl : len ≤ 60) (h1 : f 38 1 = len) (ht : ∀ i : Nat, i < len → 32 ≤ g 39 i ∧ g 39 i ≤ 126) : am_Ct l dC dI tc mm6_fault 2 58 [(.inr (.inr (some 38)))] (58, f, g, pr_r a b c) (fun r s => r = some (.inl ((zRun (g 39) len 0 zS0).1)) ∧ ∃ F G, s = (58, F, G, pr_r a b c) ∧ zFrN F f G g ∧ zRM F G ((zRun (g 39) len 0 zS0).2)) := by
  refine am_enter ok_6_fault rfl (by decide) (Nat.le_of_ble_eq_true rfl) rfl ?_
  have loop : ∀ (m i : Nat) (n : Int) (K R M U : Int → Int) (row what : Int) (o4 o5 : Option am_V) (F : Nat → Nat → Int) (G : Nat → Int → Int), i + m = len → zWf (n, K, R, M, U, row, what) → zRM F G (n, K, R, M, U, row, what) → zFrN F f G g → zRun (g 39) m i (n, K, R, M, U, row, what) = zRun (g 39) len 0 zS0 → am_wp l dC dI tc mm6_fault 2 58 58 (fun r s => r = some (.inl ((zRun (g 39) len 0 zS0).1)) ∧ ∃ F G, s = (58, F, G, pr_r a b c) ∧ zFrN F f G g ∧ zRM F G ((zRun (g 39) len 0 zS0).2)) 9 [some (.inr (.inr (some 38))), some (.inl row), some (.inl what), some (.inl (i : Int)), o4, o5] [] (58, F, G, pr_r a b c) := by
    intro m
    induction m with
    | zero =>
      intro i n K R M U row what o4 o5 F G hi hW hM hf hz
      have e1 : F 38 1 = len := by rw [hf.1 38 1 (Or.inr (by decide))]; exact h1
      simp only [zRun] at hz
      rw [← hz]
      have hM2 : zRM F G (n, K, R, M, U, row, what) := hM
      iterate 3 (refine am_go rfl (by first | exact True.intro | omega | exact ⟨by decide, Nat.le_of_ble_eq_true rfl, Nat.le_of_ble_eq_true rfl⟩ | exact ⟨by decide, Nat.le_of_ble_eq_true rfl⟩) ?_)
      refine am_if rfl (fun c1 => ?_) (fun c1 => by omega)
      (refine am_go rfl (by first | exact True.intro | omega | exact ⟨by decide, Nat.le_of_ble_eq_true rfl, Nat.le_of_ble_eq_true rfl⟩ | exact ⟨by decide, Nat.le_of_ble_eq_true rfl⟩) ?_)
      refine am_if rfl (fun c2 => ?_) (fun c2 => ?_)
      · iterate 3 (refine am_go rfl (by first | exact True.intro | omega | exact ⟨by decide, Nat.le_of_ble_eq_true rfl, Nat.le_of_ble_eq_true rfl⟩ | exact ⟨by decide, Nat.le_of_ble_eq_true rfl⟩) ?_)
        refine am_iret rfl rfl rfl ⟨?_, F, G, rfl, hf, hM2⟩
        rw [if_neg (fun u => c2 u.1), e1, show i = len by omega]
      · (refine am_go rfl (by first | exact True.intro | omega | exact ⟨by decide, Nat.le_of_ble_eq_true rfl, Nat.le_of_ble_eq_true rfl⟩ | exact ⟨by decide, Nat.le_of_ble_eq_true rfl⟩) ?_)
        refine am_if rfl (fun c3 => ?_) (fun c3 => ?_)
        · (refine am_go rfl (by first | exact True.intro | omega | exact ⟨by decide, Nat.le_of_ble_eq_true rfl, Nat.le_of_ble_eq_true rfl⟩ | exact ⟨by decide, Nat.le_of_ble_eq_true rfl⟩) ?_)
          refine am_iret rfl rfl rfl ⟨?_, F, G, rfl, hf, hM2⟩
          rw [if_pos ⟨Classical.byContradiction c2, c3⟩]
        · iterate 3 (refine am_go rfl (by first | exact True.intro | omega | exact ⟨by decide, Nat.le_of_ble_eq_true rfl, Nat.le_of_ble_eq_true rfl⟩ | exact ⟨by decide, Nat.le_of_ble_eq_true rfl⟩) ?_)
          refine am_iret rfl rfl rfl ⟨?_, F, G, rfl, hf, hM2⟩
          rw [if_neg (fun u => c3 u.2), e1, show i = len by omega]
    | succ m ih =>
      intro i n K R M U row what o4 o5 F G hi hW hM hf hz
      have e1 : F 38 1 = len := by rw [hf.1 38 1 (Or.inr (by decide))]; exact h1
      have g39 : G 39 i = g 39 i := hf.2 39 i (Or.inl (by decide))
      have hti := ht i (by omega)
      have hr := zIx_r (g 39 i)
      have hW0 := hW
      have hM0 := hM
      obtain ⟨m1, m2⟩ := hM
      obtain ⟨⟨w1, w2⟩, w3, w4, w5, w6, ⟨w8, w9⟩, ⟨w10, w11⟩, w13, w12⟩ := hW
      have next : ∀ (s' : zPS) (kk row' what' : Int) (F' : Nat → Nat → Int) (G' : Nat → Int → Int), zStep (n, K, R, M, U, row, what) (g 39 i) = some s' → s'.2.2.2.2.2.1 = row' → s'.2.2.2.2.2.2 = what' → zFrN F' F G' G → zRM F' G' s' → am_wp l dC dI tc mm6_fault 2 58 58 (fun r s => r = some (.inl ((zRun (g 39) len 0 zS0).1)) ∧ ∃ F G, s = (58, F, G, pr_r a b c) ∧ zFrN F f G g ∧ zRM F G ((zRun (g 39) len 0 zS0).2)) 122 [some (.inr (.inr (some 38))), some (.inl row'), some (.inl what'), some (.inl (i : Int)), some (.inl (g 39 i)), some (.inl kk)] [] (58, F', G', pr_r a b c) := by
        intro s' kk row' what' F' G' hs hr1 hw1 hf' hM'
        have hWs := zWf_s hW0 hs
        simp only [zRun, hs] at hz
        obtain ⟨n', K', R', M', U', row1, what1⟩ := s'
        have hr1 : row1 = row' := hr1
        have hw1 : what1 = what' := hw1
        subst hr1 hw1
        iterate 2 (refine am_go rfl (by first | exact True.intro | omega | exact ⟨by decide, Nat.le_of_ble_eq_true rfl, Nat.le_of_ble_eq_true rfl⟩ | exact ⟨by decide, Nat.le_of_ble_eq_true rfl⟩) ?_)
        exact ih (i + 1) n' K' R' M' U' row1 what1 _ _ F' G' (by omega) hWs hM' (hf'.tr hf) hz
      have stop : ∀ (kk : Int), zStep (n, K, R, M, U, row, what) (g 39 i) = none → am_wp l dC dI tc mm6_fault 2 58 58 (fun r s => r = some (.inl ((zRun (g 39) len 0 zS0).1)) ∧ ∃ F G, s = (58, F, G, pr_r a b c) ∧ zFrN F f G g ∧ zRM F G ((zRun (g 39) len 0 zS0).2)) 120 [some (.inr (.inr (some 38))), some (.inl row), some (.inl what), some (.inl (i : Int)), some (.inl (g 39 i)), some (.inl kk)] [] (58, F, G, pr_r a b c) := by
        intro kk hs
        simp only [zRun, hs] at hz
        (refine am_go rfl (by first | exact True.intro | omega | exact ⟨by decide, Nat.le_of_ble_eq_true rfl, Nat.le_of_ble_eq_true rfl⟩ | exact ⟨by decide, Nat.le_of_ble_eq_true rfl⟩) ?_)
        refine am_iret rfl rfl rfl ?_
        rw [← hz]
        exact ⟨rfl, F, G, rfl, hf, hM0⟩
      have rest : ∀ (kk : Int), ¬ (what ≠ 2 ∧ zIx (g 39 i) ≠ -1 ∧ U (zIx (g 39 i)) = 0) → am_wp l dC dI tc mm6_fault 2 58 58 (fun r s => r = some (.inl ((zRun (g 39) len 0 zS0).1)) ∧ ∃ F G, s = (58, F, G, pr_r a b c) ∧ zFrN F f G g ∧ zRM F G ((zRun (g 39) len 0 zS0).2)) 57 [some (.inr (.inr (some 38))), some (.inl row), some (.inl what), some (.inl (i : Int)), some (.inl (g 39 i)), some (.inl kk)] [] (58, F, G, pr_r a b c) := by
        intro kk hno
        have dig : ¬ (g 39 i = 59 ∧ what ≠ 0 ∧ what ≠ 2) → ¬ (g 39 i = 63 ∧ what = 1) → am_wp l dC dI tc mm6_fault 2 58 58 (fun r s => r = some (.inl ((zRun (g 39) len 0 zS0).1)) ∧ ∃ F G, s = (58, F, G, pr_r a b c) ∧ zFrN F f G g ∧ zRM F G ((zRun (g 39) len 0 zS0).2)) 86 [some (.inr (.inr (some 38))), some (.inl row), some (.inl what), some (.inl (i : Int)), some (.inl (g 39 i)), some (.inl kk)] [] (58, F, G, pr_r a b c) := by
          intro hs1 hs2
          have none' : ¬ ((48 ≤ g 39 i ∧ g 39 i ≤ 57) ∧ 1 < what ∧ what < 5) → am_wp l dC dI tc mm6_fault 2 58 58 (fun r s => r = some (.inl ((zRun (g 39) len 0 zS0).1)) ∧ ∃ F G, s = (58, F, G, pr_r a b c) ∧ zFrN F f G g ∧ zRM F G ((zRun (g 39) len 0 zS0).2)) 120 [some (.inr (.inr (some 38))), some (.inl row), some (.inl what), some (.inl (i : Int)), some (.inl (g 39 i)), some (.inl kk)] [] (58, F, G, pr_r a b c) := by
            intro hs3
            refine stop kk ?_
            simp only [zStep]
            rw [if_neg hno, if_neg hs1, if_neg hs2, if_neg hs3]
          iterate 2 (refine am_go rfl (by first | exact True.intro | omega | exact ⟨by decide, Nat.le_of_ble_eq_true rfl, Nat.le_of_ble_eq_true rfl⟩ | exact ⟨by decide, Nat.le_of_ble_eq_true rfl⟩) ?_)
          refine am_if rfl (fun c1 => ?_) (fun c1 => ?_)
          · exact none' (by omega)
          · iterate 2 (refine am_go rfl (by first | exact True.intro | omega | exact ⟨by decide, Nat.le_of_ble_eq_true rfl, Nat.le_of_ble_eq_true rfl⟩ | exact ⟨by decide, Nat.le_of_ble_eq_true rfl⟩) ?_)
            refine am_if rfl (fun c2 => ?_) (fun c2 => ?_)
            · exact none' (by omega)
            · iterate 2 (refine am_go rfl (by first | exact True.intro | omega | exact ⟨by decide, Nat.le_of_ble_eq_true rfl, Nat.le_of_ble_eq_true rfl⟩ | exact ⟨by decide, Nat.le_of_ble_eq_true rfl⟩) ?_)
              refine am_if rfl (fun c3 => ?_) (fun c3 => ?_)
              · exact none' (by omega)
              · iterate 2 (refine am_go rfl (by first | exact True.intro | omega | exact ⟨by decide, Nat.le_of_ble_eq_true rfl, Nat.le_of_ble_eq_true rfl⟩ | exact ⟨by decide, Nat.le_of_ble_eq_true rfl⟩) ?_)
                refine am_if rfl (fun c4 => ?_) (fun c4 => ?_)
                · exact none' (by omega)
                · have hn0 := (w11 (by omega)).1
                  have e45 := (m2 (n - 1) (by omega) (by omega)).2.2
                  have hmr := (w4 (n - 1) (by omega) (by omega)).2
                  iterate 6 (refine am_go rfl (by first | exact True.intro | omega | exact ⟨by decide, Nat.le_of_ble_eq_true rfl, Nat.le_of_ble_eq_true rfl⟩ | exact ⟨by decide, Nat.le_of_ble_eq_true rfl⟩) ?_)
                  rw [m1]
                  iterate 7 (refine am_go rfl (by first | exact True.intro | omega | exact ⟨by decide, Nat.le_of_ble_eq_true rfl, Nat.le_of_ble_eq_true rfl⟩ | exact ⟨by decide, Nat.le_of_ble_eq_true rfl⟩) ?_)
                  rw [m1]
                  (refine am_go rfl (by first | exact True.intro | omega | exact ⟨by decide, Nat.le_of_ble_eq_true rfl, Nat.le_of_ble_eq_true rfl⟩ | exact ⟨by decide, Nat.le_of_ble_eq_true rfl⟩) ?_)
                  rw [e45]
                  iterate 8 (refine am_go rfl (by first | exact True.intro | omega | exact ⟨by decide, Nat.le_of_ble_eq_true rfl, Nat.le_of_ble_eq_true rfl⟩ | exact ⟨by decide, Nat.le_of_ble_eq_true rfl⟩) ?_)
                  refine next (n, K, R, zUp M (n - 1) (10 * M (n - 1) + (g 39 i - 48)), U, row, what + 1) kk row (what + 1) F _ ?_ rfl rfl ⟨fun _ _ _ => rfl, fun y j hy => am_u3_c (by omega)⟩ ?_
                  · simp only [zStep]
                    rw [if_neg hno, if_neg hs1, if_neg hs2, if_pos (by omega)]
                  · refine ⟨m1, fun p p1 p2 => ?_⟩
                    obtain ⟨b1, b2, b3⟩ := m2 p p1 p2
                    refine ⟨by rw [am_u3_c (by decide)]; exact b1, by rw [am_u3_c (by decide)]; exact b2, ?_⟩
                    by_cases c : p = n - 1
                    · rw [c, am_u3_s, zUp_s]
                      omega
                    · rw [am_u3_j c, zUp_n c]
                      exact b3
        have mark : ¬ (g 39 i = 59 ∧ what ≠ 0 ∧ what ≠ 2) → am_wp l dC dI tc mm6_fault 2 58 58 (fun r s => r = some (.inl ((zRun (g 39) len 0 zS0).1)) ∧ ∃ F G, s = (58, F, G, pr_r a b c) ∧ zFrN F f G g ∧ zRM F G ((zRun (g 39) len 0 zS0).2)) 69 [some (.inr (.inr (some 38))), some (.inl row), some (.inl what), some (.inl (i : Int)), some (.inl (g 39 i)), some (.inl kk)] [] (58, F, G, pr_r a b c) := by
          intro hs1
          iterate 2 (refine am_go rfl (by first | exact True.intro | omega | exact ⟨by decide, Nat.le_of_ble_eq_true rfl, Nat.le_of_ble_eq_true rfl⟩ | exact ⟨by decide, Nat.le_of_ble_eq_true rfl⟩) ?_)
          refine am_if rfl (fun c1 => ?_) (fun c1 => ?_)
          · exact dig hs1 (by omega)
          · iterate 2 (refine am_go rfl (by first | exact True.intro | omega | exact ⟨by decide, Nat.le_of_ble_eq_true rfl, Nat.le_of_ble_eq_true rfl⟩ | exact ⟨by decide, Nat.le_of_ble_eq_true rfl⟩) ?_)
            refine am_if rfl (fun c2 => ?_) (fun c2 => ?_)
            · exact dig hs1 (by omega)
            · have hn0 := (w11 (by omega)).1
              iterate 6 (refine am_go rfl (by first | exact True.intro | omega | exact ⟨by decide, Nat.le_of_ble_eq_true rfl, Nat.le_of_ble_eq_true rfl⟩ | exact ⟨by decide, Nat.le_of_ble_eq_true rfl⟩) ?_)
              rw [m1]
              iterate 5 (refine am_go rfl (by first | exact True.intro | omega | exact ⟨by decide, Nat.le_of_ble_eq_true rfl, Nat.le_of_ble_eq_true rfl⟩ | exact ⟨by decide, Nat.le_of_ble_eq_true rfl⟩) ?_)
              refine next (n, K, R, zUp M (n - 1) 0, U, row, 2) kk row 2 F _ ?_ rfl rfl ⟨fun _ _ _ => rfl, fun y j hy => am_u3_c (by omega)⟩ ?_
              · simp only [zStep]
                rw [if_neg hno, if_neg hs1, if_pos (by omega)]
              · refine ⟨m1, fun p p1 p2 => ?_⟩
                obtain ⟨b1, b2, b3⟩ := m2 p p1 p2
                refine ⟨by rw [am_u3_c (by decide)]; exact b1, by rw [am_u3_c (by decide)]; exact b2, ?_⟩
                by_cases c : p = n - 1
                · rw [c, am_u3_s, zUp_s]
                · rw [am_u3_j c, zUp_n c]
                  exact b3
        iterate 2 (refine am_go rfl (by first | exact True.intro | omega | exact ⟨by decide, Nat.le_of_ble_eq_true rfl, Nat.le_of_ble_eq_true rfl⟩ | exact ⟨by decide, Nat.le_of_ble_eq_true rfl⟩) ?_)
        refine am_if rfl (fun c1 => ?_) (fun c1 => ?_)
        · exact mark (by omega)
        · (refine am_go rfl (by first | exact True.intro | omega | exact ⟨by decide, Nat.le_of_ble_eq_true rfl, Nat.le_of_ble_eq_true rfl⟩ | exact ⟨by decide, Nat.le_of_ble_eq_true rfl⟩) ?_)
          refine am_if rfl (fun c2 => ?_) (fun c2 => ?_)
          · exact mark (by omega)
          · iterate 2 (refine am_go rfl (by first | exact True.intro | omega | exact ⟨by decide, Nat.le_of_ble_eq_true rfl, Nat.le_of_ble_eq_true rfl⟩ | exact ⟨by decide, Nat.le_of_ble_eq_true rfl⟩) ?_)
            refine am_if rfl (fun c3 => ?_) (fun c3 => ?_)
            · exact mark (by omega)
            · iterate 4 (refine am_go rfl (by first | exact True.intro | omega | exact ⟨by decide, Nat.le_of_ble_eq_true rfl, Nat.le_of_ble_eq_true rfl⟩ | exact ⟨by decide, Nat.le_of_ble_eq_true rfl⟩) ?_)
              refine next (n, K, R, M, U, row + 1, 0) kk (row + 1) 0 F G ?_ rfl rfl ⟨fun _ _ _ => rfl, fun _ _ _ => rfl⟩ ⟨m1, m2⟩
              simp only [zStep]
              rw [if_neg hno, if_pos (by omega)]
      iterate 3 (refine am_go rfl (by first | exact True.intro | omega | exact ⟨by decide, Nat.le_of_ble_eq_true rfl, Nat.le_of_ble_eq_true rfl⟩ | exact ⟨by decide, Nat.le_of_ble_eq_true rfl⟩) ?_)
      refine am_if rfl (fun c1 => by omega) (fun c1 => ?_)
      iterate 4 (refine am_go rfl (by first | exact True.intro | omega | exact ⟨by decide, Nat.le_of_ble_eq_true rfl, Nat.le_of_ble_eq_true rfl⟩ | exact ⟨by decide, Nat.le_of_ble_eq_true rfl⟩) ?_)
      rw [g39]
      iterate 3 (refine am_go rfl (by first | exact True.intro | omega | exact ⟨by decide, Nat.le_of_ble_eq_true rfl, Nat.le_of_ble_eq_true rfl⟩ | exact ⟨by decide, Nat.le_of_ble_eq_true rfl⟩) ?_)
      refine am_if rfl (fun c2 => ?_) (fun c2 => ?_)
      · iterate 2 (refine am_go rfl (by first | exact True.intro | omega | exact ⟨by decide, Nat.le_of_ble_eq_true rfl, Nat.le_of_ble_eq_true rfl⟩ | exact ⟨by decide, Nat.le_of_ble_eq_true rfl⟩) ?_)
        (refine am_callv rfl (cm_newKind (g 39 i) hW0 hM0) (by decide) (Nat.le_of_ble_eq_true rfl) (Nat.le_of_ble_eq_true rfl) ?_)
        by_cases cc : zIx (g 39 i) ≠ -1 ∧ U (zIx (g 39 i)) = 0
        · rw [if_pos cc]
          have hfull := zWf_full hW0 (k := zIx (g 39 i)) (by omega) cc.2
          iterate 3 (refine am_go rfl (by first | exact True.intro | omega | exact ⟨by decide, Nat.le_of_ble_eq_true rfl, Nat.le_of_ble_eq_true rfl⟩ | exact ⟨by decide, Nat.le_of_ble_eq_true rfl⟩) ?_)
          refine am_if rfl (fun c3 => absurd c3 cc.1) (fun c3 => ?_)
          iterate 4 (refine am_go rfl (by first | exact True.intro | omega | exact ⟨by decide, Nat.le_of_ble_eq_true rfl, Nat.le_of_ble_eq_true rfl⟩ | exact ⟨by decide, Nat.le_of_ble_eq_true rfl⟩) ?_)
          rw [m1]
          iterate 6 (refine am_go rfl (by first | exact True.intro | omega | exact ⟨by decide, Nat.le_of_ble_eq_true rfl, Nat.le_of_ble_eq_true rfl⟩ | exact ⟨by decide, Nat.le_of_ble_eq_true rfl⟩) ?_)
          rw [m1]
          iterate 6 (refine am_go rfl (by first | exact True.intro | omega | exact ⟨by decide, Nat.le_of_ble_eq_true rfl, Nat.le_of_ble_eq_true rfl⟩ | exact ⟨by decide, Nat.le_of_ble_eq_true rfl⟩) ?_)
          rw [m1]
          iterate 5 (refine am_go rfl (by first | exact True.intro | omega | exact ⟨by decide, Nat.le_of_ble_eq_true rfl, Nat.le_of_ble_eq_true rfl⟩ | exact ⟨by decide, Nat.le_of_ble_eq_true rfl⟩) ?_)
          rw [m1]
          iterate 6 (refine am_go rfl (by first | exact True.intro | omega | exact ⟨by decide, Nat.le_of_ble_eq_true rfl, Nat.le_of_ble_eq_true rfl⟩ | exact ⟨by decide, Nat.le_of_ble_eq_true rfl⟩) ?_)
          refine next (n + 1, zUp K n (zIx (g 39 i)), zUp R n row, zUp M n (-1), zUp U (zIx (g 39 i)) 1, row, 1) (zIx (g 39 i)) row 1 _ _ ?_ rfl rfl ⟨fun y j hy => am_u1_ne hy, fun y j hy => ?_⟩ ?_
          · simp only [zStep]
            rw [if_pos ⟨c2, cc⟩]
          · rw [am_u3_c (by omega), am_u3_c (by omega), am_u3_c (by omega)]
          · refine ⟨am_u1_s, fun p p1 p2 => ?_⟩
            by_cases c : p = n
            · rw [c]
              refine ⟨?_, ?_, ?_⟩
              · rw [am_u3_c (by decide), am_u3_c (by decide), am_u3_s, zUp_s]
              · rw [am_u3_c (by decide), am_u3_s, zUp_s]
              · rw [am_u3_s, zUp_s]
            · obtain ⟨b1, b2, b3⟩ := m2 p p1 (by omega)
              refine ⟨?_, ?_, ?_⟩
              · rw [am_u3_c (by decide), am_u3_c (by decide), am_u3_j c, zUp_n c]
                exact b1
              · rw [am_u3_c (by decide), am_u3_j c, am_u3_c (by decide), zUp_n c]
                exact b2
              · rw [am_u3_j c, am_u3_c (by decide), am_u3_c (by decide), zUp_n c]
                exact b3
        · rw [if_neg cc]
          iterate 3 (refine am_go rfl (by first | exact True.intro | omega | exact ⟨by decide, Nat.le_of_ble_eq_true rfl, Nat.le_of_ble_eq_true rfl⟩ | exact ⟨by decide, Nat.le_of_ble_eq_true rfl⟩) ?_)
          refine am_if rfl (fun c3 => ?_) (fun c3 => absurd rfl c3)
          exact rest (-1) (fun u => cc u.2)
      · iterate 5 (refine am_go rfl (by first | exact True.intro | omega | exact ⟨by decide, Nat.le_of_ble_eq_true rfl, Nat.le_of_ble_eq_true rfl⟩ | exact ⟨by decide, Nat.le_of_ble_eq_true rfl⟩) ?_)
        refine am_if rfl (fun c3 => ?_) (fun c3 => absurd rfl c3)
        exact rest (-1) (fun u => u.1 (by omega))
  iterate 9 (refine am_go rfl (by first | exact True.intro | omega | exact ⟨by decide, Nat.le_of_ble_eq_true rfl, Nat.le_of_ble_eq_true rfl⟩ | exact ⟨by decide, Nat.le_of_ble_eq_true rfl⟩) ?_)
  exact loop len 0 0 _ _ _ _ 0 0 none none _ g (by omega) zWf_0 ⟨am_u1_s, fun p p1 p2 => by omega⟩ ⟨fun y j hy => am_u1_ne hy, fun _ _ _ => rfl⟩ rfl
end Rd

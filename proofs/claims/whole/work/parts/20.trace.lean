/-! what trace writes into the candidate -/
/-- before part k: the index into the table, the line, the place, how many parts are there -/
def zTr (g : Nat → Int → Int) (rk : Int) : Nat → Int × Int × Int × Int
  | 0 => (rk, 0, 0, 0)
  | k + 1 =>
    let i := (zTr g rk k).1
    let y := (zTr g rk k).2.1
    let z := if g 34 i = 4 then (zTr g rk k).2.2.1 else (zTr g rk k).2.2.1 + 1
    let n := if g 34 i = 4 then (zTr g rk k).2.2.2 else (zTr g rk k).2.2.2 + 1
    if g 5 k = 0 ∨ z ≤ 0 then (zSt (k + 1) y z * 2 + g 35 i, y, z, n) else (zSt (k + 1) (y + 1) 0 * 2 + g 35 i, y + 1, 0, n)
/-- a row is walked within the table, and what it takes is there -/
def zTok (f : Nat → Nat → Int) (g : Nat → Int → Int) (rk : Int) : Prop := ∀ k : Nat, (k : Int) < f 2 0 → (0 ≤ (zTr g rk k).1 ∧ (zTr g rk k).1 < 840) ∧ (0 ≤ (zTr g rk k).2.1 ∧ (zTr g rk k).2.1 ≤ 6) ∧ (0 ≤ (zTr g rk k).2.2.1 ∧ (zTr g rk k).2.2.1 ≤ 5) ∧
  (0 ≤ g 35 (zTr g rk k).1 ∧ g 35 (zTr g rk k).1 ≤ 1) ∧ (g 34 (zTr g rk k).1 ≠ 4 → ((0 ≤ (zTr g rk k).2.1 ∧ (zTr g rk k).2.1 < 6) ∧ 0 ≤ (zTr g rk k).2.2.1 ∧ (zTr g rk k).2.2.1 < 5) ∧ 0 ≤ g 34 (zTr g rk k).1 ∧ g 34 (zTr g rk k).1 < 4) ∧ ((zTr g rk k).2.1 = 6 → (zTr g rk k).2.2.1 = 0)
/-- the first n parts stand in the reading at the cell q (told by the heap g0) -/
def zRdN (g0 : Nat → Int → Int) (rk : Int) (f : Nat → Nat → Int) (g : Nat → Int → Int) (q : Nat) (n : Nat) : Prop :=
  f q 1 = g0 33 rk ∧ f q 2 = n ∧ f q 0 = (zTr g0 rk n).2.2.2 ∧ (∀ k : Nat, k < n → g (q + 1) k = g0 34 (zTr g0 rk k).1) ∧
  (∀ k : Nat, k < n → g0 34 (zTr g0 rk k).1 ≠ 4 → g (q + 2) ((zTr g0 rk k).2.2.2 * 5) = g0 3 k ∧ g (q + 2) ((zTr g0 rk k).2.2.2 * 5 + 1) = (zTr g0 rk k).2.1 ∧ g (q + 2) ((zTr g0 rk k).2.2.2 * 5 + 2) = (zTr g0 rk k).2.2.1 ∧ g (q + 2) ((zTr g0 rk k).2.2.2 * 5 + 3) = g0 16 (zAlt (zTr g0 rk k).2.1 (zTr g0 rk k).2.2.1 (g0 34 (zTr g0 rk k).1)) ∧ g (q + 2) ((zTr g0 rk k).2.2.2 * 5 + 4) = g0 34 (zTr g0 rk k).1)
/-- nothing has changed but one reading -/
def zFrR (q : Nat) (f g0f : Nat → Nat → Int) (g g0 : Nat → Int → Int) : Prop := (∀ x j, x ≠ q → f x j = g0f x j) ∧ ∀ x j, x ≠ q + 1 → x ≠ q + 2 → g x j = g0 x j
theorem zTr_n (g : Nat → Int → Int) (rk : Int) : ∀ k : Nat, 0 ≤ (zTr g rk k).2.2.2 ∧ (zTr g rk k).2.2.2 ≤ k := by
  intro k
  induction k with
  | zero => simp [zTr]
  | succ k ih =>
    simp only [zTr]
    split <;> split <;> simp only [] <;> omega
theorem zTr_mono (g : Nat → Int → Int) (rk : Int) : ∀ j k : Nat, j < k → g 34 (zTr g rk j).1 ≠ 4 → (zTr g rk j).2.2.2 < (zTr g rk k).2.2.2 := by
  intro j k
  induction k with
  | zero => intro h; omega
  | succ k ih =>
    intro h hj
    have e : (zTr g rk (k + 1)).2.2.2 = if g 34 (zTr g rk k).1 = 4 then (zTr g rk k).2.2.2 else (zTr g rk k).2.2.2 + 1 := by
      simp only [zTr]
      split <;> split <;> rfl
    rw [e]
    by_cases hk : j = k
    · subst hk
      rw [if_neg hj]
      omega
    · have := ih (by omega) hj
      split <;> omega
theorem zTr_y (g : Nat → Int → Int) (rk : Int) (k : Nat) : zTr g rk (k + 1) = if g 5 k = 0 ∨ (if g 34 (zTr g rk k).1 = 4 then (zTr g rk k).2.2.1 else (zTr g rk k).2.2.1 + 1) ≤ 0 then (zSt (k + 1) (zTr g rk k).2.1 (if g 34 (zTr g rk k).1 = 4 then (zTr g rk k).2.2.1 else (zTr g rk k).2.2.1 + 1) * 2 + g 35 (zTr g rk k).1, (zTr g rk k).2.1, (if g 34 (zTr g rk k).1 = 4 then (zTr g rk k).2.2.1 else (zTr g rk k).2.2.1 + 1), (if g 34 (zTr g rk k).1 = 4 then (zTr g rk k).2.2.2 else (zTr g rk k).2.2.2 + 1)) else (zSt (k + 1) ((zTr g rk k).2.1 + 1) 0 * 2 + g 35 (zTr g rk k).1, (zTr g rk k).2.1 + 1, 0, (if g 34 (zTr g rk k).1 = 4 then (zTr g rk k).2.2.2 else (zTr g rk k).2.2.2 + 1)) := rfl
theorem zTr_c (g : Nat → Int → Int) (rk : Int) (k : Nat) : (zTr g rk (k + 1)).2.2.2 = if g 34 (zTr g rk k).1 = 4 then (zTr g rk k).2.2.2 else (zTr g rk k).2.2.2 + 1 := by
  rw [zTr_y]
  split <;> split <;> rfl
theorem zRd_miss {g0 : Nat → Int → Int} {rk : Int} {f f' : Nat → Nat → Int} {g g' : Nat → Int → Int} {q n : Nat} (h : zRdN g0 rk f g q n) (hc : g0 34 (zTr g0 rk n).1 = 4)
    (h1 : f' q 1 = f q 1) (h2 : f' q 2 = f q 2 + 1) (h0 : f' q 0 = f q 0) (hg : ∀ j : Int, g' (q + 1) j = if j = f q 2 then 4 else g (q + 1) j) (hg2 : ∀ j, g' (q + 2) j = g (q + 2) j) : zRdN g0 rk f' g' q (n + 1) := by
  obtain ⟨a1, a2, a3, a4, a5⟩ := h
  refine ⟨by rw [h1, a1], by rw [h2, a2]; rfl, ?_, fun k hk => ?_, fun k hk hk4 => ?_⟩
  · rw [h0, a3, zTr_c, if_pos hc]
  · rw [hg, a2]
    by_cases e : k = n
    · subst e
      rw [if_pos rfl, hc]
    · rw [if_neg (by omega)]
      exact a4 k (by omega)
  · have e : k ≠ n := fun e => hk4 (by rw [e]; exact hc)
    simp only [hg2]
    exact a5 k (by omega) hk4
theorem zRd_take {g0 : Nat → Int → Int} {rk : Int} {f f' : Nat → Nat → Int} {g g' : Nat → Int → Int} {q n : Nat} (h : zRdN g0 rk f g q n) (hc : g0 34 (zTr g0 rk n).1 ≠ 4)
    (h1 : f' q 1 = f q 1) (h2 : f' q 2 = f q 2 + 1) (h0 : f' q 0 = f q 0 + 1) (hg : ∀ j : Int, g' (q + 1) j = if j = f q 2 then g0 34 (zTr g0 rk n).1 else g (q + 1) j)
    (hg2 : ∀ j : Int, j < f q 0 * 5 → g' (q + 2) j = g (q + 2) j) (w0 : g' (q + 2) (f q 0 * 5) = g0 3 n) (w1 : g' (q + 2) (f q 0 * 5 + 1) = (zTr g0 rk n).2.1) (w2 : g' (q + 2) (f q 0 * 5 + 2) = (zTr g0 rk n).2.2.1)
    (w3 : g' (q + 2) (f q 0 * 5 + 3) = g0 16 (zAlt (zTr g0 rk n).2.1 (zTr g0 rk n).2.2.1 (g0 34 (zTr g0 rk n).1))) (w4 : g' (q + 2) (f q 0 * 5 + 4) = g0 34 (zTr g0 rk n).1) : zRdN g0 rk f' g' q (n + 1) := by
  obtain ⟨a1, a2, a3, a4, a5⟩ := h
  refine ⟨by rw [h1, a1], by rw [h2, a2]; rfl, ?_, fun k hk => ?_, fun k hk hk4 => ?_⟩
  · rw [h0, a3, zTr_c, if_neg hc]
  · rw [hg, a2]
    by_cases e : k = n
    · subst e
      rw [if_pos rfl]
    · rw [if_neg (by omega)]
      exact a4 k (by omega)
  · by_cases e : k = n
    · subst e
      rw [← a3]
      exact ⟨w0, w1, w2, w3, w4⟩
    · have hm := zTr_mono g0 rk k n (by omega) hk4
      rw [hg2 _ (by omega), hg2 _ (by omega), hg2 _ (by omega), hg2 _ (by omega), hg2 _ (by omega)]
      exact a5 k (by omega) hk4
section Trc
variable {l : Launch} {dC : Nat → ClassId} {dI : Nat → Nat → Nat} {tc : Nat → ClassId} {f : Nat → Nat → Int} {g : Nat → Int → Int} {a b : Nat}
set_option maxRecDepth 100000 in
set_option maxHeartbeats 4000000 in
theorem ct_trace23 (rk : Int) (hI : zI f g) (hr : 0 ≤ rk ∧ rk < 2) (ht : zTok f g rk) : am_Ct l dC dI tc mm4_trace 2 58 [(.inr (.inr (some 22))), .inl rk] (58, f, g, pr_r a b 23) (fun r t => r = none ∧ ∃ f' g', t = (58, f', g', pr_r a b 23) ∧ zRdN g rk f' g' 23 (f 2 0).toNat ∧ zFrR 23 f' f g' g) := by
  have hI2 := hI
  obtain ⟨i1, i2, i3, i4, i5, i6, i7⟩ := hI2
  have loop : ∀ (n k : Nat) (F : Nat → Nat → Int) (G : Nat → Int → Int) (o6 o7 : Option Int), (k : Int) ≤ f 2 0 → (f 2 0).toNat - k = n → zRdN g rk F G 23 k → zFrR 23 F f G g → am_wp l dC dI tc mm4_trace 2 58 58 (fun r t => r = none ∧ ∃ f' g', t = (58, f', g', pr_r a b 23) ∧ zRdN g rk f' g' 23 (f 2 0).toNat ∧ zFrR 23 f' f g' g) 21 [some (.inr (.inr (some 22))), some (.inl rk), some (.inl ((zTr g rk k).1)), some (.inl ((zTr g rk k).2.1)), some (.inl ((zTr g rk k).2.2.1)), some (.inl ((k : Int))), o6.map Sum.inl, o7.map Sum.inl] [] (58, F, G, pr_r a b 23) := by
    intro n
    induction n with
    | zero =>
      intro k F G o6 o7 hk hn hR hF
      have e20 : F 2 0 = f 2 0 := hF.1 2 0 (by decide)
      iterate 4 (refine am_go rfl (by first | exact True.intro | omega | exact ⟨by decide, Nat.le_of_ble_eq_true rfl, Nat.le_of_ble_eq_true rfl⟩ | exact ⟨by decide, Nat.le_of_ble_eq_true rfl⟩) ?_)
      rw [e20]
      refine am_if rfl (fun c1 => ?_) (fun c1 => ?_)
      · have e : k = (f 2 0).toNat := by omega
        subst e
        exact am_vret (x := 0) rfl rfl rfl ⟨rfl, F, G, rfl, hR, hF⟩
      · omega
    | succ n ih =>
      intro k F G o6 o7 hk hn hR hF
      have hkl : (k : Int) < f 2 0 := by omega
      obtain ⟨t1, t2, t3, t4, t5, t6⟩ := ht k hkl
      have hf5 := (i2 k (by omega) hkl).2.2
      have e20 : F 2 0 = f 2 0 := hF.1 2 0 (by decide)
      have e34 : ∀ j, G 34 j = g 34 j := fun j => hF.2 34 j (by decide) (by decide)
      have e35 : ∀ j, G 35 j = g 35 j := fun j => hF.2 35 j (by decide) (by decide)
      have tail : ∀ (F' : Nat → Nat → Int) (G' : Nat → Int → Int) (z' : Int), zRdN g rk F' G' 23 (k + 1) → zFrR 23 F' f G' g → z' = (if g 34 (zTr g rk k).1 = 4 then (zTr g rk k).2.2.1 else (zTr g rk k).2.2.1 + 1) → am_wp l dC dI tc mm4_trace 2 58 58 (fun r t => r = none ∧ ∃ f' g', t = (58, f', g', pr_r a b 23) ∧ zRdN g rk f' g' 23 (f 2 0).toNat ∧ zFrR 23 f' f g' g) 66 [some (.inr (.inr (some 22))), some (.inl rk), some (.inl ((zTr g rk k).1)), some (.inl ((zTr g rk k).2.1)), some (.inl (z')), some (.inl ((k : Int))), some (.inl (g 34 (zTr g rk k).1)), some (.inl (g 35 (zTr g rk k).1))] [] (58, F', G', pr_r a b 23) := by
        intro F' G' z' hR' hF' hz'
        have hzr : 0 ≤ z' ∧ z' ≤ 6 := by rw [hz']; split <;> omega
        have e20' : F' 2 0 = f 2 0 := hF'.1 2 0 (by decide)
        have e5' : ∀ j, G' 5 j = g 5 j := fun j => hF'.2 5 j (by decide) (by decide)
        have fin : ∀ (y' z2 : Int), zTr g rk (k + 1) = (zSt (k + 1) y' z2 * 2 + g 35 (zTr g rk k).1, y', z2, (zTr g rk (k + 1)).2.2.2) → 0 ≤ y' ∧ y' ≤ 7 → 0 ≤ z2 ∧ z2 ≤ 6 → am_wp l dC dI tc mm4_trace 2 58 58 (fun r t => r = none ∧ ∃ f' g', t = (58, f', g', pr_r a b 23) ∧ zRdN g rk f' g' 23 (f 2 0).toNat ∧ zFrR 23 f' f g' g) 76 [some (.inr (.inr (some 22))), some (.inl rk), some (.inl ((zTr g rk k).1)), some (.inl (y')), some (.inl (z2)), some (.inl ((k : Int))), some (.inl (g 34 (zTr g rk k).1)), some (.inl (g 35 (zTr g rk k).1))] [] (58, F', G', pr_r a b 23) := by
          intro y' z2 e hy hz2
          iterate 5 (refine am_go rfl (by first | exact True.intro | omega | exact ⟨by decide, Nat.le_of_ble_eq_true rfl, Nat.le_of_ble_eq_true rfl⟩ | exact ⟨by decide, Nat.le_of_ble_eq_true rfl⟩) ?_)
          refine am_callv rfl (ct_stateOf _ _ _ (by omega) (by omega) (by omega)) (by decide) (Nat.le_of_ble_eq_true rfl) (Nat.le_of_ble_eq_true rfl) ?_
          iterate 7 (refine am_go rfl (by first | exact True.intro | omega | exact ⟨by decide, Nat.le_of_ble_eq_true rfl, Nat.le_of_ble_eq_true rfl⟩ | exact ⟨by decide, Nat.le_of_ble_eq_true rfl⟩) ?_)
          have h9 := ih (k + 1) F' G' (some (g 34 (zTr g rk k).1)) (some (g 35 (zTr g rk k).1)) (by omega) (by omega) hR' hF'
          rw [e] at h9
          exact h9
        iterate 3 (refine am_go rfl (by first | exact True.intro | omega | exact ⟨by decide, Nat.le_of_ble_eq_true rfl, Nat.le_of_ble_eq_true rfl⟩ | exact ⟨by decide, Nat.le_of_ble_eq_true rfl⟩) ?_)
        refine am_callv rfl (ct_endsRow _ (by omega) (by omega) (by rw [e5']; exact hf5)) (by decide) (Nat.le_of_ble_eq_true rfl) (Nat.le_of_ble_eq_true rfl) ?_
        rw [e5']
        refine am_if rfl (fun c1 => ?_) (fun c1 => ?_)
        · refine fin _ _ ?_ (by omega) (by omega)
          rw [zTr_y, if_pos (Or.inl c1), ← hz']
        · (refine am_go rfl (by first | exact True.intro | omega | exact ⟨by decide, Nat.le_of_ble_eq_true rfl, Nat.le_of_ble_eq_true rfl⟩ | exact ⟨by decide, Nat.le_of_ble_eq_true rfl⟩) ?_)
          refine am_if rfl (fun c2 => ?_) (fun c2 => ?_)
          · refine fin _ _ ?_ (by omega) (by omega)
            rw [zTr_y, if_pos (by rw [← hz']; exact Or.inr c2), ← hz']
          · iterate 3 (refine am_go rfl (by first | exact True.intro | omega | exact ⟨by decide, Nat.le_of_ble_eq_true rfl, Nat.le_of_ble_eq_true rfl⟩ | exact ⟨by decide, Nat.le_of_ble_eq_true rfl⟩) ?_)
            refine fin _ _ ?_ (by omega) (by omega)
            rw [zTr_y, if_neg (by rw [← hz']; exact fun u => u.elim c1 c2)]
      iterate 4 (refine am_go rfl (by first | exact True.intro | omega | exact ⟨by decide, Nat.le_of_ble_eq_true rfl, Nat.le_of_ble_eq_true rfl⟩ | exact ⟨by decide, Nat.le_of_ble_eq_true rfl⟩) ?_)
      rw [e20]
      refine am_if rfl (fun c1 => ?_) (fun c1 => ?_)
      · omega
      · (refine am_go rfl (by first | exact True.intro | omega | exact ⟨by decide, Nat.le_of_ble_eq_true rfl, Nat.le_of_ble_eq_true rfl⟩ | exact ⟨by decide, Nat.le_of_ble_eq_true rfl⟩) ?_)
        refine am_if rfl (fun c2 => ?_) (fun c2 => ?_)
        · omega
        · iterate 4 (refine am_go rfl (by first | exact True.intro | omega | exact ⟨by decide, Nat.le_of_ble_eq_true rfl, Nat.le_of_ble_eq_true rfl⟩ | exact ⟨by decide, Nat.le_of_ble_eq_true rfl⟩) ?_)
          refine am_if rfl (fun c3 => ?_) (fun c3 => ?_)
          · omega
          · iterate 4 (refine am_go rfl (by first | exact True.intro | omega | exact ⟨by decide, Nat.le_of_ble_eq_true rfl, Nat.le_of_ble_eq_true rfl⟩ | exact ⟨by decide, Nat.le_of_ble_eq_true rfl⟩) ?_)
            rw [e34]
            iterate 5 (refine am_go rfl (by first | exact True.intro | omega | exact ⟨by decide, Nat.le_of_ble_eq_true rfl, Nat.le_of_ble_eq_true rfl⟩ | exact ⟨by decide, Nat.le_of_ble_eq_true rfl⟩) ?_)
            rw [e35]
            iterate 4 (refine am_go rfl (by first | exact True.intro | omega | exact ⟨by decide, Nat.le_of_ble_eq_true rfl, Nat.le_of_ble_eq_true rfl⟩ | exact ⟨by decide, Nat.le_of_ble_eq_true rfl⟩) ?_)
            have hk2 : F 23 2 = k := hR.2.1
            have hk0 : F 23 0 = (zTr g rk k).2.2.2 := hR.2.2.1
            have hcn := zTr_n g rk k
            refine am_calln rfl (ct_choose 23 (by decide) (g 34 (zTr g rk k).1) (by omega)) (by decide) (Nat.le_of_ble_eq_true rfl) (Nat.le_of_ble_eq_true rfl) ?_
            iterate 2 (refine am_go rfl (by first | exact True.intro | omega | exact ⟨by decide, Nat.le_of_ble_eq_true rfl, Nat.le_of_ble_eq_true rfl⟩ | exact ⟨by decide, Nat.le_of_ble_eq_true rfl⟩) ?_)
            refine am_if rfl (fun c4 => ?_) (fun c4 => ?_)
            · refine tail _ _ _ (zRd_miss hR c4 (am_u1_j (by decide)) am_u1_s (am_u1_j (by decide)) (fun j => ?_) (fun j => am_u3_c (by decide))) ⟨fun x j hx => ?_, fun x j hx hx2 => ?_⟩ (by rw [if_pos c4])
              · rw [c4]
                by_cases u : j = F 23 2
                · rw [if_pos u, u, am_u3_s]
                · rw [if_neg u, am_u3_j u]
              · rw [am_u1_c hx]
                exact hF.1 x j hx
              · rw [am_u3_c hx]
                exact hF.2 x j hx hx2
            · obtain ⟨t7, t8⟩ := t5 c4
              iterate 5 (refine am_go rfl (by first | exact True.intro | omega | exact ⟨by decide, Nat.le_of_ble_eq_true rfl, Nat.le_of_ble_eq_true rfl⟩ | exact ⟨by decide, Nat.le_of_ble_eq_true rfl⟩) ?_)
              refine am_callv rfl (ct_fk _ (by rw [am_u1_c (by decide), e20]; omega) (by rw [am_u1_c (by decide), e20]; omega)) (by decide) (Nat.le_of_ble_eq_true rfl) (Nat.le_of_ble_eq_true rfl) ?_
              rw [am_u3_c (by decide), hF.2 3 _ (by decide) (by decide)]
              iterate 7 (refine am_go rfl (by first | exact True.intro | omega | exact ⟨by decide, Nat.le_of_ble_eq_true rfl, Nat.le_of_ble_eq_true rfl⟩ | exact ⟨by decide, Nat.le_of_ble_eq_true rfl⟩) ?_)
              refine am_callv rfl (ct_lv _ _ _ ⟨t7, t8⟩) (by decide) (Nat.le_of_ble_eq_true rfl) (Nat.le_of_ble_eq_true rfl) ?_
              rw [am_u3_c (by decide), hF.2 16 _ (by decide) (by decide)]
              have u0 : am_u1 F 23 2 (F 23 2 + 1) 23 0 = F 23 0 := am_u1_j (by decide)
              have u2 : am_u1 F 23 2 (F 23 2 + 1) 23 2 = F 23 2 + 1 := am_u1_s
              refine am_calln rfl (ct_addPart 23 (by decide) _ _ _ _ (by rw [u0]; omega) (by rw [u2]; omega)) (by decide) (Nat.le_of_ble_eq_true rfl) (Nat.le_of_ble_eq_true rfl) ?_
              rw [u0, u2]
              (refine am_go rfl (by first | exact True.intro | omega | exact ⟨by decide, Nat.le_of_ble_eq_true rfl, Nat.le_of_ble_eq_true rfl⟩ | exact ⟨by decide, Nat.le_of_ble_eq_true rfl⟩) ?_)
              have u3 : am_u3 G (23 + 1) (F 23 2) (g 34 (zTr g rk k).1) (23 + 1) (F 23 2 + 1 - 1) = g 34 (zTr g rk k).1 := by
                rw [show F 23 2 + 1 - 1 = F 23 2 by omega, am_u3_s]
              rw [u3]
              refine tail _ _ _ (zRd_take hR c4 ?_ ?_ ?_ (fun j => ?_) (fun j hj => ?_) ?_ ?_ ?_ ?_ ?_) ⟨fun x j hx => ?_, fun x j hx hx2 => ?_⟩ (by rw [if_neg c4])
              · rw [am_u1_j (by decide), am_u1_j (by decide)]
              · rw [am_u1_j (by decide), am_u1_s]
              · rw [am_u1_s]
              · rw [am_u3_c (by decide), am_u3_c (by decide), am_u3_c (by decide), am_u3_c (by decide), am_u3_c (by decide)]
                by_cases u : j = F 23 2
                · rw [if_pos u, u, am_u3_s]
                · rw [if_neg u, am_u3_j u]
              · rw [am_u3_j (by omega), am_u3_j (by omega), am_u3_j (by omega), am_u3_j (by omega), am_u3_j (by omega), am_u3_c (by decide)]
              · rw [am_u3_j (by omega), am_u3_j (by omega), am_u3_j (by omega), am_u3_j (by omega), am_u3_s]
              · rw [am_u3_j (by omega), am_u3_j (by omega), am_u3_j (by omega), am_u3_s]
              · rw [am_u3_j (by omega), am_u3_j (by omega), am_u3_s]
              · rw [am_u3_j (by omega), am_u3_s]
              · rw [am_u3_s]
              · rw [am_u1_c hx, am_u1_c hx]
                exact hF.1 x j hx
              · rw [am_u3_c hx2, am_u3_c hx2, am_u3_c hx2, am_u3_c hx2, am_u3_c hx2, am_u3_c hx]
                exact hF.2 x j hx hx2
  refine am_enter ok_4_trace rfl (by decide) (Nat.le_of_ble_eq_true rfl) rfl ?_
  (refine am_go rfl (by first | exact True.intro | omega | exact ⟨by decide, Nat.le_of_ble_eq_true rfl, Nat.le_of_ble_eq_true rfl⟩ | exact ⟨by decide, Nat.le_of_ble_eq_true rfl⟩) ?_)
  refine am_if rfl (fun c1 => ?_) (fun c1 => ?_)
  · omega
  · iterate 2 (refine am_go rfl (by first | exact True.intro | omega | exact ⟨by decide, Nat.le_of_ble_eq_true rfl, Nat.le_of_ble_eq_true rfl⟩ | exact ⟨by decide, Nat.le_of_ble_eq_true rfl⟩) ?_)
    refine am_if rfl (fun c2 => ?_) (fun c2 => ?_)
    · iterate 6 (refine am_go rfl (by first | exact True.intro | omega | exact ⟨by decide, Nat.le_of_ble_eq_true rfl, Nat.le_of_ble_eq_true rfl⟩ | exact ⟨by decide, Nat.le_of_ble_eq_true rfl⟩) ?_)
      refine am_calln rfl (ct_begin 23 (by decide) _) (by decide) (Nat.le_of_ble_eq_true rfl) (Nat.le_of_ble_eq_true rfl) ?_
      iterate 8 (refine am_go rfl (by first | exact True.intro | omega | exact ⟨by decide, Nat.le_of_ble_eq_true rfl, Nat.le_of_ble_eq_true rfl⟩ | exact ⟨by decide, Nat.le_of_ble_eq_true rfl⟩) ?_)
      refine loop _ 0 _ _ none none (by omega) rfl ⟨?_, ?_, ?_, fun k hk => by omega, fun k hk => by omega⟩ ⟨fun x j hx => ?_, fun x j hx hx2 => rfl⟩
      · rw [am_u1_j (by decide), am_u1_s]
      · rw [am_u1_s]; rfl
      · rw [am_u1_j (by decide), am_u1_j (by decide), am_u1_s]; rfl
      · rw [am_u1_c hx, am_u1_c hx, am_u1_c hx]
    · omega
set_option maxRecDepth 100000 in
set_option maxHeartbeats 4000000 in
theorem ct_trace26 (rk : Int) (hI : zI f g) (hr : 0 ≤ rk ∧ rk < 2) (ht : zTok f g rk) : am_Ct l dC dI tc mm4_trace 2 58 [(.inr (.inr (some 22))), .inl rk] (58, f, g, pr_r a b 26) (fun r t => r = none ∧ ∃ f' g', t = (58, f', g', pr_r a b 26) ∧ zRdN g rk f' g' 26 (f 2 0).toNat ∧ zFrR 26 f' f g' g) := by
  have hI2 := hI
  obtain ⟨i1, i2, i3, i4, i5, i6, i7⟩ := hI2
  have loop : ∀ (n k : Nat) (F : Nat → Nat → Int) (G : Nat → Int → Int) (o6 o7 : Option Int), (k : Int) ≤ f 2 0 → (f 2 0).toNat - k = n → zRdN g rk F G 26 k → zFrR 26 F f G g → am_wp l dC dI tc mm4_trace 2 58 58 (fun r t => r = none ∧ ∃ f' g', t = (58, f', g', pr_r a b 26) ∧ zRdN g rk f' g' 26 (f 2 0).toNat ∧ zFrR 26 f' f g' g) 21 [some (.inr (.inr (some 22))), some (.inl rk), some (.inl ((zTr g rk k).1)), some (.inl ((zTr g rk k).2.1)), some (.inl ((zTr g rk k).2.2.1)), some (.inl ((k : Int))), o6.map Sum.inl, o7.map Sum.inl] [] (58, F, G, pr_r a b 26) := by
    intro n
    induction n with
    | zero =>
      intro k F G o6 o7 hk hn hR hF
      have e20 : F 2 0 = f 2 0 := hF.1 2 0 (by decide)
      iterate 4 (refine am_go rfl (by first | exact True.intro | omega | exact ⟨by decide, Nat.le_of_ble_eq_true rfl, Nat.le_of_ble_eq_true rfl⟩ | exact ⟨by decide, Nat.le_of_ble_eq_true rfl⟩) ?_)
      rw [e20]
      refine am_if rfl (fun c1 => ?_) (fun c1 => ?_)
      · have e : k = (f 2 0).toNat := by omega
        subst e
        exact am_vret (x := 0) rfl rfl rfl ⟨rfl, F, G, rfl, hR, hF⟩
      · omega
    | succ n ih =>
      intro k F G o6 o7 hk hn hR hF
      have hkl : (k : Int) < f 2 0 := by omega
      obtain ⟨t1, t2, t3, t4, t5, t6⟩ := ht k hkl
      have hf5 := (i2 k (by omega) hkl).2.2
      have e20 : F 2 0 = f 2 0 := hF.1 2 0 (by decide)
      have e34 : ∀ j, G 34 j = g 34 j := fun j => hF.2 34 j (by decide) (by decide)
      have e35 : ∀ j, G 35 j = g 35 j := fun j => hF.2 35 j (by decide) (by decide)
      have tail : ∀ (F' : Nat → Nat → Int) (G' : Nat → Int → Int) (z' : Int), zRdN g rk F' G' 26 (k + 1) → zFrR 26 F' f G' g → z' = (if g 34 (zTr g rk k).1 = 4 then (zTr g rk k).2.2.1 else (zTr g rk k).2.2.1 + 1) → am_wp l dC dI tc mm4_trace 2 58 58 (fun r t => r = none ∧ ∃ f' g', t = (58, f', g', pr_r a b 26) ∧ zRdN g rk f' g' 26 (f 2 0).toNat ∧ zFrR 26 f' f g' g) 66 [some (.inr (.inr (some 22))), some (.inl rk), some (.inl ((zTr g rk k).1)), some (.inl ((zTr g rk k).2.1)), some (.inl (z')), some (.inl ((k : Int))), some (.inl (g 34 (zTr g rk k).1)), some (.inl (g 35 (zTr g rk k).1))] [] (58, F', G', pr_r a b 26) := by
        intro F' G' z' hR' hF' hz'
        have hzr : 0 ≤ z' ∧ z' ≤ 6 := by rw [hz']; split <;> omega
        have e20' : F' 2 0 = f 2 0 := hF'.1 2 0 (by decide)
        have e5' : ∀ j, G' 5 j = g 5 j := fun j => hF'.2 5 j (by decide) (by decide)
        have fin : ∀ (y' z2 : Int), zTr g rk (k + 1) = (zSt (k + 1) y' z2 * 2 + g 35 (zTr g rk k).1, y', z2, (zTr g rk (k + 1)).2.2.2) → 0 ≤ y' ∧ y' ≤ 7 → 0 ≤ z2 ∧ z2 ≤ 6 → am_wp l dC dI tc mm4_trace 2 58 58 (fun r t => r = none ∧ ∃ f' g', t = (58, f', g', pr_r a b 26) ∧ zRdN g rk f' g' 26 (f 2 0).toNat ∧ zFrR 26 f' f g' g) 76 [some (.inr (.inr (some 22))), some (.inl rk), some (.inl ((zTr g rk k).1)), some (.inl (y')), some (.inl (z2)), some (.inl ((k : Int))), some (.inl (g 34 (zTr g rk k).1)), some (.inl (g 35 (zTr g rk k).1))] [] (58, F', G', pr_r a b 26) := by
          intro y' z2 e hy hz2
          iterate 5 (refine am_go rfl (by first | exact True.intro | omega | exact ⟨by decide, Nat.le_of_ble_eq_true rfl, Nat.le_of_ble_eq_true rfl⟩ | exact ⟨by decide, Nat.le_of_ble_eq_true rfl⟩) ?_)
          refine am_callv rfl (ct_stateOf _ _ _ (by omega) (by omega) (by omega)) (by decide) (Nat.le_of_ble_eq_true rfl) (Nat.le_of_ble_eq_true rfl) ?_
          iterate 7 (refine am_go rfl (by first | exact True.intro | omega | exact ⟨by decide, Nat.le_of_ble_eq_true rfl, Nat.le_of_ble_eq_true rfl⟩ | exact ⟨by decide, Nat.le_of_ble_eq_true rfl⟩) ?_)
          have h9 := ih (k + 1) F' G' (some (g 34 (zTr g rk k).1)) (some (g 35 (zTr g rk k).1)) (by omega) (by omega) hR' hF'
          rw [e] at h9
          exact h9
        iterate 3 (refine am_go rfl (by first | exact True.intro | omega | exact ⟨by decide, Nat.le_of_ble_eq_true rfl, Nat.le_of_ble_eq_true rfl⟩ | exact ⟨by decide, Nat.le_of_ble_eq_true rfl⟩) ?_)
        refine am_callv rfl (ct_endsRow _ (by omega) (by omega) (by rw [e5']; exact hf5)) (by decide) (Nat.le_of_ble_eq_true rfl) (Nat.le_of_ble_eq_true rfl) ?_
        rw [e5']
        refine am_if rfl (fun c1 => ?_) (fun c1 => ?_)
        · refine fin _ _ ?_ (by omega) (by omega)
          rw [zTr_y, if_pos (Or.inl c1), ← hz']
        · (refine am_go rfl (by first | exact True.intro | omega | exact ⟨by decide, Nat.le_of_ble_eq_true rfl, Nat.le_of_ble_eq_true rfl⟩ | exact ⟨by decide, Nat.le_of_ble_eq_true rfl⟩) ?_)
          refine am_if rfl (fun c2 => ?_) (fun c2 => ?_)
          · refine fin _ _ ?_ (by omega) (by omega)
            rw [zTr_y, if_pos (by rw [← hz']; exact Or.inr c2), ← hz']
          · iterate 3 (refine am_go rfl (by first | exact True.intro | omega | exact ⟨by decide, Nat.le_of_ble_eq_true rfl, Nat.le_of_ble_eq_true rfl⟩ | exact ⟨by decide, Nat.le_of_ble_eq_true rfl⟩) ?_)
            refine fin _ _ ?_ (by omega) (by omega)
            rw [zTr_y, if_neg (by rw [← hz']; exact fun u => u.elim c1 c2)]
      iterate 4 (refine am_go rfl (by first | exact True.intro | omega | exact ⟨by decide, Nat.le_of_ble_eq_true rfl, Nat.le_of_ble_eq_true rfl⟩ | exact ⟨by decide, Nat.le_of_ble_eq_true rfl⟩) ?_)
      rw [e20]
      refine am_if rfl (fun c1 => ?_) (fun c1 => ?_)
      · omega
      · (refine am_go rfl (by first | exact True.intro | omega | exact ⟨by decide, Nat.le_of_ble_eq_true rfl, Nat.le_of_ble_eq_true rfl⟩ | exact ⟨by decide, Nat.le_of_ble_eq_true rfl⟩) ?_)
        refine am_if rfl (fun c2 => ?_) (fun c2 => ?_)
        · omega
        · iterate 4 (refine am_go rfl (by first | exact True.intro | omega | exact ⟨by decide, Nat.le_of_ble_eq_true rfl, Nat.le_of_ble_eq_true rfl⟩ | exact ⟨by decide, Nat.le_of_ble_eq_true rfl⟩) ?_)
          refine am_if rfl (fun c3 => ?_) (fun c3 => ?_)
          · omega
          · iterate 4 (refine am_go rfl (by first | exact True.intro | omega | exact ⟨by decide, Nat.le_of_ble_eq_true rfl, Nat.le_of_ble_eq_true rfl⟩ | exact ⟨by decide, Nat.le_of_ble_eq_true rfl⟩) ?_)
            rw [e34]
            iterate 5 (refine am_go rfl (by first | exact True.intro | omega | exact ⟨by decide, Nat.le_of_ble_eq_true rfl, Nat.le_of_ble_eq_true rfl⟩ | exact ⟨by decide, Nat.le_of_ble_eq_true rfl⟩) ?_)
            rw [e35]
            iterate 4 (refine am_go rfl (by first | exact True.intro | omega | exact ⟨by decide, Nat.le_of_ble_eq_true rfl, Nat.le_of_ble_eq_true rfl⟩ | exact ⟨by decide, Nat.le_of_ble_eq_true rfl⟩) ?_)
            have hk2 : F 26 2 = k := hR.2.1
            have hk0 : F 26 0 = (zTr g rk k).2.2.2 := hR.2.2.1
            have hcn := zTr_n g rk k
            refine am_calln rfl (ct_choose 26 (by decide) (g 34 (zTr g rk k).1) (by omega)) (by decide) (Nat.le_of_ble_eq_true rfl) (Nat.le_of_ble_eq_true rfl) ?_
            iterate 2 (refine am_go rfl (by first | exact True.intro | omega | exact ⟨by decide, Nat.le_of_ble_eq_true rfl, Nat.le_of_ble_eq_true rfl⟩ | exact ⟨by decide, Nat.le_of_ble_eq_true rfl⟩) ?_)
            refine am_if rfl (fun c4 => ?_) (fun c4 => ?_)
            · refine tail _ _ _ (zRd_miss hR c4 (am_u1_j (by decide)) am_u1_s (am_u1_j (by decide)) (fun j => ?_) (fun j => am_u3_c (by decide))) ⟨fun x j hx => ?_, fun x j hx hx2 => ?_⟩ (by rw [if_pos c4])
              · rw [c4]
                by_cases u : j = F 26 2
                · rw [if_pos u, u, am_u3_s]
                · rw [if_neg u, am_u3_j u]
              · rw [am_u1_c hx]
                exact hF.1 x j hx
              · rw [am_u3_c hx]
                exact hF.2 x j hx hx2
            · obtain ⟨t7, t8⟩ := t5 c4
              iterate 5 (refine am_go rfl (by first | exact True.intro | omega | exact ⟨by decide, Nat.le_of_ble_eq_true rfl, Nat.le_of_ble_eq_true rfl⟩ | exact ⟨by decide, Nat.le_of_ble_eq_true rfl⟩) ?_)
              refine am_callv rfl (ct_fk _ (by rw [am_u1_c (by decide), e20]; omega) (by rw [am_u1_c (by decide), e20]; omega)) (by decide) (Nat.le_of_ble_eq_true rfl) (Nat.le_of_ble_eq_true rfl) ?_
              rw [am_u3_c (by decide), hF.2 3 _ (by decide) (by decide)]
              iterate 7 (refine am_go rfl (by first | exact True.intro | omega | exact ⟨by decide, Nat.le_of_ble_eq_true rfl, Nat.le_of_ble_eq_true rfl⟩ | exact ⟨by decide, Nat.le_of_ble_eq_true rfl⟩) ?_)
              refine am_callv rfl (ct_lv _ _ _ ⟨t7, t8⟩) (by decide) (Nat.le_of_ble_eq_true rfl) (Nat.le_of_ble_eq_true rfl) ?_
              rw [am_u3_c (by decide), hF.2 16 _ (by decide) (by decide)]
              have u0 : am_u1 F 26 2 (F 26 2 + 1) 26 0 = F 26 0 := am_u1_j (by decide)
              have u2 : am_u1 F 26 2 (F 26 2 + 1) 26 2 = F 26 2 + 1 := am_u1_s
              refine am_calln rfl (ct_addPart 26 (by decide) _ _ _ _ (by rw [u0]; omega) (by rw [u2]; omega)) (by decide) (Nat.le_of_ble_eq_true rfl) (Nat.le_of_ble_eq_true rfl) ?_
              rw [u0, u2]
              (refine am_go rfl (by first | exact True.intro | omega | exact ⟨by decide, Nat.le_of_ble_eq_true rfl, Nat.le_of_ble_eq_true rfl⟩ | exact ⟨by decide, Nat.le_of_ble_eq_true rfl⟩) ?_)
              have u3 : am_u3 G (26 + 1) (F 26 2) (g 34 (zTr g rk k).1) (26 + 1) (F 26 2 + 1 - 1) = g 34 (zTr g rk k).1 := by
                rw [show F 26 2 + 1 - 1 = F 26 2 by omega, am_u3_s]
              rw [u3]
              refine tail _ _ _ (zRd_take hR c4 ?_ ?_ ?_ (fun j => ?_) (fun j hj => ?_) ?_ ?_ ?_ ?_ ?_) ⟨fun x j hx => ?_, fun x j hx hx2 => ?_⟩ (by rw [if_neg c4])
              · rw [am_u1_j (by decide), am_u1_j (by decide)]
              · rw [am_u1_j (by decide), am_u1_s]
              · rw [am_u1_s]
              · rw [am_u3_c (by decide), am_u3_c (by decide), am_u3_c (by decide), am_u3_c (by decide), am_u3_c (by decide)]
                by_cases u : j = F 26 2
                · rw [if_pos u, u, am_u3_s]
                · rw [if_neg u, am_u3_j u]
              · rw [am_u3_j (by omega), am_u3_j (by omega), am_u3_j (by omega), am_u3_j (by omega), am_u3_j (by omega), am_u3_c (by decide)]
              · rw [am_u3_j (by omega), am_u3_j (by omega), am_u3_j (by omega), am_u3_j (by omega), am_u3_s]
              · rw [am_u3_j (by omega), am_u3_j (by omega), am_u3_j (by omega), am_u3_s]
              · rw [am_u3_j (by omega), am_u3_j (by omega), am_u3_s]
              · rw [am_u3_j (by omega), am_u3_s]
              · rw [am_u3_s]
              · rw [am_u1_c hx, am_u1_c hx]
                exact hF.1 x j hx
              · rw [am_u3_c hx2, am_u3_c hx2, am_u3_c hx2, am_u3_c hx2, am_u3_c hx2, am_u3_c hx]
                exact hF.2 x j hx hx2
  refine am_enter ok_4_trace rfl (by decide) (Nat.le_of_ble_eq_true rfl) rfl ?_
  (refine am_go rfl (by first | exact True.intro | omega | exact ⟨by decide, Nat.le_of_ble_eq_true rfl, Nat.le_of_ble_eq_true rfl⟩ | exact ⟨by decide, Nat.le_of_ble_eq_true rfl⟩) ?_)
  refine am_if rfl (fun c1 => ?_) (fun c1 => ?_)
  · omega
  · iterate 2 (refine am_go rfl (by first | exact True.intro | omega | exact ⟨by decide, Nat.le_of_ble_eq_true rfl, Nat.le_of_ble_eq_true rfl⟩ | exact ⟨by decide, Nat.le_of_ble_eq_true rfl⟩) ?_)
    refine am_if rfl (fun c2 => ?_) (fun c2 => ?_)
    · iterate 6 (refine am_go rfl (by first | exact True.intro | omega | exact ⟨by decide, Nat.le_of_ble_eq_true rfl, Nat.le_of_ble_eq_true rfl⟩ | exact ⟨by decide, Nat.le_of_ble_eq_true rfl⟩) ?_)
      refine am_calln rfl (ct_begin 26 (by decide) _) (by decide) (Nat.le_of_ble_eq_true rfl) (Nat.le_of_ble_eq_true rfl) ?_
      iterate 8 (refine am_go rfl (by first | exact True.intro | omega | exact ⟨by decide, Nat.le_of_ble_eq_true rfl, Nat.le_of_ble_eq_true rfl⟩ | exact ⟨by decide, Nat.le_of_ble_eq_true rfl⟩) ?_)
      refine loop _ 0 _ _ none none (by omega) rfl ⟨?_, ?_, ?_, fun k hk => by omega, fun k hk => by omega⟩ ⟨fun x j hx => ?_, fun x j hx hx2 => rfl⟩
      · rw [am_u1_j (by decide), am_u1_s]
      · rw [am_u1_s]; rfl
      · rw [am_u1_j (by decide), am_u1_j (by decide), am_u1_s]; rfl
      · rw [am_u1_c hx, am_u1_c hx, am_u1_c hx]
    · omega
set_option maxRecDepth 100000 in
set_option maxHeartbeats 4000000 in
theorem ct_trace29 (rk : Int) (hI : zI f g) (hr : 0 ≤ rk ∧ rk < 2) (ht : zTok f g rk) : am_Ct l dC dI tc mm4_trace 2 58 [(.inr (.inr (some 22))), .inl rk] (58, f, g, pr_r a b 29) (fun r t => r = none ∧ ∃ f' g', t = (58, f', g', pr_r a b 29) ∧ zRdN g rk f' g' 29 (f 2 0).toNat ∧ zFrR 29 f' f g' g) := by
  have hI2 := hI
  obtain ⟨i1, i2, i3, i4, i5, i6, i7⟩ := hI2
  have loop : ∀ (n k : Nat) (F : Nat → Nat → Int) (G : Nat → Int → Int) (o6 o7 : Option Int), (k : Int) ≤ f 2 0 → (f 2 0).toNat - k = n → zRdN g rk F G 29 k → zFrR 29 F f G g → am_wp l dC dI tc mm4_trace 2 58 58 (fun r t => r = none ∧ ∃ f' g', t = (58, f', g', pr_r a b 29) ∧ zRdN g rk f' g' 29 (f 2 0).toNat ∧ zFrR 29 f' f g' g) 21 [some (.inr (.inr (some 22))), some (.inl rk), some (.inl ((zTr g rk k).1)), some (.inl ((zTr g rk k).2.1)), some (.inl ((zTr g rk k).2.2.1)), some (.inl ((k : Int))), o6.map Sum.inl, o7.map Sum.inl] [] (58, F, G, pr_r a b 29) := by
    intro n
    induction n with
    | zero =>
      intro k F G o6 o7 hk hn hR hF
      have e20 : F 2 0 = f 2 0 := hF.1 2 0 (by decide)
      iterate 4 (refine am_go rfl (by first | exact True.intro | omega | exact ⟨by decide, Nat.le_of_ble_eq_true rfl, Nat.le_of_ble_eq_true rfl⟩ | exact ⟨by decide, Nat.le_of_ble_eq_true rfl⟩) ?_)
      rw [e20]
      refine am_if rfl (fun c1 => ?_) (fun c1 => ?_)
      · have e : k = (f 2 0).toNat := by omega
        subst e
        exact am_vret (x := 0) rfl rfl rfl ⟨rfl, F, G, rfl, hR, hF⟩
      · omega
    | succ n ih =>
      intro k F G o6 o7 hk hn hR hF
      have hkl : (k : Int) < f 2 0 := by omega
      obtain ⟨t1, t2, t3, t4, t5, t6⟩ := ht k hkl
      have hf5 := (i2 k (by omega) hkl).2.2
      have e20 : F 2 0 = f 2 0 := hF.1 2 0 (by decide)
      have e34 : ∀ j, G 34 j = g 34 j := fun j => hF.2 34 j (by decide) (by decide)
      have e35 : ∀ j, G 35 j = g 35 j := fun j => hF.2 35 j (by decide) (by decide)
      have tail : ∀ (F' : Nat → Nat → Int) (G' : Nat → Int → Int) (z' : Int), zRdN g rk F' G' 29 (k + 1) → zFrR 29 F' f G' g → z' = (if g 34 (zTr g rk k).1 = 4 then (zTr g rk k).2.2.1 else (zTr g rk k).2.2.1 + 1) → am_wp l dC dI tc mm4_trace 2 58 58 (fun r t => r = none ∧ ∃ f' g', t = (58, f', g', pr_r a b 29) ∧ zRdN g rk f' g' 29 (f 2 0).toNat ∧ zFrR 29 f' f g' g) 66 [some (.inr (.inr (some 22))), some (.inl rk), some (.inl ((zTr g rk k).1)), some (.inl ((zTr g rk k).2.1)), some (.inl (z')), some (.inl ((k : Int))), some (.inl (g 34 (zTr g rk k).1)), some (.inl (g 35 (zTr g rk k).1))] [] (58, F', G', pr_r a b 29) := by
        intro F' G' z' hR' hF' hz'
        have hzr : 0 ≤ z' ∧ z' ≤ 6 := by rw [hz']; split <;> omega
        have e20' : F' 2 0 = f 2 0 := hF'.1 2 0 (by decide)
        have e5' : ∀ j, G' 5 j = g 5 j := fun j => hF'.2 5 j (by decide) (by decide)
        have fin : ∀ (y' z2 : Int), zTr g rk (k + 1) = (zSt (k + 1) y' z2 * 2 + g 35 (zTr g rk k).1, y', z2, (zTr g rk (k + 1)).2.2.2) → 0 ≤ y' ∧ y' ≤ 7 → 0 ≤ z2 ∧ z2 ≤ 6 → am_wp l dC dI tc mm4_trace 2 58 58 (fun r t => r = none ∧ ∃ f' g', t = (58, f', g', pr_r a b 29) ∧ zRdN g rk f' g' 29 (f 2 0).toNat ∧ zFrR 29 f' f g' g) 76 [some (.inr (.inr (some 22))), some (.inl rk), some (.inl ((zTr g rk k).1)), some (.inl (y')), some (.inl (z2)), some (.inl ((k : Int))), some (.inl (g 34 (zTr g rk k).1)), some (.inl (g 35 (zTr g rk k).1))] [] (58, F', G', pr_r a b 29) := by
          intro y' z2 e hy hz2
          iterate 5 (refine am_go rfl (by first | exact True.intro | omega | exact ⟨by decide, Nat.le_of_ble_eq_true rfl, Nat.le_of_ble_eq_true rfl⟩ | exact ⟨by decide, Nat.le_of_ble_eq_true rfl⟩) ?_)
          refine am_callv rfl (ct_stateOf _ _ _ (by omega) (by omega) (by omega)) (by decide) (Nat.le_of_ble_eq_true rfl) (Nat.le_of_ble_eq_true rfl) ?_
          iterate 7 (refine am_go rfl (by first | exact True.intro | omega | exact ⟨by decide, Nat.le_of_ble_eq_true rfl, Nat.le_of_ble_eq_true rfl⟩ | exact ⟨by decide, Nat.le_of_ble_eq_true rfl⟩) ?_)
          have h9 := ih (k + 1) F' G' (some (g 34 (zTr g rk k).1)) (some (g 35 (zTr g rk k).1)) (by omega) (by omega) hR' hF'
          rw [e] at h9
          exact h9
        iterate 3 (refine am_go rfl (by first | exact True.intro | omega | exact ⟨by decide, Nat.le_of_ble_eq_true rfl, Nat.le_of_ble_eq_true rfl⟩ | exact ⟨by decide, Nat.le_of_ble_eq_true rfl⟩) ?_)
        refine am_callv rfl (ct_endsRow _ (by omega) (by omega) (by rw [e5']; exact hf5)) (by decide) (Nat.le_of_ble_eq_true rfl) (Nat.le_of_ble_eq_true rfl) ?_
        rw [e5']
        refine am_if rfl (fun c1 => ?_) (fun c1 => ?_)
        · refine fin _ _ ?_ (by omega) (by omega)
          rw [zTr_y, if_pos (Or.inl c1), ← hz']
        · (refine am_go rfl (by first | exact True.intro | omega | exact ⟨by decide, Nat.le_of_ble_eq_true rfl, Nat.le_of_ble_eq_true rfl⟩ | exact ⟨by decide, Nat.le_of_ble_eq_true rfl⟩) ?_)
          refine am_if rfl (fun c2 => ?_) (fun c2 => ?_)
          · refine fin _ _ ?_ (by omega) (by omega)
            rw [zTr_y, if_pos (by rw [← hz']; exact Or.inr c2), ← hz']
          · iterate 3 (refine am_go rfl (by first | exact True.intro | omega | exact ⟨by decide, Nat.le_of_ble_eq_true rfl, Nat.le_of_ble_eq_true rfl⟩ | exact ⟨by decide, Nat.le_of_ble_eq_true rfl⟩) ?_)
            refine fin _ _ ?_ (by omega) (by omega)
            rw [zTr_y, if_neg (by rw [← hz']; exact fun u => u.elim c1 c2)]
      iterate 4 (refine am_go rfl (by first | exact True.intro | omega | exact ⟨by decide, Nat.le_of_ble_eq_true rfl, Nat.le_of_ble_eq_true rfl⟩ | exact ⟨by decide, Nat.le_of_ble_eq_true rfl⟩) ?_)
      rw [e20]
      refine am_if rfl (fun c1 => ?_) (fun c1 => ?_)
      · omega
      · (refine am_go rfl (by first | exact True.intro | omega | exact ⟨by decide, Nat.le_of_ble_eq_true rfl, Nat.le_of_ble_eq_true rfl⟩ | exact ⟨by decide, Nat.le_of_ble_eq_true rfl⟩) ?_)
        refine am_if rfl (fun c2 => ?_) (fun c2 => ?_)
        · omega
        · iterate 4 (refine am_go rfl (by first | exact True.intro | omega | exact ⟨by decide, Nat.le_of_ble_eq_true rfl, Nat.le_of_ble_eq_true rfl⟩ | exact ⟨by decide, Nat.le_of_ble_eq_true rfl⟩) ?_)
          refine am_if rfl (fun c3 => ?_) (fun c3 => ?_)
          · omega
          · iterate 4 (refine am_go rfl (by first | exact True.intro | omega | exact ⟨by decide, Nat.le_of_ble_eq_true rfl, Nat.le_of_ble_eq_true rfl⟩ | exact ⟨by decide, Nat.le_of_ble_eq_true rfl⟩) ?_)
            rw [e34]
            iterate 5 (refine am_go rfl (by first | exact True.intro | omega | exact ⟨by decide, Nat.le_of_ble_eq_true rfl, Nat.le_of_ble_eq_true rfl⟩ | exact ⟨by decide, Nat.le_of_ble_eq_true rfl⟩) ?_)
            rw [e35]
            iterate 4 (refine am_go rfl (by first | exact True.intro | omega | exact ⟨by decide, Nat.le_of_ble_eq_true rfl, Nat.le_of_ble_eq_true rfl⟩ | exact ⟨by decide, Nat.le_of_ble_eq_true rfl⟩) ?_)
            have hk2 : F 29 2 = k := hR.2.1
            have hk0 : F 29 0 = (zTr g rk k).2.2.2 := hR.2.2.1
            have hcn := zTr_n g rk k
            refine am_calln rfl (ct_choose 29 (by decide) (g 34 (zTr g rk k).1) (by omega)) (by decide) (Nat.le_of_ble_eq_true rfl) (Nat.le_of_ble_eq_true rfl) ?_
            iterate 2 (refine am_go rfl (by first | exact True.intro | omega | exact ⟨by decide, Nat.le_of_ble_eq_true rfl, Nat.le_of_ble_eq_true rfl⟩ | exact ⟨by decide, Nat.le_of_ble_eq_true rfl⟩) ?_)
            refine am_if rfl (fun c4 => ?_) (fun c4 => ?_)
            · refine tail _ _ _ (zRd_miss hR c4 (am_u1_j (by decide)) am_u1_s (am_u1_j (by decide)) (fun j => ?_) (fun j => am_u3_c (by decide))) ⟨fun x j hx => ?_, fun x j hx hx2 => ?_⟩ (by rw [if_pos c4])
              · rw [c4]
                by_cases u : j = F 29 2
                · rw [if_pos u, u, am_u3_s]
                · rw [if_neg u, am_u3_j u]
              · rw [am_u1_c hx]
                exact hF.1 x j hx
              · rw [am_u3_c hx]
                exact hF.2 x j hx hx2
            · obtain ⟨t7, t8⟩ := t5 c4
              iterate 5 (refine am_go rfl (by first | exact True.intro | omega | exact ⟨by decide, Nat.le_of_ble_eq_true rfl, Nat.le_of_ble_eq_true rfl⟩ | exact ⟨by decide, Nat.le_of_ble_eq_true rfl⟩) ?_)
              refine am_callv rfl (ct_fk _ (by rw [am_u1_c (by decide), e20]; omega) (by rw [am_u1_c (by decide), e20]; omega)) (by decide) (Nat.le_of_ble_eq_true rfl) (Nat.le_of_ble_eq_true rfl) ?_
              rw [am_u3_c (by decide), hF.2 3 _ (by decide) (by decide)]
              iterate 7 (refine am_go rfl (by first | exact True.intro | omega | exact ⟨by decide, Nat.le_of_ble_eq_true rfl, Nat.le_of_ble_eq_true rfl⟩ | exact ⟨by decide, Nat.le_of_ble_eq_true rfl⟩) ?_)
              refine am_callv rfl (ct_lv _ _ _ ⟨t7, t8⟩) (by decide) (Nat.le_of_ble_eq_true rfl) (Nat.le_of_ble_eq_true rfl) ?_
              rw [am_u3_c (by decide), hF.2 16 _ (by decide) (by decide)]
              have u0 : am_u1 F 29 2 (F 29 2 + 1) 29 0 = F 29 0 := am_u1_j (by decide)
              have u2 : am_u1 F 29 2 (F 29 2 + 1) 29 2 = F 29 2 + 1 := am_u1_s
              refine am_calln rfl (ct_addPart 29 (by decide) _ _ _ _ (by rw [u0]; omega) (by rw [u2]; omega)) (by decide) (Nat.le_of_ble_eq_true rfl) (Nat.le_of_ble_eq_true rfl) ?_
              rw [u0, u2]
              (refine am_go rfl (by first | exact True.intro | omega | exact ⟨by decide, Nat.le_of_ble_eq_true rfl, Nat.le_of_ble_eq_true rfl⟩ | exact ⟨by decide, Nat.le_of_ble_eq_true rfl⟩) ?_)
              have u3 : am_u3 G (29 + 1) (F 29 2) (g 34 (zTr g rk k).1) (29 + 1) (F 29 2 + 1 - 1) = g 34 (zTr g rk k).1 := by
                rw [show F 29 2 + 1 - 1 = F 29 2 by omega, am_u3_s]
              rw [u3]
              refine tail _ _ _ (zRd_take hR c4 ?_ ?_ ?_ (fun j => ?_) (fun j hj => ?_) ?_ ?_ ?_ ?_ ?_) ⟨fun x j hx => ?_, fun x j hx hx2 => ?_⟩ (by rw [if_neg c4])
              · rw [am_u1_j (by decide), am_u1_j (by decide)]
              · rw [am_u1_j (by decide), am_u1_s]
              · rw [am_u1_s]
              · rw [am_u3_c (by decide), am_u3_c (by decide), am_u3_c (by decide), am_u3_c (by decide), am_u3_c (by decide)]
                by_cases u : j = F 29 2
                · rw [if_pos u, u, am_u3_s]
                · rw [if_neg u, am_u3_j u]
              · rw [am_u3_j (by omega), am_u3_j (by omega), am_u3_j (by omega), am_u3_j (by omega), am_u3_j (by omega), am_u3_c (by decide)]
              · rw [am_u3_j (by omega), am_u3_j (by omega), am_u3_j (by omega), am_u3_j (by omega), am_u3_s]
              · rw [am_u3_j (by omega), am_u3_j (by omega), am_u3_j (by omega), am_u3_s]
              · rw [am_u3_j (by omega), am_u3_j (by omega), am_u3_s]
              · rw [am_u3_j (by omega), am_u3_s]
              · rw [am_u3_s]
              · rw [am_u1_c hx, am_u1_c hx]
                exact hF.1 x j hx
              · rw [am_u3_c hx2, am_u3_c hx2, am_u3_c hx2, am_u3_c hx2, am_u3_c hx2, am_u3_c hx]
                exact hF.2 x j hx hx2
  refine am_enter ok_4_trace rfl (by decide) (Nat.le_of_ble_eq_true rfl) rfl ?_
  (refine am_go rfl (by first | exact True.intro | omega | exact ⟨by decide, Nat.le_of_ble_eq_true rfl, Nat.le_of_ble_eq_true rfl⟩ | exact ⟨by decide, Nat.le_of_ble_eq_true rfl⟩) ?_)
  refine am_if rfl (fun c1 => ?_) (fun c1 => ?_)
  · omega
  · iterate 2 (refine am_go rfl (by first | exact True.intro | omega | exact ⟨by decide, Nat.le_of_ble_eq_true rfl, Nat.le_of_ble_eq_true rfl⟩ | exact ⟨by decide, Nat.le_of_ble_eq_true rfl⟩) ?_)
    refine am_if rfl (fun c2 => ?_) (fun c2 => ?_)
    · iterate 6 (refine am_go rfl (by first | exact True.intro | omega | exact ⟨by decide, Nat.le_of_ble_eq_true rfl, Nat.le_of_ble_eq_true rfl⟩ | exact ⟨by decide, Nat.le_of_ble_eq_true rfl⟩) ?_)
      refine am_calln rfl (ct_begin 29 (by decide) _) (by decide) (Nat.le_of_ble_eq_true rfl) (Nat.le_of_ble_eq_true rfl) ?_
      iterate 8 (refine am_go rfl (by first | exact True.intro | omega | exact ⟨by decide, Nat.le_of_ble_eq_true rfl, Nat.le_of_ble_eq_true rfl⟩ | exact ⟨by decide, Nat.le_of_ble_eq_true rfl⟩) ?_)
      refine loop _ 0 _ _ none none (by omega) rfl ⟨?_, ?_, ?_, fun k hk => by omega, fun k hk => by omega⟩ ⟨fun x j hx => ?_, fun x j hx hx2 => rfl⟩
      · rw [am_u1_j (by decide), am_u1_s]
      · rw [am_u1_s]; rfl
      · rw [am_u1_j (by decide), am_u1_j (by decide), am_u1_s]; rfl
      · rw [am_u1_c hx, am_u1_c hx, am_u1_c hx]
    · omega
end Trc

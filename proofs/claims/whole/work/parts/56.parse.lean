/-! a form's text, sign by sign -/
def zIx (c : Int) : Int := if c = 78 then 0 else if c = 70 then 1 else if c = 83 then 2 else if c = 72 then 3 else if c = 88 then 4 else if c = 66 then 5 else if c = 67 then 6 else if c = 80 then 7 else if c = 76 then 8 else -1
def zUp (h : Int → Int) (i v : Int) : Int → Int := fun j => if j = i then v else h j
theorem zUp_s (h : Int → Int) (i v : Int) : zUp h i v i = v := if_pos rfl
theorem zUp_n {h : Int → Int} {i j v : Int} (hj : j ≠ i) : zUp h i v j = h j := if_neg hj
theorem zIx_r (c : Int) : -1 ≤ zIx c ∧ zIx c ≤ 8 := by
  unfold zIx
  repeat' split
  all_goals omega
theorem zIx_let (c : Int) (h : zIx c ≠ -1) : zLet (zIx c) = c := by
  unfold zIx at h ⊢
  repeat' split at h
  all_goals first | (exact absurd rfl h) | skip
  all_goals simp_all [zLet]
theorem zLet_ix : ∀ q : Int, 0 ≤ q → q < 9 → zIx (zLet q) = q := by
  intro q h1 h2
  have : q = 0 ∨ q = 1 ∨ q = 2 ∨ q = 3 ∨ q = 4 ∨ q = 5 ∨ q = 6 ∨ q = 7 ∨ q = 8 := by omega
  rcases this with rfl | rfl | rfl | rfl | rfl | rfl | rfl | rfl | rfl <;> decide
theorem zIxR_ix {x q : Int} (h : zIxR x q) : q = zIx x := by
  rcases h with ⟨h1, h2, h3⟩ | ⟨h1, h2⟩
  · rw [← h3, zLet_ix q h1 h2]
  · rw [h1]
    refine Classical.byContradiction (fun u => ?_)
    have hr := zIx_r x
    exact h2 (zIx x) (by omega) (by omega) (zIx_let x (fun w => u w.symm))
theorem zIx_sg {c : Int} (h : zIx c ≠ -1) : c ≠ 59 ∧ c ≠ 63 ∧ ¬ (48 ≤ c ∧ c ≤ 57) := by
  have := zLet_r (zIx c)
  rw [zIx_let c h] at this
  omega
/-- the state of a reader: parts, their kinds, rows and costs; kinds that are used; the row; what stands before -/
abbrev zPS : Type := Int × (Int → Int) × (Int → Int) × (Int → Int) × (Int → Int) × Int × Int
def zStep : zPS → Int → Option zPS
  | (n, K, R, M, U, row, what), c =>
    if what ≠ 2 ∧ zIx c ≠ -1 ∧ U (zIx c) = 0 then some (n + 1, zUp K n (zIx c), zUp R n row, zUp M n (-1), zUp U (zIx c) 1, row, 1)
    else if c = 59 ∧ what ≠ 0 ∧ what ≠ 2 then some (n, K, R, M, U, row + 1, 0)
    else if c = 63 ∧ what = 1 then some (n, K, R, zUp M (n - 1) 0, U, row, 2)
    else if (48 ≤ c ∧ c ≤ 57) ∧ 1 < what ∧ what < 5 then some (n, K, R, zUp M (n - 1) (10 * M (n - 1) + (c - 48)), U, row, what + 1)
    else none
def zRun (t : Int → Int) : Nat → Nat → zPS → Int × zPS
  | 0, i, s => (if s.2.2.2.2.2.2 = 0 ∧ s.2.2.2.2.2.1 ≠ 0 then -1 else i, s)
  | m + 1, i, s => match zStep s (t i) with
    | none => (i, s)
    | some s' => zRun t m (i + 1) s'
def zS0 : zPS := (0, fun _ => 0, fun _ => 0, fun _ => 0, fun _ => 0, 0, 0)
/-- the state is sound -/
def zWf : zPS → Prop
  | (n, K, R, M, U, row, what) =>
    ((0 ≤ n ∧ n ≤ 9) ∧ n = U 0 + U 1 + U 2 + U 3 + U 4 + U 5 + U 6 + U 7 + U 8) ∧
    (∀ k, 0 ≤ k → k < 9 → (U k = 0 ∨ U k = 1) ∧ (U k = 1 ↔ ∃ p, 0 ≤ p ∧ p < n ∧ K p = k)) ∧
    (∀ p, 0 ≤ p → p < n → (0 ≤ K p ∧ K p ≤ 8) ∧ (-1 ≤ M p ∧ M p ≤ 999)) ∧
    (∀ p q, 0 ≤ p → p < n → 0 ≤ q → q < n → K p = K q → p = q) ∧
    ((0 < n → R 0 = 0) ∧ ∀ p, 0 ≤ p → p + 1 < n → R (p + 1) = R p ∨ R (p + 1) = R p + 1) ∧
    ((0 ≤ what ∧ what ≤ 5) ∧ (0 ≤ row ∧ row ≤ n)) ∧
    ((what = 0 → (n = 0 ∧ row = 0) ∨ (0 < n ∧ row = R (n - 1) + 1)) ∧ (what ≠ 0 → 0 < n ∧ row = R (n - 1))) ∧
    ((what = 2 → M (n - 1) = 0) ∧ (what = 3 → 0 ≤ M (n - 1) ∧ M (n - 1) ≤ 9) ∧ (what = 4 → 0 ≤ M (n - 1) ∧ M (n - 1) ≤ 99) ∧ (what = 5 → 0 ≤ M (n - 1) ∧ M (n - 1) ≤ 999)) ∧
    (∀ p, 0 ≤ p → p < n → 0 ≤ R p ∧ R p ≤ p)
theorem zWf_0 : zWf zS0 := by
  refine ⟨⟨by decide, by decide⟩, fun k h1 h2 => ⟨Or.inl rfl, ⟨fun (u : (0 : Int) = 1) => absurd u (by decide), fun ⟨p, p1, p2, _⟩ => by omega⟩⟩, fun p h1 h2 => by omega, fun p q h1 h2 => by omega, ⟨fun h => by omega, fun p h1 h2 => by omega⟩, ⟨by decide, by decide⟩, ⟨fun _ => Or.inl ⟨rfl, rfl⟩, fun h => absurd rfl h⟩, ⟨fun h => absurd h (by decide), fun h => absurd h (by decide), fun h => absurd h (by decide), fun h => absurd h (by decide)⟩, fun p h1 h2 => by omega⟩
theorem zWf_full {n row what : Int} {K R M U : Int → Int} (h : zWf (n, K, R, M, U, row, what)) {k : Int} (hk : 0 ≤ k ∧ k < 9) (hu : U k = 0) : n < 9 := by
  obtain ⟨⟨h1, h2⟩, h3, -⟩ := h
  have a0 := (h3 0 (by omega) (by omega)).1
  have a1 := (h3 1 (by omega) (by omega)).1
  have a2 := (h3 2 (by omega) (by omega)).1
  have a3 := (h3 3 (by omega) (by omega)).1
  have a4 := (h3 4 (by omega) (by omega)).1
  have a5 := (h3 5 (by omega) (by omega)).1
  have a6 := (h3 6 (by omega) (by omega)).1
  have a7 := (h3 7 (by omega) (by omega)).1
  have a8 := (h3 8 (by omega) (by omega)).1
  have : k = 0 ∨ k = 1 ∨ k = 2 ∨ k = 3 ∨ k = 4 ∨ k = 5 ∨ k = 6 ∨ k = 7 ∨ k = 8 := by omega
  rcases this with rfl | rfl | rfl | rfl | rfl | rfl | rfl | rfl | rfl <;> omega
theorem zUp_sum {U : Int → Int} {k : Int} (hk : 0 ≤ k ∧ k < 9) (hu : U k = 0) : zUp U k 1 0 + zUp U k 1 1 + zUp U k 1 2 + zUp U k 1 3 + zUp U k 1 4 + zUp U k 1 5 + zUp U k 1 6 + zUp U k 1 7 + zUp U k 1 8 = U 0 + U 1 + U 2 + U 3 + U 4 + U 5 + U 6 + U 7 + U 8 + 1 := by
  have : k = 0 ∨ k = 1 ∨ k = 2 ∨ k = 3 ∨ k = 4 ∨ k = 5 ∨ k = 6 ∨ k = 7 ∨ k = 8 := by omega
  rcases this with rfl | rfl | rfl | rfl | rfl | rfl | rfl | rfl | rfl <;> simp [zUp] <;> omega
theorem zWf_part {n row what : Int} {K R M U : Int → Int} {k : Int} (h : zWf (n, K, R, M, U, row, what)) (hk : 0 ≤ k ∧ k < 9) (hu : U k = 0) : zWf (n + 1, zUp K n k, zUp R n row, zUp M n (-1), zUp U k 1, row, 1) := by
  have hn := zWf_full h hk hu
  obtain ⟨⟨h1, h2⟩, h3, h4, h5, ⟨h6, h7⟩, ⟨h8, h9⟩, ⟨h10, h11⟩, -, h12⟩ := h
  have hused : ¬ ∃ p, 0 ≤ p ∧ p < n ∧ K p = k := fun u => by
    have := (h3 k hk.1 hk.2).2.mpr u
    omega
  have hrow : (n = 0 → row = 0) ∧ (0 < n → row = R (n - 1) ∨ row = R (n - 1) + 1) := by
    by_cases c : what = 0
    · have := h10 c
      omega
    · have := h11 c
      omega
  refine ⟨⟨by omega, by rw [zUp_sum hk hu]; omega⟩, fun q q1 q2 => ?_, fun p p1 p2 => ?_, fun p q p1 p2 q1 q2 e => ?_, ⟨fun _ => ?_, fun p p1 p2 => ?_⟩, ⟨by omega, by omega⟩, ⟨fun u => by omega, fun _ => ⟨by omega, ?_⟩⟩, ⟨fun u => by omega, fun u => by omega, fun u => by omega, fun u => by omega⟩, fun p p1 p2 => ?_⟩
  · by_cases c : q = k
    · rw [c, zUp_s]
      exact ⟨Or.inr rfl, ⟨fun _ => ⟨n, by omega, by omega, zUp_s _ _ _⟩, fun _ => rfl⟩⟩
    · rw [zUp_n c]
      refine ⟨(h3 q q1 q2).1, (h3 q q1 q2).2.trans ⟨?_, ?_⟩⟩
      · rintro ⟨p, p1, p2, p3⟩
        exact ⟨p, p1, by omega, by rw [zUp_n (by omega)]; exact p3⟩
      · rintro ⟨p, p1, p2, p3⟩
        by_cases cp : p = n
        · rw [cp, zUp_s] at p3
          exact absurd p3.symm c
        · rw [zUp_n cp] at p3
          exact ⟨p, p1, by omega, p3⟩
  · by_cases c : p = n
    · rw [c, zUp_s, zUp_s]
      omega
    · rw [zUp_n c, zUp_n c]
      exact h4 p p1 (by omega)
  · by_cases c : p = n
    · by_cases c2 : q = n
      · omega
      · rw [c, zUp_s, zUp_n c2] at e
        exact absurd ⟨q, q1, by omega, e.symm⟩ hused
    · by_cases c2 : q = n
      · rw [c2, zUp_s, zUp_n c] at e
        exact absurd ⟨p, p1, by omega, e⟩ hused
      · rw [zUp_n c, zUp_n c2] at e
        exact h5 p q p1 (by omega) q1 (by omega) e
  · by_cases c : n = 0
    · rw [c, zUp_s]
      exact hrow.1 c
    · rw [zUp_n (by omega)]
      exact h6 (by omega)
  · by_cases c : p + 1 = n
    · rw [c, zUp_s, zUp_n (by omega)]
      have := hrow.2 (by omega)
      rw [show n - 1 = p by omega] at this
      exact this
    · rw [zUp_n c, zUp_n (by omega)]
      exact h7 p p1 (by omega)
  · rw [show n + 1 - 1 = n by omega, zUp_s]
  · by_cases c : p = n
    · rw [c, zUp_s]
      omega
    · rw [zUp_n c]
      exact h12 p p1 (by omega)
theorem zWf_row {n row what : Int} {K R M U : Int → Int} (h : zWf (n, K, R, M, U, row, what)) (h1 : what ≠ 0) : zWf (n, K, R, M, U, row + 1, 0) := by
  obtain ⟨h0, h3, h4, h5, h6, ⟨h8, h9⟩, ⟨h10, h11⟩, h13, h12⟩ := h
  have := h11 h1
  have := h12 (n - 1) (by omega) (by omega)
  exact ⟨h0, h3, h4, h5, h6, ⟨by omega, by omega⟩, ⟨fun _ => Or.inr ⟨by omega, by omega⟩, fun u => absurd rfl u⟩, ⟨fun u => by omega, fun u => by omega, fun u => by omega, fun u => by omega⟩, h12⟩
theorem zWf_cost {n row what w v : Int} {K R M U : Int → Int} (h : zWf (n, K, R, M, U, row, what)) (h1 : what ≠ 0) (hw : 2 ≤ w ∧ w ≤ 5) (hv : (w = 2 → v = 0) ∧ (w = 3 → 0 ≤ v ∧ v ≤ 9) ∧ (w = 4 → 0 ≤ v ∧ v ≤ 99) ∧ (w = 5 → 0 ≤ v ∧ v ≤ 999)) : zWf (n, K, R, zUp M (n - 1) v, U, row, w) := by
  obtain ⟨h0, h3, h4, h5, h6, ⟨h8, h9⟩, ⟨h10, h11⟩, h13, h12⟩ := h
  have := h11 h1
  refine ⟨h0, h3, fun p p1 p2 => ?_, h5, h6, ⟨by omega, h9⟩, ⟨fun u => by omega, fun _ => this⟩, by rw [zUp_s]; exact hv, h12⟩
  by_cases c : p = n - 1
  · rw [c, zUp_s]
    have := (h4 (n - 1) (by omega) (by omega)).1
    omega
  · rw [zUp_n c]
    exact h4 p p1 p2
theorem zWf_s {s s' : zPS} {c : Int} (h : zWf s) (hs : zStep s c = some s') : zWf s' := by
  obtain ⟨n, K, R, M, U, row, what⟩ := s
  simp only [zStep] at hs
  have hr := zIx_r c
  split at hs
  · rename_i u
    obtain rfl := Option.some.inj hs
    exact zWf_part h (by omega) u.2.2
  · split at hs
    · rename_i u
      obtain rfl := Option.some.inj hs
      exact zWf_row h u.2.1
    · split at hs
      · rename_i u
        obtain rfl := Option.some.inj hs
        exact zWf_cost h (by omega) (by omega) ⟨fun _ => rfl, fun w => by omega, fun w => by omega, fun w => by omega⟩
      · split at hs
        · rename_i u
          obtain rfl := Option.some.inj hs
          have h13 := h.2.2.2.2.2.2.2.1
          refine zWf_cost h (by omega) (by omega) ⟨fun w => by omega, fun w => ?_, fun w => ?_, fun w => ?_⟩
          · have := h13.1 (by omega)
            omega
          · have := h13.2.1 (by omega)
            omega
          · have := h13.2.2.1 (by omega)
            omega
        · cases hs
theorem zRun_wf (t : Int → Int) : ∀ (m i : Nat) (s : zPS), zWf s → zWf (zRun t m i s).2 := by
  intro m
  induction m with
  | zero => intro i s h; exact h
  | succ m ih =>
    intro i s h
    simp only [zRun]
    split
    · exact h
    · rename_i s' hs
      exact ih (i + 1) s' (zWf_s h hs)
/-- where there is no fault, the text was read to its end, and its last row was ended -/
theorem zRun_ok (t : Int → Int) : ∀ (m i : Nat) (s : zPS), (zRun t m i s).1 = -1 → (zRun t m i s).2.2.2.2.2.2.2 = 0 ∧ (zRun t m i s).2.2.2.2.2.2.1 ≠ 0 := by
  intro m
  induction m with
  | zero =>
    intro i s h
    simp only [zRun] at h ⊢
    split at h
    · rename_i u
      exact u
    · omega
  | succ m ih =>
    intro i s h
    simp only [zRun] at h ⊢
    split
    · rename_i hs
      rw [hs] at h
      simp only at h
      omega
    · rename_i s' hs
      rw [hs] at h
      exact ih (i + 1) s' h
theorem zRun_ge (t : Int → Int) : ∀ (m i : Nat) (s : zPS), (zRun t m i s).1 = -1 ∨ (0 ≤ (zRun t m i s).1 ∧ (zRun t m i s).1 ≤ i + m) := by
  intro m
  induction m with
  | zero =>
    intro i s
    simp only [zRun]
    split
    · exact Or.inl rfl
    · exact Or.inr (by omega)
  | succ m ih =>
    intro i s
    simp only [zRun]
    split
    · exact Or.inr (by simp only; omega)
    · rename_i s' hs
      have := ih (i + 1) s'
      omega
theorem zRun_t {t t' : Int → Int} : ∀ (m i : Nat) (s : zPS), (∀ j : Nat, i ≤ j → j < i + m → t j = t' j) → zRun t m i s = zRun t' m i s := by
  intro m
  induction m with
  | zero => intro i s _; rfl
  | succ m ih =>
    intro i s h
    simp only [zRun]
    rw [h i (by omega) (by omega)]
    split
    · rfl
    · exact ih (i + 1) _ (fun j h1 h2 => h j (by omega) (by omega))

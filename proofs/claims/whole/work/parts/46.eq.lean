/-! class and reference mean the same two readings -/
section Eq1
variable {f : Nat → Nat → Int} {g : Nat → Int → Int} {cs : Nat → Int} {v : Int}
theorem zBeh_go {k : Nat} (h0 : 0 ≤ zZz g cs k) (h : zGo g cs k) : zBeh g k (zPa g cs k).1 (zZz g cs k) = zSt ((k : Int) + 1) (zPa g cs (k + 1)).1 (zPa g cs (k + 1)).2.1 := by
  unfold zBeh zSt
  rcases zPa_s g cs k with ⟨c, e1, e2⟩ | ⟨c, e1, e2⟩
  · rw [if_pos (by omega), e1, e2]
  · unfold zGo at h
    rw [if_neg (by omega), if_pos (by omega), e1, e2]
theorem zBeh_no {k : Nat} (h : ¬ zGo g cs k) : zBeh g k (zPa g cs k).1 (zZz g cs k) = -1 := by
  unfold zGo at h
  unfold zBeh
  rw [if_neg (by omega), if_neg (by omega)]
/-- a step of the list of readings -/
theorem zSuf_mem (hI : zI f g) {n : Nat} {x y z s ch : Int} {t : List Int} : (s, ch :: t) ∈ zSuf f g v (n + 1) x y z ↔ (ch ≠ 4 ∧ 0 ≤ ch ∧ ch < zNa g y z ∧ g 15 (zAlt y z ch) = g 3 x ∧ (g 3 x ≠ 7 ∨ g 16 (zAlt y z ch) = v) ∧ (s - (g 17 (zAlt y z ch) + zMf f g v (g 3 x) (g 16 (zAlt y z ch))), t) ∈ zSB f g v n x (zBeh g x y (z + 1))) ∨ (ch = 4 ∧ g 4 x ≠ -1 ∧ (g 3 x ≠ 7 ∨ v = -1) ∧ (s - g 4 x, t) ∈ zSB f g v n x (zBeh g x y z)) := by
  have hna := zNa_r hI y z
  rw [zSuf_s, List.mem_append]
  refine or_congr ⟨fun h => ?_, fun h => ?_⟩ ⟨fun h => ?_, fun h => ?_⟩
  · obtain ⟨i, hi, h⟩ := List.mem_flatMap.mp h
    have hi := List.mem_range.mp hi
    unfold zAi at h
    split at h
    · rename_i hc
      obtain ⟨u, hu, e⟩ := List.mem_map.mp h
      simp only [Prod.mk.injEq, List.cons.injEq] at e
      obtain ⟨e1, e2, e3⟩ := e
      subst e2
      refine ⟨by omega, by omega, by omega, hc.1, hc.2, ?_⟩
      rw [← e1, ← e3, show g 17 (zAlt y z i) + zMf f g v (g 3 x) (g 16 (zAlt y z i)) + u.1 - (g 17 (zAlt y z i) + zMf f g v (g 3 x) (g 16 (zAlt y z i))) = u.1 by omega]
      exact hu
    · cases h
  · obtain ⟨h1, h2, h3, h4, h5, h6⟩ := h
    obtain ⟨i, rfl⟩ := Int.eq_ofNat_of_zero_le h2
    refine List.mem_flatMap.mpr ⟨i, List.mem_range.mpr (by omega), ?_⟩
    unfold zAi
    rw [if_pos ⟨h4, h5⟩]
    refine List.mem_map.mpr ⟨_, h6, ?_⟩
    simp only [Prod.mk.injEq, List.cons.injEq, and_true]
    omega
  · unfold zMi at h
    split at h
    · rename_i hc
      obtain ⟨u, hu, e⟩ := List.mem_map.mp h
      simp only [Prod.mk.injEq, List.cons.injEq] at e
      obtain ⟨e1, e2, e3⟩ := e
      refine ⟨e2.symm, hc.1, hc.2, ?_⟩
      rw [← e1, ← e3, show g 4 x + u.1 - g 4 x = u.1 by omega]
      exact hu
    · cases h
  · obtain ⟨h1, h2, h3, h4⟩ := h
    unfold zMi
    rw [if_pos ⟨h2, h3⟩]
    refine List.mem_map.mpr ⟨_, h4, ?_⟩
    simp only [Prod.mk.injEq, List.cons.injEq, and_true]
    omega
/-- the place's value is as assumed; what fits adds -/
def zPv (g : Nat → Int → Int) (v : Int) (cs : Nat → Int) (k : Nat) : Prop := g 3 k = 7 → if cs k = 4 then v = -1 else g 16 (zAlt (zPa g cs k).1 (zPa g cs k).2.1 (cs k)) = v
noncomputable def zMc (f : Nat → Nat → Int) (g : Nat → Int → Int) (v : Int) (cs : Nat → Int) (k : Nat) : Int := if cs k = 4 then 0 else zMf f g v (g 3 k) (g 16 (zAlt (zPa g cs k).1 (zPa g cs k).2.1 (cs k)))
noncomputable def zSs (f : Nat → Nat → Int) (g : Nat → Int → Int) (v : Int) (cs : Nat → Int) : Nat → Nat → Int
  | _, 0 => 0
  | k, n + 1 => zCo g cs k + zMc f g v cs k + zSs f g v cs (k + 1) n
theorem zSB_go (hI : zI f g) {k n : Nat} {s : Int} {t : List Int} (h : zVl f g cs k) : (s, t) ∈ zSB f g v n k (zBeh g k (zPa g cs k).1 (zZz g cs k)) ↔ zGo g cs k ∧ (s, t) ∈ zSuf f g v n ((k : Int) + 1) (zPa g cs (k + 1)).1 (zPa g cs (k + 1)).2.1 := by
  have hz := zZz_r hI h
  have i3 := hI.2.2.1
  unfold zSB
  by_cases c : zGo g cs k
  · have hb := zBd_s hI h c
    have hp := zPl_r hI (zPa g cs (k + 1)).1
    have hb1 := hb.1
    have hb2 := hb.2
    have e1 : zSt ((k : Int) + 1) (zPa g cs (k + 1)).1 (zPa g cs (k + 1)).2.1 / 6 % 7 = (zPa g cs (k + 1)).1 := by unfold zSt; omega
    have e2 : zSt ((k : Int) + 1) (zPa g cs (k + 1)).1 (zPa g cs (k + 1)).2.1 % 6 = (zPa g cs (k + 1)).2.1 := by unfold zSt; omega
    rw [zBeh_go hz.1 c, e1, e2, if_neg (by unfold zSt; omega)]
    exact ⟨fun u => ⟨c, u⟩, fun u => u.2⟩
  · rw [zBeh_no c, if_pos (by omega)]
    exact ⟨fun u => (by cases u), fun u => absurd u.1 c⟩
theorem zSuf_iff (hI : zI f g) : ∀ (n k : Nat) (s : Int), zBd f g cs k → ((s, (List.range n).map (fun i => cs (k + i))) ∈ zSuf f g v n k (zPa g cs k).1 (zPa g cs k).2.1 ↔ (∀ i : Nat, k ≤ i → i < k + n → zVl f g cs i ∧ zGo g cs i ∧ zPv g v cs i) ∧ (zPa g cs (k + n)).1 = f 12 0 ∧ s = zSs f g v cs k n) := by
  intro n
  induction n with
  | zero =>
    intro k s hb
    unfold zSuf
    simp only [List.range_zero, List.map_nil, Nat.add_zero, zSs]
    split
    · rename_i c
      simp only [List.mem_singleton, Prod.mk.injEq, and_true]
      exact ⟨fun u => ⟨fun i h1 h2 => by omega, c, u⟩, fun u => u.2.2⟩
    · rename_i c
      exact ⟨fun u => (by cases u), fun u => absurd u.2.1 c⟩
  | succ n ih =>
    intro k s hb
    have hlist : (List.range (n + 1)).map (fun i => cs (k + i)) = cs k :: (List.range n).map (fun i => cs (k + 1 + i)) := by
      rw [List.range_succ_eq_map, List.map_cons, List.map_map]
      congr 1
      refine List.map_congr_left (fun i _ => ?_)
      show cs (k + (i + 1)) = cs (k + 1 + i)
      congr 1
      omega
    rw [hlist, zSuf_mem hI]
    have hstep : zVl f g cs k → ((s - (zCo g cs k + zMc f g v cs k), (List.range n).map (fun i => cs (k + 1 + i))) ∈ zSB f g v n k (zBeh g k (zPa g cs k).1 (zZz g cs k)) ↔ zGo g cs k ∧ (∀ i : Nat, k + 1 ≤ i → i < k + 1 + n → zVl f g cs i ∧ zGo g cs i ∧ zPv g v cs i) ∧ (zPa g cs (k + 1 + n)).1 = f 12 0 ∧ s - (zCo g cs k + zMc f g v cs k) = zSs f g v cs (k + 1) n) := by
      intro h
      rw [zSB_go hI h]
      refine and_congr_right (fun hg => ?_)
      exact ih (k + 1) _ (zBd_s hI h hg)
    constructor
    · rintro (⟨h1, h2, h3, h4, h5, h6⟩ | ⟨h1, h2, h3, h4⟩)
      · have hna := zNa_r hI (zPa g cs k).1 (zPa g cs k).2.1
        have hv : zVl f g cs k := zVl_can.mpr ⟨by omega, hb, Or.inr ⟨h1, h3, h4⟩⟩
        have ez : zZz g cs k = (zPa g cs k).2.1 + 1 := if_neg h1
        have ec : zCo g cs k = g 17 (zAlt (zPa g cs k).1 (zPa g cs k).2.1 (cs k)) := if_neg h1
        have em : zMc f g v cs k = zMf f g v (g 3 k) (g 16 (zAlt (zPa g cs k).1 (zPa g cs k).2.1 (cs k))) := if_neg h1
        rw [← ec, ← em, ← ez] at h6
        obtain ⟨r1, r2, r3, r4⟩ := (hstep hv).mp h6
        refine ⟨fun i i1 i2 => ?_, by rw [show k + (n + 1) = k + 1 + n by omega]; exact r3, by simp only [zSs]; omega⟩
        by_cases c : i = k
        · rw [c]
          refine ⟨hv, r1, fun u => ?_⟩
          rw [if_neg h1]
          exact h5.resolve_left (fun w => w u)
        · exact r2 i (by omega) (by omega)
      · have hv : zVl f g cs k := zVl_can.mpr ⟨by omega, hb, Or.inl ⟨h1, h2⟩⟩
        have ez : zZz g cs k = (zPa g cs k).2.1 := if_pos h1
        have ec : zCo g cs k = g 4 k := if_pos h1
        have em : zMc f g v cs k = 0 := if_pos h1
        rw [← ez, show s - g 4 k = s - (zCo g cs k + zMc f g v cs k) by omega] at h4
        obtain ⟨r1, r2, r3, r4⟩ := (hstep hv).mp h4
        refine ⟨fun i i1 i2 => ?_, by rw [show k + (n + 1) = k + 1 + n by omega]; exact r3, by simp only [zSs]; omega⟩
        by_cases c : i = k
        · rw [c]
          refine ⟨hv, r1, fun u => ?_⟩
          rw [if_pos h1]
          exact h3.resolve_left (fun w => w u)
        · exact r2 i (by omega) (by omega)
    · rintro ⟨r1, r2, r3⟩
      obtain ⟨hv, hg, hp⟩ := r1 k (by omega) (by omega)
      have r4 := (hstep hv).mpr ⟨hg, fun i i1 i2 => r1 i (by omega) (by omega), by rw [show k + 1 + n = k + (n + 1) by omega]; exact r2, by simp only [zSs] at r3; omega⟩
      obtain ⟨v1, v2, v3⟩ := zVl_can.mp hv
      rcases v3 with ⟨w1, w2⟩ | ⟨w1, w2, w3⟩
      · refine Or.inr ⟨w1, w2, ?_, ?_⟩
        · by_cases c : g 3 k = 7
          · have := hp c
            rw [if_pos w1] at this
            exact Or.inr this
          · exact Or.inl c
        · have ez : zZz g cs k = (zPa g cs k).2.1 := if_pos w1
          have ec : zCo g cs k = g 4 k := if_pos w1
          have em : zMc f g v cs k = 0 := if_pos w1
          rw [ez, ec, em, Int.add_zero] at r4
          exact r4
      · refine Or.inl ⟨w1, v1.1, w2, w3, ?_, ?_⟩
        · by_cases c : g 3 k = 7
          · have := hp c
            rw [if_neg w1] at this
            exact Or.inr this
          · exact Or.inl c
        · have ez : zZz g cs k = (zPa g cs k).2.1 + 1 := if_neg w1
          have ec : zCo g cs k = g 17 (zAlt (zPa g cs k).1 (zPa g cs k).2.1 (cs k)) := if_neg w1
          have em : zMc f g v cs k = zMf f g v (g 3 k) (g 16 (zAlt (zPa g cs k).1 (zPa g cs k).2.1 (cs k))) := if_neg w1
          rw [ez, ec, em] at r4
          exact r4
/-- the value of a kind, where kinds differ -/
theorem zVo_no {kd : Int} : ∀ k : Nat, (∀ j : Nat, j < k → g 3 j ≠ kd) → zVo g cs kd k = -1 := by
  intro k
  induction k with
  | zero => intro _; rfl
  | succ k ih =>
    intro h
    simp only [zVo]
    rw [if_neg (fun u => h k (by omega) u.1)]
    exact ih (fun j hj => h j (by omega))
theorem zVo_at {kd : Int} {k : Nat} (hk : g 3 k = kd) : ∀ n : Nat, k < n → (∀ j : Nat, j < n → g 3 j = kd → j = k) → zVo g cs kd n = if cs k = 4 then -1 else g 16 (zAlt (zPa g cs k).1 (zPa g cs k).2.1 (cs k)) := by
  intro n
  induction n with
  | zero => intro h; omega
  | succ n ih =>
    intro h hd
    simp only [zVo]
    by_cases c : n = k
    · subst c
      by_cases c2 : cs n = 4
      · rw [if_neg (fun u => u.2 c2), if_pos c2]
        exact zVo_no n (fun j hj u => by have := hd j (by omega) u; omega)
      · rw [if_pos ⟨hk, c2⟩, if_neg c2]
    · rw [if_neg (fun u => c (hd n (by omega) u.1))]
      exact ih (by omega) (fun j hj u => hd j (by omega) u)
/-- the sums are the same -/
noncomputable def zM1 (f : Nat → Nat → Int) (g : Nat → Int → Int) (v : Int) (cs : Nat → Int) : Nat → Int
  | 0 => 0
  | k + 1 => zM1 f g v cs k + zMc f g v cs k
theorem zSs_sum : ∀ (n k : Nat), zSs f g v cs k n + zSm g cs 0 k + zM1 f g v cs k = zSm g cs 0 (k + n) + zM1 f g v cs (k + n) := by
  intro n
  induction n with
  | zero => intro k; simp only [zSs, Nat.add_zero]; omega
  | succ n ih =>
    intro k
    have := ih (k + 1)
    simp only [zSs]
    rw [show k + (n + 1) = k + 1 + n by omega, ← this]
    simp only [zSm, zM1]
    omega
theorem zSm_a (a : Int) : ∀ k : Nat, zSm g cs a k = a + zSm g cs 0 k := by
  intro k
  induction k with
  | zero => simp only [zSm]; omega
  | succ k ih =>
    simp only [zSm]
    rw [ih]
    omega
noncomputable def zE1 (f : Nat → Nat → Int) (g : Nat → Int → Int) (v kd w : Int) : Int := @ite Int (w ≠ -1 ∧ v ≠ -1 ∧ ¬ zFit f g kd w v) (Classical.propDecidable _) 100 0
theorem zE1_0 (v kd : Int) : zE1 f g v kd (-1) = 0 := if_neg (fun u => u.1 rfl)
theorem zM1_ex {N : Nat} (hd : ∀ i j : Nat, i < N → j < N → g 3 i = g 3 j → i = j) (hw : ∀ i : Nat, i < N → cs i ≠ 4 → g 16 (zAlt (zPa g cs i).1 (zPa g cs i).2.1 (cs i)) ≠ -1) : ∀ k : Nat, k ≤ N → zM1 f g v cs k = zE1 f g v 2 (zVo g cs 2 k) + zE1 f g v 6 (zVo g cs 6 k) := by
  intro k
  induction k with
  | zero =>
    intro _
    simp only [zM1, zVo]
    rw [zE1_0, zE1_0]
    rfl
  | succ k ih =>
    intro hk
    have ih := ih (by omega)
    have hno : ∀ j : Nat, j < k → g 3 j ≠ g 3 k := fun j hj u => by have := hd j k (by omega) (by omega) u; omega
    simp only [zM1]
    rw [ih]
    by_cases c4 : cs k = 4
    · have em : zMc f g v cs k = 0 := if_pos c4
      have e2 : ∀ kd, zVo g cs kd (k + 1) = zVo g cs kd k := fun kd => by simp only [zVo]; rw [if_neg (fun u => u.2 c4)]
      rw [em, e2, e2]
      omega
    · have em : zMc f g v cs k = zMf f g v (g 3 k) (g 16 (zAlt (zPa g cs k).1 (zPa g cs k).2.1 (cs k))) := if_neg c4
      have hne := hw k (by omega) c4
      have e2 : ∀ kd, g 3 k ≠ kd → zVo g cs kd (k + 1) = zVo g cs kd k := fun kd hkd => by simp only [zVo]; rw [if_neg (fun u => hkd u.1)]
      have e3 : zVo g cs (g 3 k) (k + 1) = g 16 (zAlt (zPa g cs k).1 (zPa g cs k).2.1 (cs k)) := by simp only [zVo]; rw [if_pos ⟨trivial, c4⟩]
      have e4 := zVo_no (cs := cs) k hno
      have key : ∀ kd, g 3 k = kd → (kd = 2 ∨ kd = 6) → zMf f g v (g 3 k) (g 16 (zAlt (zPa g cs k).1 (zPa g cs k).2.1 (cs k))) = zE1 f g v kd (zVo g cs kd (k + 1)) := by
        intro kd hkd h26
        rw [← hkd, e3]
        unfold zMf zE1
        by_cases c : v ≠ -1 ∧ ¬ zFit f g (g 3 k) (g 16 (zAlt (zPa g cs k).1 (zPa g cs k).2.1 (cs k))) v
        · rw [if_pos ⟨c.1, by rw [hkd]; exact h26, c.2⟩, if_pos ⟨hne, c.1, c.2⟩]
        · rw [if_neg (fun u => c ⟨u.1, u.2.2⟩), if_neg (fun u => c ⟨u.2.1, u.2.2⟩)]
      rw [em]
      by_cases k2 : g 3 k = 2
      · rw [key 2 k2 (Or.inl rfl), e2 6 (by omega)]
        rw [k2] at e4
        rw [e4, zE1_0]
        omega
      · by_cases k6 : g 3 k = 6
        · rw [key 6 k6 (Or.inr rfl), e2 2 (by omega)]
          rw [k6] at e4
          rw [e4, zE1_0]
          omega
        · rw [e2 2 k2, e2 6 k6]
          have : zMf f g v (g 3 k) (g 16 (zAlt (zPa g cs k).1 (zPa g cs k).2.1 (cs k))) = 0 := if_neg (fun u => u.2.1.elim k2 k6)
          omega
theorem zSs_tt {N : Nat} (hd : ∀ i j : Nat, i < N → j < N → g 3 i = g 3 j → i = j) (hw : ∀ i : Nat, i < N → cs i ≠ 4 → g 16 (zAlt (zPa g cs i).1 (zPa g cs i).2.1 (cs i)) ≠ -1) (hv : v = zVo g cs 7 N) : zSs f g v cs 0 N = zTt f g cs N := by
  have h1 := zSs_sum (f := f) (g := g) (v := v) (cs := cs) N 0
  rw [Nat.zero_add] at h1
  have h2 := zM1_ex (f := f) (v := v) hd hw N (Nat.le_refl _)
  have e : ∀ kd, zEx f g cs N kd = zE1 f g v kd (zVo g cs kd N) := fun kd => by unfold zEx zE1; rw [hv]
  unfold zTt
  rw [zSm_a, e, e]
  simp only [zSm, zM1] at h1
  omega
end Eq1
/-- the list is in the order of choices -/
theorem zLc_ext {n : Nat} {d e : Int × List Int} {ch c : Int} (h : zLc n d e) : zLc (n + 1) (c + d.1, ch :: d.2) (c + e.1, ch :: e.2) := by
  obtain ⟨k, k1, k2, k3⟩ := h
  refine ⟨k + 1, by omega, fun j hj => ?_, k3⟩
  match j with
  | 0 => rfl
  | j + 1 => exact k2 j (by omega)
theorem zSuf_pw {f : Nat → Nat → Int} {g : Nat → Int → Int} {v : Int} (hI : zI f g) : ∀ (n : Nat) (x y z : Int), (zSuf f g v n x y z).Pairwise (zLc n) := by
  intro n
  induction n with
  | zero =>
    intro x y z
    unfold zSuf
    split
    · exact List.pairwise_singleton _ _
    · exact List.Pairwise.nil
  | succ n ih =>
    intro x y z
    have hna := zNa_r hI y z
    have hB : ∀ q, (zSB f g v n x q).Pairwise (zLc n) := by
      intro q
      unfold zSB
      split
      · exact List.Pairwise.nil
      · exact ih _ _ _
    have hE : ∀ ch c L, L.Pairwise (zLc n) → (zExt ch c L).Pairwise (zLc (n + 1)) := by
      intro ch c L h
      unfold zExt
      rw [List.pairwise_map]
      exact h.imp (fun u => zLc_ext u)
    have hh : ∀ ch c L, ∀ e ∈ zExt ch c L, zCs e 0 = ch := by
      intro ch c L e he
      obtain ⟨u, hu, rfl⟩ := List.mem_map.mp he
      rfl
    have hA : ∀ i : Nat, ∀ e ∈ zAi f g v n x y z i, zCs e 0 = i := by
      intro i e he
      unfold zAi at he
      split at he
      · exact hh _ _ _ e he
      · cases he
    have hM : ∀ e ∈ zMi f g v n x y z, zCs e 0 = 4 := by
      intro e he
      unfold zMi at he
      split at he
      · exact hh _ _ _ e he
      · cases he
    have hlt : ∀ d e : Int × List Int, zCs d 0 < zCs e 0 → zLc (n + 1) d e := fun d e h => ⟨0, by omega, fun j hj => by omega, h⟩
    rw [zSuf_s, List.pairwise_append]
    refine ⟨?_, ?_, fun d hd e he => ?_⟩
    · rw [List.pairwise_flatMap]
      refine ⟨fun i hi => ?_, ?_⟩
      · unfold zAi
        split
        · exact hE _ _ _ (hB _)
        · exact List.Pairwise.nil
      · refine List.Pairwise.imp (fun {i j} (hij : i < j) d hd e he => hlt d e ?_) (List.pairwise_lt_range)
        rw [hA i d hd, hA j e he]
        omega
    · unfold zMi
      split
      · exact hE _ _ _ (hB _)
      · exact List.Pairwise.nil
    · obtain ⟨i, hi, hd⟩ := List.mem_flatMap.mp hd
      have hi := List.mem_range.mp hi
      refine hlt d e ?_
      rw [hA i d hd, hM e he]
      omega
section Eq2
variable {f : Nat → Nat → Int} {g : Nat → Int → Int}
theorem zCs_list {N : Nat} {e : Int × List Int} (h : e.2.length = N) : e.2 = (List.range N).map (fun i => zCs e (0 + i)) := by
  refine List.ext_getElem (by simp [h]) (fun k k1 k2 => ?_)
  simp [zCs, List.getElem?_eq_getElem k1]
/-- readings with an assumed value of the place -/
theorem zSuf_vd (hI : zI f g) (hd : ∀ i j : Nat, i < (f 2 0).toNat → j < (f 2 0).toNat → g 3 i = g 3 j → i = j) {v : Int} (hv : (v = -1 ∧ ∀ i : Nat, i < (f 2 0).toNat → g 3 i ≠ 7) ∨ ∃ i : Nat, i < (f 2 0).toNat ∧ g 3 i = 7) (e : Int × List Int) : e ∈ zSuf f g v (f 2 0).toNat 0 0 0 ↔ zVd f g (f 2 0).toNat e ∧ zVo g (zCs e) 7 (f 2 0).toNat = v := by
  have i1 := hI.1
  have hw : ∀ cs : Nat → Int, (∀ i : Nat, i < (f 2 0).toNat → zVl f g cs i) → ∀ i : Nat, i < (f 2 0).toNat → cs i ≠ 4 → g 16 (zAlt (zPa g cs i).1 (zPa g cs i).2.1 (cs i)) ≠ -1 := by
    intro cs hcs i hi h4
    obtain ⟨v1, v2, v3⟩ := zVl_can.mp (hcs i hi)
    rcases v3 with w | w
    · exact absurd w.1 h4
    · obtain ⟨n1, n2⟩ := zNa_in (show 0 < zNa g (zPa g cs i).1 (zPa g cs i).2.1 by omega)
      have e0 : zNa g (zPa g cs i).1 (zPa g cs i).2.1 = g 14 ((zPa g cs i).1 * 5 + (zPa g cs i).2.1) := if_pos ⟨n1, n2⟩
      have := (hI.2.2.2.2.2.1 (zPa g cs i).1 (zPa g cs i).2.1 (cs i) n1.1 n1.2 n2.1 n2.2 v1.1 (by omega)).1
      omega
  have hpv : (∀ i : Nat, i < (f 2 0).toNat → zPv g v (zCs e) i) ↔ zVo g (zCs e) 7 (f 2 0).toNat = v := by
    rcases hv with ⟨rfl, hno⟩ | ⟨x, hx, hx7⟩
    · rw [zVo_no _ hno]
      exact ⟨fun _ => rfl, fun _ i hi u => absurd u (hno i hi)⟩
    · have hux : ∀ j : Nat, j < (f 2 0).toNat → g 3 j = 7 → j = x := fun j hj u => hd j x hj hx (by omega)
      rw [zVo_at hx7 (f 2 0).toNat hx hux]
      constructor
      · intro h
        have := h x hx hx7
        split at this
        · rename_i c
          rw [if_pos c]
          exact this.symm
        · rename_i c
          rw [if_neg c]
          exact this
      · intro h i hi u
        obtain rfl := hux i hi u
        split at h
        · rename_i c
          rw [if_pos c]
          exact h.symm
        · rename_i c
          rw [if_neg c]
          exact h
  have main := zSuf_iff (v := v) (cs := zCs e) hI (f 2 0).toNat 0 e.1 (zBd_0 hI _)
  rw [Nat.zero_add] at main
  constructor
  · intro h
    have hl := (zSuf_b hI (f 2 0).toNat 0 0 0 (by omega) (by omega) e h).2.2
    rw [← zCs_list hl] at main
    obtain ⟨r1, r2, r3⟩ := main.mp h
    have hvo := hpv.mp (fun i hi => (r1 i (by omega) hi).2.2)
    refine ⟨⟨hl, fun k hk => ⟨(r1 k (by omega) hk).1, (r1 k (by omega) hk).2.1⟩, r2, ?_⟩, hvo⟩
    rw [r3]
    exact zSs_tt hd (hw _ (fun i hi => (r1 i (by omega) hi).1)) hvo.symm
  · rintro ⟨⟨hl, r1, r2, r3⟩, hvo⟩
    rw [← zCs_list hl] at main
    refine main.mpr ⟨fun i _ hi => ⟨(r1 i hi).1, (r1 i hi).2, hpv.mpr hvo i hi⟩, r2, ?_⟩
    rw [r3]
    exact (zSs_tt hd (hw _ (fun i hi => (r1 i hi).1)) hvo.symm).symm
/-- a path goes over reached states -/
theorem zRe_pa (hI : zI f g) {cs : Nat → Int} : ∀ k : Nat, (∀ j : Nat, j < k → zVl f g cs j ∧ zGo g cs j) → zRe g k (zSt k (zPa g cs k).1 (zPa g cs k).2.1) := by
  intro k
  induction k with
  | zero => intro _; rfl
  | succ k ih =>
    intro h
    obtain ⟨hv, hg⟩ := h k (by omega)
    have hz := zZz_r hI hv
    have i3 := hI.2.2.1
    obtain ⟨v1, v2, v3⟩ := zVl_can.mp hv
    have hp := zPl_r hI (zPa g cs k).1
    have v21 := v2.1
    have v22 := v2.2
    have hbe := zBeh_go hz.1 hg
    have hb := zBd_s hI hv hg
    have hb1 := hb.1
    have hb2 := hb.2
    refine ⟨(zPa g cs k).1, (zPa g cs k).2.1, by omega, by omega, ih (fun j hj => h j (by omega)), ?_, ?_⟩
    · unfold zSt
      omega
    · rcases v3 with w | w
      · refine Or.inl ⟨w.2, ?_⟩
        rw [show zZz g cs k = (zPa g cs k).2.1 from if_pos w.1] at hbe
        rw [hbe]
        rfl
      · refine Or.inr ⟨⟨cs k, v1.1, w.2.1, w.2.2⟩, ?_⟩
        rw [show zZz g cs k = (zPa g cs k).2.1 + 1 from if_neg w.1] at hbe
        rw [hbe]
        rfl
theorem zOne_tw (hI : zI f g) {N : Nat} (hN : N = (f 2 0).toNat) : ∀ (vs : List Int) (D : Int → Prop) (T : List (Int × List Int)), zTw N (fun e => zVd f g N e ∧ D (zVo g (zCs e) 7 N)) T → (∀ v ∈ vs, ¬ D v) → vs.Nodup → (∀ v ∈ vs, ∀ e, e ∈ zSuf f g v N 0 0 0 ↔ zVd f g N e ∧ zVo g (zCs e) 7 N = v) → zTw N (fun e => zVd f g N e ∧ (D (zVo g (zCs e) 7 N) ∨ zVo g (zCs e) 7 N ∈ vs)) (vs.foldl (zOne f g) T) := by
  intro vs
  induction vs with
  | nil =>
    intro D T hT _ _ _
    exact zTw_c (fun e => by simp) hT
  | cons v vs ih =>
    intro D T hT h1 h2 h3
    rw [List.nodup_cons] at h2
    have hS := zTw_zt (zSuf_pw (v := v) hI N 0 0 0)
    have hS := zTw_c (fun e => h3 v (by simp) e) hS
    have hone : zAd N (zt2 (zSuf f g v N 0 0 0)) 1 (zAd N (zt2 (zSuf f g v N 0 0 0)) 0 T) = zOne f g T v := by rw [hN]; rfl
    have h4 := zTw_ad hT hS (fun e d he hd => ?_)
    rw [hone] at h4
    · have h5 := ih (fun w => D w ∨ w = v) (zOne f g T v) (zTw_c (fun e => ?_) h4) (fun w hw u => u.elim (h1 w (by simp [hw])) (fun u => h2.1 (u ▸ hw))) h2.2 (fun w hw e => h3 w (by simp [hw]) e)
      · refine zTw_c (fun e => ?_) h5
        simp only [List.mem_cons, or_assoc]
      · constructor
        · rintro (u | u)
          · exact ⟨u.1, Or.inl u.2⟩
          · exact ⟨u.1, Or.inr u.2⟩
        · rintro ⟨u, w | w⟩
          · exact Or.inl ⟨u, w⟩
          · exact Or.inr ⟨u, w⟩
    · refine zLt_to hd.1.1 he.1.1 (fun u => ?_)
      rw [← u, hd.2] at he
      exact h1 v (by simp) he.2
/-- what the class finds -/
theorem zRes_tw {a b : Nat} (hI : zI f g) (hD : zD f g) (h : zRes f g a b) (h0 : 0 < f 2 0) : ∃ T, zTw (f 2 0).toNat (zVd f g (f 2 0).toNat) T ∧ zRS g (f 2 0).toNat f g a b T := by
  have i1 := hI.1
  have i3 := hI.2.2.1
  rcases h with h | ⟨-, -, hR, n, hn1, hn2, hn3, hrs⟩
  · omega
  · refine ⟨_, ?_, hrs⟩
    have hd : ∀ i j : Nat, i < (f 2 0).toNat → j < (f 2 0).toNat → g 3 i = g 3 j → i = j := fun i j hi hj u => by
      have := hD.di i j (by omega) (by omega) (by omega) (by omega) u
      omega
    have hsv : ∀ v ∈ (-1 :: zVs g n), ∀ e, e ∈ zSuf f g v (f 2 0).toNat 0 0 0 ↔ zVd f g (f 2 0).toNat e ∧ zVo g (zCs e) 7 (f 2 0).toNat = v := by
      intro v hv e
      refine zSuf_vd hI hd ?_ e
      rcases hn3 with ⟨rfl, hno⟩ | ⟨x, x1, x2, x3, -⟩
      · refine Or.inl ⟨?_, fun i hi => hno i (by omega) (by omega)⟩
        simp only [zVs, List.range_zero, List.map_nil, List.mem_singleton] at hv
        exact hv
      · obtain ⟨i, rfl⟩ := Int.eq_ofNat_of_zero_le x1
        exact Or.inr ⟨i, by omega, x3⟩
    have := zOne_tw hI rfl (-1 :: zVs g n) (fun _ => False) [] (fun e he => he.2) (fun _ _ u => u) (List.nodup_cons.mpr ⟨fun u => by have := hn2 _ u; omega, hn1⟩) hsv
    refine zTw_c (fun e => ⟨fun u => u.1, fun u => ⟨u, Or.inr ?_⟩⟩) this
    by_cases c : zVo g (zCs e) 7 (f 2 0).toNat = -1
    · rw [c]
      simp
    · refine List.mem_cons_of_mem _ ?_
      rcases hn3 with ⟨rfl, hno⟩ | ⟨x, x1, x2, x3, hcov⟩
      · exact absurd (zVo_no _ (fun j hj => hno j (by omega) (by omega))) c
      · obtain ⟨i, rfl⟩ := Int.eq_ofNat_of_zero_le x1
        have hi : i < (f 2 0).toNat := by omega
        rw [zVo_at x3 (f 2 0).toNat hi (fun j hj u => hd j i hj hi (by omega))] at c ⊢
        split at c
        · exact absurd rfl c
        · rename_i c4
          rw [if_neg c4]
          obtain ⟨v1, v2, v3⟩ := zVl_can.mp (u.2.1 i hi).1
          rcases v3 with w | w
          · exact absurd w.1 c4
          · have hlt := zNa_lt hI (show 0 < zNa g (zPa g (zCs e) i).1 (zPa g (zCs e) i).2.1 by omega)
            have hll := zPl_lt hI v2.1.1 (show 0 < zPl g (zPa g (zCs e) i).1 by have := v2.2.1; omega)
            have hp := zPl_r hI (zPa g (zCs e) i).1
            have v21 := v2.1
            have v22 := v2.2
            refine hcov _ ⟨(zPa g (zCs e) i).1, (zPa g (zCs e) i).2.1, zCs e i, v2.1.1, v2.2.1, hlt, Or.inl hll, ?_, v1.1, w.2.1, by rw [w.2.2]; exact x3, rfl⟩
            refine ((hR _ ?_ ?_).2).mpr ⟨i, by omega, zRe_pa hI i (fun j hj => u.2.1 j (by omega))⟩
            · unfold zSt
              omega
            · unfold zSt
              omega
end Eq2

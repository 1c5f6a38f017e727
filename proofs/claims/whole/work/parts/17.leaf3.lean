/-- zeros in a row; a row copied -/
def am_fz (g : Nat → Int → Int) (c : Nat) (n : Int) : Nat → Int → Int := fun x i => if x = c ∧ 0 ≤ i ∧ i < n then 0 else g x i
def am_cp (g : Nat → Int → Int) (c d : Nat) (n : Int) : Nat → Int → Int := fun x i => if x = c ∧ 0 ≤ i ∧ i < n then g d i else g x i
theorem am_fz_0 (g : Nat → Int → Int) (c : Nat) : am_fz g c 0 = g := by
  funext x i
  unfold am_fz
  rw [if_neg (by omega)]
theorem am_fz_s (g : Nat → Int → Int) (c : Nat) {n : Int} (h : 0 ≤ n) : am_u3 (am_fz g c n) c n 0 = am_fz g c (n + 1) := by
  funext x i
  unfold am_u3 am_fz
  by_cases h1 : x = c
  · by_cases h2 : i = n
    · rw [if_pos h1, if_pos h2, if_pos (by omega)]
    · rw [if_pos h1, if_neg h2]
      by_cases h3 : 0 ≤ i ∧ i < n
      · rw [if_pos ⟨h1, h3⟩, if_pos (by omega)]
      · rw [if_neg (by omega), if_neg (by omega)]
  · rw [if_neg h1, if_neg (by omega), if_neg (by omega)]
theorem am_cp_0 (g : Nat → Int → Int) (c d : Nat) : am_cp g c d 0 = g := by
  funext x i
  unfold am_cp
  rw [if_neg (by omega)]
theorem am_cp_s (g : Nat → Int → Int) (c d : Nat) {n : Int} (h : 0 ≤ n) : am_u3 (am_cp g c d n) c n (g d n) = am_cp g c d (n + 1) := by
  funext x i
  unfold am_u3 am_cp
  by_cases h1 : x = c
  · by_cases h2 : i = n
    · rw [if_pos h1, if_pos h2, if_pos (by omega), h2]
    · rw [if_pos h1, if_neg h2]
      by_cases h3 : 0 ≤ i ∧ i < n
      · rw [if_pos ⟨h1, h3⟩, if_pos (by omega)]
      · rw [if_neg (by omega), if_neg (by omega)]
  · rw [if_neg h1, if_neg (by omega), if_neg (by omega)]
theorem am_u3_comm (g : Nat → Int → Int) {c d : Nat} {i j x y : Int} (h : c ≠ d) : am_u3 (am_u3 g c i x) d j y = am_u3 (am_u3 g d j y) c i x := by
  funext a b
  unfold am_u3
  by_cases h1 : a = c
  · rw [if_pos h1, if_neg (by omega), if_pos h1]
    split
    · rfl
    · rw [if_neg (by omega)]
  · rw [if_neg h1]
    split
    · split <;> simp_all
    · simp_all
def zFit (f : Nat → Nat → Int) (g : Nat → Int → Int) (k v w : Int) : Prop := ∃ i, 0 ≤ i ∧ i < f 18 0 ∧ g 19 i = k ∧ g 20 i = v ∧ g 21 i = w
section Leaf3
variable {l : Launch} {dC : Nat → ClassId} {dI : Nat → Nat → Nat} {tc : Nat → ClassId} {f : Nat → Nat → Int} {g : Nat → Int → Int} {a b c : Nat}
set_option maxRecDepth 100000 in
set_option maxHeartbeats 4000000 in
theorem ct_holds (x y z : Int) (hc : 0 ≤ f 18 0 ∧ f 18 0 ≤ 60) : am_Ct l dC dI tc mm3_holds 0 58 [(.inr (.inr (some 18))), .inl x, .inl y, .inl z] (58, f, g, pr_r a b c) (fun r s => s = (58, f, g, pr_r a b c) ∧ ((r = some (.inl 1) ∧ zFit f g x y z) ∨ (r = some (.inl 0) ∧ ¬ zFit f g x y z))) := by
  have loop : ∀ (n : Nat) (i : Int), (f 18 0 - i).toNat ≤ n → 0 ≤ i → (∀ q, 0 ≤ q → q < i → ¬ (g 19 q = x ∧ g 20 q = y ∧ g 21 q = z)) → am_wp l dC dI tc mm3_holds 0 58 58 (fun r s => s = (58, f, g, pr_r a b c) ∧ ((r = some (.inl 1) ∧ zFit f g x y z) ∨ (r = some (.inl 0) ∧ ¬ zFit f g x y z))) 2 [some (.inr (.inr (some 18))), some (.inl x), some (.inl y), some (.inl z), some (.inl i)] [] (58, f, g, pr_r a b c) := by
    intro n
    induction n with
    | zero =>
      intro i hn hi hq
      iterate 3 (refine am_go rfl (by first | exact True.intro | omega) ?_)
      refine am_if rfl (fun c1 => ?_) (fun c1 => ?_)
      · (refine am_go rfl (by first | exact True.intro | omega) ?_)
        refine am_zret rfl rfl (Or.inl rfl) rfl ?_
        exact ⟨rfl, Or.inr ⟨rfl, fun ⟨q, q1, q2, q3⟩ => hq q q1 (by omega) q3⟩⟩
      · omega
    | succ n ih =>
      intro i hn hi hq
      have next : ¬ (g 19 i = x ∧ g 20 i = y ∧ g 21 i = z) → am_wp l dC dI tc mm3_holds 0 58 58 (fun r s => s = (58, f, g, pr_r a b c) ∧ ((r = some (.inl 1) ∧ zFit f g x y z) ∨ (r = some (.inl 0) ∧ ¬ zFit f g x y z))) 2 [some (.inr (.inr (some 18))), some (.inl x), some (.inl y), some (.inl z), some (.inl (i + 1))] [] (58, f, g, pr_r a b c) ∨ f 18 0 ≤ i := by
        intro hne
        by_cases hf : f 18 0 ≤ i
        · exact Or.inr hf
        · refine Or.inl (ih (i + 1) (by omega) (by omega) (fun q h1 h2 => ?_))
          by_cases e : q = i
          · subst e
            exact hne
          · exact hq q h1 (by omega)
      iterate 3 (refine am_go rfl (by first | exact True.intro | omega) ?_)
      refine am_if rfl (fun c1 => ?_) (fun c1 => ?_)
      · (refine am_go rfl (by first | exact True.intro | omega) ?_)
        refine am_zret rfl rfl (Or.inl rfl) rfl ?_
        exact ⟨rfl, Or.inr ⟨rfl, fun ⟨q, q1, q2, q3⟩ => hq q q1 (by omega) q3⟩⟩
      · iterate 2 (refine am_go rfl (by first | exact True.intro | omega) ?_)
        refine am_if rfl (fun c2 => ?_) (fun c2 => ?_)
        · omega
        · iterate 5 (refine am_go rfl (by first | exact True.intro | omega) ?_)
          refine am_if rfl (fun c3 => ?_) (fun c3 => ?_)
          · iterate 2 (refine am_go rfl (by first | exact True.intro | omega) ?_)
            exact (next (fun h => c3 h.1)).resolve_right (by omega)
          · iterate 5 (refine am_go rfl (by first | exact True.intro | omega) ?_)
            refine am_if rfl (fun c4 => ?_) (fun c4 => ?_)
            · iterate 2 (refine am_go rfl (by first | exact True.intro | omega) ?_)
              exact (next (fun h => c4 h.2.1)).resolve_right (by omega)
            · iterate 5 (refine am_go rfl (by first | exact True.intro | omega) ?_)
              refine am_if rfl (fun c5 => ?_) (fun c5 => ?_)
              · iterate 2 (refine am_go rfl (by first | exact True.intro | omega) ?_)
                exact (next (fun h => c5 h.2.2)).resolve_right (by omega)
              · (refine am_go rfl (by first | exact True.intro | omega) ?_)
                refine am_zret rfl rfl (Or.inr rfl) rfl ?_
                exact ⟨rfl, Or.inl ⟨rfl, i, hi, by omega, by omega, by omega, by omega⟩⟩
  refine am_enter ok_3_holds rfl (by decide) (Nat.le_of_ble_eq_true rfl) rfl ?_
  iterate 2 (refine am_go rfl (by first | exact True.intro | omega) ?_)
  exact loop _ 0 (Nat.le_refl _) (by omega) (fun q h1 h2 => by omega)
set_option maxRecDepth 100000 in
set_option maxHeartbeats 4000000 in
theorem ct_padd (x y z : Int) (hc : 0 ≤ f 18 0 ∧ f 18 0 ≤ 60) : am_Ct l dC dI tc mm3_add 1 58 [(.inr (.inr (some 18))), .inl x, .inl y, .inl z] (58, f, g, pr_r a b c) (fun r s => (r = some (.inl 0) ∧ (60 ≤ f 18 0 ∨ zFit f g x y z) ∧ s = (58, f, g, pr_r a b c)) ∨ (r = some (.inl 1) ∧ ¬ (60 ≤ f 18 0 ∨ zFit f g x y z) ∧ s = (58, am_u1 f 18 0 (f 18 0 + 1), am_u3 (am_u3 (am_u3 g 19 (f 18 0) x) 20 (f 18 0) y) 21 (f 18 0) z, pr_r a b c))) := by
  refine am_enter ok_3_add rfl (by decide) (Nat.le_of_ble_eq_true rfl) rfl ?_
  iterate 3 (refine am_go rfl (by first | exact True.intro | omega) ?_)
  refine am_if rfl (fun c1 => ?_) (fun c1 => ?_)
  · (refine am_go rfl (by first | exact True.intro | omega) ?_)
    refine am_zret rfl rfl (Or.inl rfl) rfl ?_
    exact Or.inl ⟨rfl, Or.inl c1, rfl⟩
  · iterate 4 (refine am_go rfl (by first | exact True.intro | omega) ?_)
    refine am_call rfl (ct_holds x y z hc) (by decide) (Nat.le_of_ble_eq_true rfl) (Nat.le_of_ble_eq_true rfl) (Nat.le_of_ble_eq_true rfl) (fun rv s q => ?_)
    obtain ⟨rfl, ⟨rfl, hz⟩ | ⟨rfl, hz⟩⟩ := q
    · refine am_if rfl (fun c2 => ?_) (fun c2 => ?_)
      · omega
      · (refine am_go rfl (by first | exact True.intro | omega) ?_)
        refine am_zret rfl rfl (Or.inl rfl) rfl ?_
        exact Or.inl ⟨rfl, Or.inr hz, rfl⟩
    · refine am_if rfl (fun c2 => ?_) (fun c2 => ?_)
      · iterate 25 (refine am_go rfl (by first | exact True.intro | omega) ?_)
        refine am_zret rfl rfl (Or.inr rfl) rfl ?_
        exact Or.inr ⟨rfl, fun q => q.elim c1 hz, rfl⟩
      · omega
set_option maxRecDepth 100000 in
set_option maxHeartbeats 4000000 in
theorem ct_removeAll : am_Ct l dC dI tc mm2_removeAll 0 58 [(.inr (.inr (some 12)))] (58, f, g, pr_r a b c) (fun r s => r = none ∧ s = (58, am_u1 f 12 0 0, am_fz (am_fz g 13 6) 14 30, pr_r a b c)) := by
  have loop2 : ∀ (n : Nat) (i : Int), (30 - i).toNat ≤ n → 0 ≤ i → i ≤ 30 → am_wp l dC dI tc mm2_removeAll 0 58 58 (fun r s => r = none ∧ s = (58, am_u1 f 12 0 0, am_fz (am_fz g 13 6) 14 30, pr_r a b c)) 19 [some (.inr (.inr (some 12))), some (.inl i)] [] (58, am_u1 f 12 0 0, am_fz (am_fz g 13 6) 14 i, pr_r a b c) := by
    intro n
    induction n with
    | zero =>
      intro i hn hi h30
      have e : i = 30 := by omega
      subst e
      iterate 4 (refine am_go rfl (by first | exact True.intro | omega) ?_)
      refine am_if rfl (fun c1 => ?_) (fun c1 => ?_)
      · refine am_vret (x := 0) rfl rfl rfl ⟨rfl, rfl⟩
      · omega
    | succ n ih =>
      intro i hn hi h30
      iterate 4 (refine am_go rfl (by first | exact True.intro | omega) ?_)
      refine am_if rfl (fun c1 => ?_) (fun c1 => ?_)
      · have e : i = 30 := by omega
        subst e
        refine am_vret (x := 0) rfl rfl rfl ⟨rfl, rfl⟩
      · iterate 7 (refine am_go rfl (by first | exact True.intro | omega) ?_)
        rw [am_fz_s _ _ hi]
        exact ih (i + 1) (by omega) (by omega) (by omega)
  have loop1 : ∀ (n : Nat) (i : Int), (6 - i).toNat ≤ n → 0 ≤ i → i ≤ 6 → am_wp l dC dI tc mm2_removeAll 0 58 58 (fun r s => r = none ∧ s = (58, am_u1 f 12 0 0, am_fz (am_fz g 13 6) 14 30, pr_r a b c)) 5 [some (.inr (.inr (some 12))), some (.inl i)] [] (58, am_u1 f 12 0 0, am_fz g 13 i, pr_r a b c) := by
    intro n
    induction n with
    | zero =>
      intro i hn hi h30
      have e : i = 6 := by omega
      subst e
      iterate 4 (refine am_go rfl (by first | exact True.intro | omega) ?_)
      refine am_if rfl (fun c1 => ?_) (fun c1 => ?_)
      · iterate 2 (refine am_go rfl (by first | exact True.intro | omega) ?_)
        have := loop2 _ 0 (Nat.le_refl _) (by omega) (by omega)
        rw [am_fz_0] at this
        exact this
      · omega
    | succ n ih =>
      intro i hn hi h30
      iterate 4 (refine am_go rfl (by first | exact True.intro | omega) ?_)
      refine am_if rfl (fun c1 => ?_) (fun c1 => ?_)
      · have e : i = 6 := by omega
        subst e
        iterate 2 (refine am_go rfl (by first | exact True.intro | omega) ?_)
        have := loop2 _ 0 (Nat.le_refl _) (by omega) (by omega)
        rw [am_fz_0] at this
        exact this
      · iterate 7 (refine am_go rfl (by first | exact True.intro | omega) ?_)
        rw [am_fz_s _ _ hi]
        exact ih (i + 1) (by omega) (by omega) (by omega)
  refine am_enter ok_2_removeAll rfl (by decide) (Nat.le_of_ble_eq_true rfl) rfl ?_
  iterate 5 (refine am_go rfl (by first | exact True.intro | omega) ?_)
  have := loop1 _ 0 (Nat.le_refl _) (by omega) (by omega)
  rw [am_fz_0] at this
  exact this
set_option maxRecDepth 100000 in
set_option maxHeartbeats 4000000 in
theorem ct_empty : am_Ct l dC dI tc mm1_empty 0 58 [(.inr (.inr (some 7)))] (58, f, g, pr_r a b c) (fun r s => r = none ∧ s = (58, am_u1 (am_u1 (am_u1 (am_u1 f 7 0 0) 7 1 0) 7 6 0) 7 7 (-1), am_fz g 11 9, pr_r a b c)) := by
  have loop1 : ∀ (n : Nat) (i : Int), (9 - i).toNat ≤ n → 0 ≤ i → i ≤ 9 → am_wp l dC dI tc mm1_empty 0 58 58 (fun r s => r = none ∧ s = (58, am_u1 (am_u1 (am_u1 (am_u1 f 7 0 0) 7 1 0) 7 6 0) 7 7 (-1), am_fz g 11 9, pr_r a b c)) 14 [some (.inr (.inr (some 7))), some (.inl i)] [] (58, am_u1 (am_u1 (am_u1 (am_u1 f 7 0 0) 7 1 0) 7 6 0) 7 7 (-1), am_fz g 11 i, pr_r a b c) := by
    intro n
    induction n with
    | zero =>
      intro i hn hi h30
      have e : i = 9 := by omega
      subst e
      iterate 4 (refine am_go rfl (by first | exact True.intro | omega) ?_)
      refine am_if rfl (fun c1 => ?_) (fun c1 => ?_)
      · refine am_vret (x := 0) rfl rfl rfl ⟨rfl, rfl⟩
      · omega
    | succ n ih =>
      intro i hn hi h30
      iterate 4 (refine am_go rfl (by first | exact True.intro | omega) ?_)
      refine am_if rfl (fun c1 => ?_) (fun c1 => ?_)
      · have e : i = 9 := by omega
        subst e
        refine am_vret (x := 0) rfl rfl rfl ⟨rfl, rfl⟩
      · iterate 7 (refine am_go rfl (by first | exact True.intro | omega) ?_)
        rw [am_fz_s _ _ hi]
        exact ih (i + 1) (by omega) (by omega) (by omega)
  refine am_enter ok_1_empty rfl (by decide) (Nat.le_of_ble_eq_true rfl) rfl ?_
  iterate 14 (refine am_go rfl (by first | exact True.intro | omega) ?_)
  have := loop1 _ 0 (Nat.le_refl _) (by omega) (by omega)
  rw [am_fz_0] at this
  exact this
end Leaf3

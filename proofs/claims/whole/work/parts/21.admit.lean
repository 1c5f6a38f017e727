/-! which reading is before which; the candidate is admitted -/
theorem pr_ne {a b c a' b' c' x y : Nat} (h : x ≠ 22) : pr_r a b c x y = pr_r a' b' c' x y := by
  match x, h with
  | 0, _ => rfl
  | 1, _ => rfl
  | 2, _ => rfl
  | 3, _ => rfl
  | 4, _ => rfl
  | 5, _ => rfl
  | 6, _ => rfl
  | 7, _ => rfl
  | 8, _ => rfl
  | 9, _ => rfl
  | 10, _ => rfl
  | 11, _ => rfl
  | 12, _ => rfl
  | 13, _ => rfl
  | 14, _ => rfl
  | 15, _ => rfl
  | 16, _ => rfl
  | 17, _ => rfl
  | 18, _ => rfl
  | 19, _ => rfl
  | 20, _ => rfl
  | 21, _ => rfl
  | 22, h => exact absurd rfl h
  | n + 23, _ => rfl
theorem pr_u0 (a b c q : Nat) : am_u2 (pr_r a b c) 22 0 (some q) = pr_r q b c := by
  funext x y
  unfold am_u2
  split
  · rename_i h
    subst h
    match y with
    | 0 => rfl
    | y + 1 => rfl
  · rename_i h
    exact pr_ne h
theorem pr_u1 (a b c q : Nat) : am_u2 (pr_r a b c) 22 1 (some q) = pr_r a q c := by
  funext x y
  unfold am_u2
  split
  · rename_i h
    subst h
    match y with
    | 0 => rfl
    | 1 => rfl
    | y + 2 => rfl
  · rename_i h
    exact pr_ne h
theorem pr_u3 (a b c q : Nat) : am_u2 (pr_r a b c) 22 3 (some q) = pr_r a b q := by
  funext x y
  unfold am_u2
  split
  · rename_i h
    subst h
    match y with
    | 0 => rfl
    | 1 => rfl
    | 2 => rfl
    | 3 => rfl
    | y + 4 => rfl
  · rename_i h
    exact pr_ne h
def zLx (g : Nat → Int → Int) (p q : Nat) (n : Int) : Prop := ∃ k, 0 ≤ k ∧ k < n ∧ (∀ j, 0 ≤ j → j < k → g (p + 1) j = g (q + 1) j) ∧ g (p + 1) k < g (q + 1) k
def zBf (f : Nat → Nat → Int) (g : Nat → Int → Int) (p q : Nat) : Prop := f p 1 < f q 1 ∨ (f p 1 = f q 1 ∧ zLx g p q (f p 2))
/-- the three readings are the three cells -/
def zPm (a b c : Nat) : Prop := (a = 23 ∧ b = 26 ∧ c = 29) ∨ (a = 23 ∧ b = 29 ∧ c = 26) ∨ (a = 26 ∧ b = 23 ∧ c = 29) ∨ (a = 26 ∧ b = 29 ∧ c = 23) ∨ (a = 29 ∧ b = 23 ∧ c = 26) ∨ (a = 29 ∧ b = 26 ∧ c = 23)
section Adm
variable {l : Launch} {dC : Nat → ClassId} {dI : Nat → Nat → Nat} {tc : Nat → ClassId} {f : Nat → Nat → Int} {g : Nat → Int → Int} {a b c : Nat}
set_option maxRecDepth 100000 in
set_option maxHeartbeats 4000000 in
theorem ct_before23_26 (h1 : 0 ≤ f 23 2 ∧ f 23 2 ≤ 9) (h2 : f 23 2 = f 26 2) : am_Ct l dC dI tc mm5_isBefore 0 58 [(.inr (.inr (some 23))), (.inr (.inr (some 26)))] (58, f, g, pr_r a b c) (fun r s => s = (58, f, g, pr_r a b c) ∧ ((r = some (.inl 1) ∧ zBf f g 23 26) ∨ (r = some (.inl 0) ∧ ¬ zBf f g 23 26))) := by
  have loop : f 23 1 = f 26 1 → ∀ (n : Nat) (i : Int), (f 23 2 - i).toNat ≤ n → 0 ≤ i → (∀ j, 0 ≤ j → j < i → g (23 + 1) j = g (26 + 1) j) → am_wp l dC dI tc mm5_isBefore 0 58 58 (fun r s => s = (58, f, g, pr_r a b c) ∧ ((r = some (.inl 1) ∧ zBf f g 23 26) ∨ (r = some (.inl 0) ∧ ¬ zBf f g 23 26))) 16 [some (.inr (.inr (some 23))), some (.inr (.inr (some 26))), some (.inl i)] [] (58, f, g, pr_r a b c) := by
    intro ht n
    induction n with
    | zero =>
      intro i hn hi hj
      iterate 3 (refine am_go rfl (by first | exact True.intro | omega | exact ⟨by decide, Nat.le_of_ble_eq_true rfl, Nat.le_of_ble_eq_true rfl⟩ | exact ⟨by decide, Nat.le_of_ble_eq_true rfl⟩) ?_)
      refine am_if rfl (fun c1 => ?_) (fun c1 => ?_)
      · (refine am_go rfl (by first | exact True.intro | omega | exact ⟨by decide, Nat.le_of_ble_eq_true rfl, Nat.le_of_ble_eq_true rfl⟩ | exact ⟨by decide, Nat.le_of_ble_eq_true rfl⟩) ?_)
        refine am_zret rfl rfl (Or.inl rfl) rfl ⟨rfl, Or.inr ⟨rfl, ?_⟩⟩
        rintro (u | ⟨-, k, k1, k2, k3, k4⟩)
        · omega
        · have := hj k k1 (by omega)
          omega
      · omega
    | succ n ih =>
      intro i hn hi hj
      iterate 3 (refine am_go rfl (by first | exact True.intro | omega | exact ⟨by decide, Nat.le_of_ble_eq_true rfl, Nat.le_of_ble_eq_true rfl⟩ | exact ⟨by decide, Nat.le_of_ble_eq_true rfl⟩) ?_)
      refine am_if rfl (fun c1 => ?_) (fun c1 => ?_)
      · (refine am_go rfl (by first | exact True.intro | omega | exact ⟨by decide, Nat.le_of_ble_eq_true rfl, Nat.le_of_ble_eq_true rfl⟩ | exact ⟨by decide, Nat.le_of_ble_eq_true rfl⟩) ?_)
        refine am_zret rfl rfl (Or.inl rfl) rfl ⟨rfl, Or.inr ⟨rfl, ?_⟩⟩
        rintro (u | ⟨-, k, k1, k2, k3, k4⟩)
        · omega
        · have := hj k k1 (by omega)
          omega
      · iterate 3 (refine am_go rfl (by first | exact True.intro | omega | exact ⟨by decide, Nat.le_of_ble_eq_true rfl, Nat.le_of_ble_eq_true rfl⟩ | exact ⟨by decide, Nat.le_of_ble_eq_true rfl⟩) ?_)
        refine am_if rfl (fun c2 => ?_) (fun c2 => ?_)
        · omega
        · iterate 8 (refine am_go rfl (by first | exact True.intro | omega | exact ⟨by decide, Nat.le_of_ble_eq_true rfl, Nat.le_of_ble_eq_true rfl⟩ | exact ⟨by decide, Nat.le_of_ble_eq_true rfl⟩) ?_)
          refine am_if rfl (fun c3 => ?_) (fun c3 => ?_)
          · iterate 2 (refine am_go rfl (by first | exact True.intro | omega | exact ⟨by decide, Nat.le_of_ble_eq_true rfl, Nat.le_of_ble_eq_true rfl⟩ | exact ⟨by decide, Nat.le_of_ble_eq_true rfl⟩) ?_)
            refine ih (i + 1) (by omega) (by omega) (fun j j1 j2 => ?_)
            by_cases e : j = i
            · subst e
              exact c3
            · exact hj j j1 (by omega)
          · have c3 : ¬ g (23 + 1) i = g (26 + 1) i := c3
            iterate 8 (refine am_go rfl (by first | exact True.intro | omega | exact ⟨by decide, Nat.le_of_ble_eq_true rfl, Nat.le_of_ble_eq_true rfl⟩ | exact ⟨by decide, Nat.le_of_ble_eq_true rfl⟩) ?_)
            refine am_if rfl (fun c4 => ?_) (fun c4 => ?_)
            · have c4 : g (26 + 1) i ≤ g (23 + 1) i := c4
              (refine am_go rfl (by first | exact True.intro | omega | exact ⟨by decide, Nat.le_of_ble_eq_true rfl, Nat.le_of_ble_eq_true rfl⟩ | exact ⟨by decide, Nat.le_of_ble_eq_true rfl⟩) ?_)
              refine am_zret rfl rfl (Or.inl rfl) rfl ⟨rfl, Or.inr ⟨rfl, ?_⟩⟩
              rintro (u | ⟨-, k, k1, k2, k3, k4⟩)
              · omega
              · rcases Int.lt_trichotomy k i with w | w | w
                · have := hj k k1 w
                  omega
                · subst w
                  omega
                · exact c3 (k3 i hi w)
            · have c4 : ¬ g (26 + 1) i ≤ g (23 + 1) i := c4
              iterate 2 (refine am_go rfl (by first | exact True.intro | omega | exact ⟨by decide, Nat.le_of_ble_eq_true rfl, Nat.le_of_ble_eq_true rfl⟩ | exact ⟨by decide, Nat.le_of_ble_eq_true rfl⟩) ?_)
              refine am_zret rfl rfl (Or.inr rfl) rfl ⟨rfl, Or.inl ⟨rfl, Or.inr ⟨ht, i, hi, by omega, hj, by omega⟩⟩⟩
  refine am_enter ok_5_isBefore rfl (by decide) (Nat.le_of_ble_eq_true rfl) rfl ?_
  iterate 4 (refine am_go rfl (by first | exact True.intro | omega | exact ⟨by decide, Nat.le_of_ble_eq_true rfl, Nat.le_of_ble_eq_true rfl⟩ | exact ⟨by decide, Nat.le_of_ble_eq_true rfl⟩) ?_)
  refine am_if rfl (fun c1 => ?_) (fun c1 => ?_)
  · iterate 2 (refine am_go rfl (by first | exact True.intro | omega | exact ⟨by decide, Nat.le_of_ble_eq_true rfl, Nat.le_of_ble_eq_true rfl⟩ | exact ⟨by decide, Nat.le_of_ble_eq_true rfl⟩) ?_)
    exact loop c1 _ 0 (Nat.le_refl _) (by omega) (fun j j1 j2 => by omega)
  · iterate 4 (refine am_go rfl (by first | exact True.intro | omega | exact ⟨by decide, Nat.le_of_ble_eq_true rfl, Nat.le_of_ble_eq_true rfl⟩ | exact ⟨by decide, Nat.le_of_ble_eq_true rfl⟩) ?_)
    refine am_if rfl (fun c2 => ?_) (fun c2 => ?_)
    · (refine am_go rfl (by first | exact True.intro | omega | exact ⟨by decide, Nat.le_of_ble_eq_true rfl, Nat.le_of_ble_eq_true rfl⟩ | exact ⟨by decide, Nat.le_of_ble_eq_true rfl⟩) ?_)
      refine am_zret rfl rfl (Or.inl rfl) rfl ⟨rfl, Or.inr ⟨rfl, ?_⟩⟩
      rintro (u | u)
      · omega
      · exact c1 u.1
    · iterate 2 (refine am_go rfl (by first | exact True.intro | omega | exact ⟨by decide, Nat.le_of_ble_eq_true rfl, Nat.le_of_ble_eq_true rfl⟩ | exact ⟨by decide, Nat.le_of_ble_eq_true rfl⟩) ?_)
      exact am_zret rfl rfl (Or.inr rfl) rfl ⟨rfl, Or.inl ⟨rfl, Or.inl (by omega)⟩⟩
set_option maxRecDepth 100000 in
set_option maxHeartbeats 4000000 in
theorem ct_before23_29 (h1 : 0 ≤ f 23 2 ∧ f 23 2 ≤ 9) (h2 : f 23 2 = f 29 2) : am_Ct l dC dI tc mm5_isBefore 0 58 [(.inr (.inr (some 23))), (.inr (.inr (some 29)))] (58, f, g, pr_r a b c) (fun r s => s = (58, f, g, pr_r a b c) ∧ ((r = some (.inl 1) ∧ zBf f g 23 29) ∨ (r = some (.inl 0) ∧ ¬ zBf f g 23 29))) := by
  have loop : f 23 1 = f 29 1 → ∀ (n : Nat) (i : Int), (f 23 2 - i).toNat ≤ n → 0 ≤ i → (∀ j, 0 ≤ j → j < i → g (23 + 1) j = g (29 + 1) j) → am_wp l dC dI tc mm5_isBefore 0 58 58 (fun r s => s = (58, f, g, pr_r a b c) ∧ ((r = some (.inl 1) ∧ zBf f g 23 29) ∨ (r = some (.inl 0) ∧ ¬ zBf f g 23 29))) 16 [some (.inr (.inr (some 23))), some (.inr (.inr (some 29))), some (.inl i)] [] (58, f, g, pr_r a b c) := by
    intro ht n
    induction n with
    | zero =>
      intro i hn hi hj
      iterate 3 (refine am_go rfl (by first | exact True.intro | omega | exact ⟨by decide, Nat.le_of_ble_eq_true rfl, Nat.le_of_ble_eq_true rfl⟩ | exact ⟨by decide, Nat.le_of_ble_eq_true rfl⟩) ?_)
      refine am_if rfl (fun c1 => ?_) (fun c1 => ?_)
      · (refine am_go rfl (by first | exact True.intro | omega | exact ⟨by decide, Nat.le_of_ble_eq_true rfl, Nat.le_of_ble_eq_true rfl⟩ | exact ⟨by decide, Nat.le_of_ble_eq_true rfl⟩) ?_)
        refine am_zret rfl rfl (Or.inl rfl) rfl ⟨rfl, Or.inr ⟨rfl, ?_⟩⟩
        rintro (u | ⟨-, k, k1, k2, k3, k4⟩)
        · omega
        · have := hj k k1 (by omega)
          omega
      · omega
    | succ n ih =>
      intro i hn hi hj
      iterate 3 (refine am_go rfl (by first | exact True.intro | omega | exact ⟨by decide, Nat.le_of_ble_eq_true rfl, Nat.le_of_ble_eq_true rfl⟩ | exact ⟨by decide, Nat.le_of_ble_eq_true rfl⟩) ?_)
      refine am_if rfl (fun c1 => ?_) (fun c1 => ?_)
      · (refine am_go rfl (by first | exact True.intro | omega | exact ⟨by decide, Nat.le_of_ble_eq_true rfl, Nat.le_of_ble_eq_true rfl⟩ | exact ⟨by decide, Nat.le_of_ble_eq_true rfl⟩) ?_)
        refine am_zret rfl rfl (Or.inl rfl) rfl ⟨rfl, Or.inr ⟨rfl, ?_⟩⟩
        rintro (u | ⟨-, k, k1, k2, k3, k4⟩)
        · omega
        · have := hj k k1 (by omega)
          omega
      · iterate 3 (refine am_go rfl (by first | exact True.intro | omega | exact ⟨by decide, Nat.le_of_ble_eq_true rfl, Nat.le_of_ble_eq_true rfl⟩ | exact ⟨by decide, Nat.le_of_ble_eq_true rfl⟩) ?_)
        refine am_if rfl (fun c2 => ?_) (fun c2 => ?_)
        · omega
        · iterate 8 (refine am_go rfl (by first | exact True.intro | omega | exact ⟨by decide, Nat.le_of_ble_eq_true rfl, Nat.le_of_ble_eq_true rfl⟩ | exact ⟨by decide, Nat.le_of_ble_eq_true rfl⟩) ?_)
          refine am_if rfl (fun c3 => ?_) (fun c3 => ?_)
          · iterate 2 (refine am_go rfl (by first | exact True.intro | omega | exact ⟨by decide, Nat.le_of_ble_eq_true rfl, Nat.le_of_ble_eq_true rfl⟩ | exact ⟨by decide, Nat.le_of_ble_eq_true rfl⟩) ?_)
            refine ih (i + 1) (by omega) (by omega) (fun j j1 j2 => ?_)
            by_cases e : j = i
            · subst e
              exact c3
            · exact hj j j1 (by omega)
          · have c3 : ¬ g (23 + 1) i = g (29 + 1) i := c3
            iterate 8 (refine am_go rfl (by first | exact True.intro | omega | exact ⟨by decide, Nat.le_of_ble_eq_true rfl, Nat.le_of_ble_eq_true rfl⟩ | exact ⟨by decide, Nat.le_of_ble_eq_true rfl⟩) ?_)
            refine am_if rfl (fun c4 => ?_) (fun c4 => ?_)
            · have c4 : g (29 + 1) i ≤ g (23 + 1) i := c4
              (refine am_go rfl (by first | exact True.intro | omega | exact ⟨by decide, Nat.le_of_ble_eq_true rfl, Nat.le_of_ble_eq_true rfl⟩ | exact ⟨by decide, Nat.le_of_ble_eq_true rfl⟩) ?_)
              refine am_zret rfl rfl (Or.inl rfl) rfl ⟨rfl, Or.inr ⟨rfl, ?_⟩⟩
              rintro (u | ⟨-, k, k1, k2, k3, k4⟩)
              · omega
              · rcases Int.lt_trichotomy k i with w | w | w
                · have := hj k k1 w
                  omega
                · subst w
                  omega
                · exact c3 (k3 i hi w)
            · have c4 : ¬ g (29 + 1) i ≤ g (23 + 1) i := c4
              iterate 2 (refine am_go rfl (by first | exact True.intro | omega | exact ⟨by decide, Nat.le_of_ble_eq_true rfl, Nat.le_of_ble_eq_true rfl⟩ | exact ⟨by decide, Nat.le_of_ble_eq_true rfl⟩) ?_)
              refine am_zret rfl rfl (Or.inr rfl) rfl ⟨rfl, Or.inl ⟨rfl, Or.inr ⟨ht, i, hi, by omega, hj, by omega⟩⟩⟩
  refine am_enter ok_5_isBefore rfl (by decide) (Nat.le_of_ble_eq_true rfl) rfl ?_
  iterate 4 (refine am_go rfl (by first | exact True.intro | omega | exact ⟨by decide, Nat.le_of_ble_eq_true rfl, Nat.le_of_ble_eq_true rfl⟩ | exact ⟨by decide, Nat.le_of_ble_eq_true rfl⟩) ?_)
  refine am_if rfl (fun c1 => ?_) (fun c1 => ?_)
  · iterate 2 (refine am_go rfl (by first | exact True.intro | omega | exact ⟨by decide, Nat.le_of_ble_eq_true rfl, Nat.le_of_ble_eq_true rfl⟩ | exact ⟨by decide, Nat.le_of_ble_eq_true rfl⟩) ?_)
    exact loop c1 _ 0 (Nat.le_refl _) (by omega) (fun j j1 j2 => by omega)
  · iterate 4 (refine am_go rfl (by first | exact True.intro | omega | exact ⟨by decide, Nat.le_of_ble_eq_true rfl, Nat.le_of_ble_eq_true rfl⟩ | exact ⟨by decide, Nat.le_of_ble_eq_true rfl⟩) ?_)
    refine am_if rfl (fun c2 => ?_) (fun c2 => ?_)
    · (refine am_go rfl (by first | exact True.intro | omega | exact ⟨by decide, Nat.le_of_ble_eq_true rfl, Nat.le_of_ble_eq_true rfl⟩ | exact ⟨by decide, Nat.le_of_ble_eq_true rfl⟩) ?_)
      refine am_zret rfl rfl (Or.inl rfl) rfl ⟨rfl, Or.inr ⟨rfl, ?_⟩⟩
      rintro (u | u)
      · omega
      · exact c1 u.1
    · iterate 2 (refine am_go rfl (by first | exact True.intro | omega | exact ⟨by decide, Nat.le_of_ble_eq_true rfl, Nat.le_of_ble_eq_true rfl⟩ | exact ⟨by decide, Nat.le_of_ble_eq_true rfl⟩) ?_)
      exact am_zret rfl rfl (Or.inr rfl) rfl ⟨rfl, Or.inl ⟨rfl, Or.inl (by omega)⟩⟩
set_option maxRecDepth 100000 in
set_option maxHeartbeats 4000000 in
theorem ct_before26_23 (h1 : 0 ≤ f 26 2 ∧ f 26 2 ≤ 9) (h2 : f 26 2 = f 23 2) : am_Ct l dC dI tc mm5_isBefore 0 58 [(.inr (.inr (some 26))), (.inr (.inr (some 23)))] (58, f, g, pr_r a b c) (fun r s => s = (58, f, g, pr_r a b c) ∧ ((r = some (.inl 1) ∧ zBf f g 26 23) ∨ (r = some (.inl 0) ∧ ¬ zBf f g 26 23))) := by
  have loop : f 26 1 = f 23 1 → ∀ (n : Nat) (i : Int), (f 26 2 - i).toNat ≤ n → 0 ≤ i → (∀ j, 0 ≤ j → j < i → g (26 + 1) j = g (23 + 1) j) → am_wp l dC dI tc mm5_isBefore 0 58 58 (fun r s => s = (58, f, g, pr_r a b c) ∧ ((r = some (.inl 1) ∧ zBf f g 26 23) ∨ (r = some (.inl 0) ∧ ¬ zBf f g 26 23))) 16 [some (.inr (.inr (some 26))), some (.inr (.inr (some 23))), some (.inl i)] [] (58, f, g, pr_r a b c) := by
    intro ht n
    induction n with
    | zero =>
      intro i hn hi hj
      iterate 3 (refine am_go rfl (by first | exact True.intro | omega | exact ⟨by decide, Nat.le_of_ble_eq_true rfl, Nat.le_of_ble_eq_true rfl⟩ | exact ⟨by decide, Nat.le_of_ble_eq_true rfl⟩) ?_)
      refine am_if rfl (fun c1 => ?_) (fun c1 => ?_)
      · (refine am_go rfl (by first | exact True.intro | omega | exact ⟨by decide, Nat.le_of_ble_eq_true rfl, Nat.le_of_ble_eq_true rfl⟩ | exact ⟨by decide, Nat.le_of_ble_eq_true rfl⟩) ?_)
        refine am_zret rfl rfl (Or.inl rfl) rfl ⟨rfl, Or.inr ⟨rfl, ?_⟩⟩
        rintro (u | ⟨-, k, k1, k2, k3, k4⟩)
        · omega
        · have := hj k k1 (by omega)
          omega
      · omega
    | succ n ih =>
      intro i hn hi hj
      iterate 3 (refine am_go rfl (by first | exact True.intro | omega | exact ⟨by decide, Nat.le_of_ble_eq_true rfl, Nat.le_of_ble_eq_true rfl⟩ | exact ⟨by decide, Nat.le_of_ble_eq_true rfl⟩) ?_)
      refine am_if rfl (fun c1 => ?_) (fun c1 => ?_)
      · (refine am_go rfl (by first | exact True.intro | omega | exact ⟨by decide, Nat.le_of_ble_eq_true rfl, Nat.le_of_ble_eq_true rfl⟩ | exact ⟨by decide, Nat.le_of_ble_eq_true rfl⟩) ?_)
        refine am_zret rfl rfl (Or.inl rfl) rfl ⟨rfl, Or.inr ⟨rfl, ?_⟩⟩
        rintro (u | ⟨-, k, k1, k2, k3, k4⟩)
        · omega
        · have := hj k k1 (by omega)
          omega
      · iterate 3 (refine am_go rfl (by first | exact True.intro | omega | exact ⟨by decide, Nat.le_of_ble_eq_true rfl, Nat.le_of_ble_eq_true rfl⟩ | exact ⟨by decide, Nat.le_of_ble_eq_true rfl⟩) ?_)
        refine am_if rfl (fun c2 => ?_) (fun c2 => ?_)
        · omega
        · iterate 8 (refine am_go rfl (by first | exact True.intro | omega | exact ⟨by decide, Nat.le_of_ble_eq_true rfl, Nat.le_of_ble_eq_true rfl⟩ | exact ⟨by decide, Nat.le_of_ble_eq_true rfl⟩) ?_)
          refine am_if rfl (fun c3 => ?_) (fun c3 => ?_)
          · iterate 2 (refine am_go rfl (by first | exact True.intro | omega | exact ⟨by decide, Nat.le_of_ble_eq_true rfl, Nat.le_of_ble_eq_true rfl⟩ | exact ⟨by decide, Nat.le_of_ble_eq_true rfl⟩) ?_)
            refine ih (i + 1) (by omega) (by omega) (fun j j1 j2 => ?_)
            by_cases e : j = i
            · subst e
              exact c3
            · exact hj j j1 (by omega)
          · have c3 : ¬ g (26 + 1) i = g (23 + 1) i := c3
            iterate 8 (refine am_go rfl (by first | exact True.intro | omega | exact ⟨by decide, Nat.le_of_ble_eq_true rfl, Nat.le_of_ble_eq_true rfl⟩ | exact ⟨by decide, Nat.le_of_ble_eq_true rfl⟩) ?_)
            refine am_if rfl (fun c4 => ?_) (fun c4 => ?_)
            · have c4 : g (23 + 1) i ≤ g (26 + 1) i := c4
              (refine am_go rfl (by first | exact True.intro | omega | exact ⟨by decide, Nat.le_of_ble_eq_true rfl, Nat.le_of_ble_eq_true rfl⟩ | exact ⟨by decide, Nat.le_of_ble_eq_true rfl⟩) ?_)
              refine am_zret rfl rfl (Or.inl rfl) rfl ⟨rfl, Or.inr ⟨rfl, ?_⟩⟩
              rintro (u | ⟨-, k, k1, k2, k3, k4⟩)
              · omega
              · rcases Int.lt_trichotomy k i with w | w | w
                · have := hj k k1 w
                  omega
                · subst w
                  omega
                · exact c3 (k3 i hi w)
            · have c4 : ¬ g (23 + 1) i ≤ g (26 + 1) i := c4
              iterate 2 (refine am_go rfl (by first | exact True.intro | omega | exact ⟨by decide, Nat.le_of_ble_eq_true rfl, Nat.le_of_ble_eq_true rfl⟩ | exact ⟨by decide, Nat.le_of_ble_eq_true rfl⟩) ?_)
              refine am_zret rfl rfl (Or.inr rfl) rfl ⟨rfl, Or.inl ⟨rfl, Or.inr ⟨ht, i, hi, by omega, hj, by omega⟩⟩⟩
  refine am_enter ok_5_isBefore rfl (by decide) (Nat.le_of_ble_eq_true rfl) rfl ?_
  iterate 4 (refine am_go rfl (by first | exact True.intro | omega | exact ⟨by decide, Nat.le_of_ble_eq_true rfl, Nat.le_of_ble_eq_true rfl⟩ | exact ⟨by decide, Nat.le_of_ble_eq_true rfl⟩) ?_)
  refine am_if rfl (fun c1 => ?_) (fun c1 => ?_)
  · iterate 2 (refine am_go rfl (by first | exact True.intro | omega | exact ⟨by decide, Nat.le_of_ble_eq_true rfl, Nat.le_of_ble_eq_true rfl⟩ | exact ⟨by decide, Nat.le_of_ble_eq_true rfl⟩) ?_)
    exact loop c1 _ 0 (Nat.le_refl _) (by omega) (fun j j1 j2 => by omega)
  · iterate 4 (refine am_go rfl (by first | exact True.intro | omega | exact ⟨by decide, Nat.le_of_ble_eq_true rfl, Nat.le_of_ble_eq_true rfl⟩ | exact ⟨by decide, Nat.le_of_ble_eq_true rfl⟩) ?_)
    refine am_if rfl (fun c2 => ?_) (fun c2 => ?_)
    · (refine am_go rfl (by first | exact True.intro | omega | exact ⟨by decide, Nat.le_of_ble_eq_true rfl, Nat.le_of_ble_eq_true rfl⟩ | exact ⟨by decide, Nat.le_of_ble_eq_true rfl⟩) ?_)
      refine am_zret rfl rfl (Or.inl rfl) rfl ⟨rfl, Or.inr ⟨rfl, ?_⟩⟩
      rintro (u | u)
      · omega
      · exact c1 u.1
    · iterate 2 (refine am_go rfl (by first | exact True.intro | omega | exact ⟨by decide, Nat.le_of_ble_eq_true rfl, Nat.le_of_ble_eq_true rfl⟩ | exact ⟨by decide, Nat.le_of_ble_eq_true rfl⟩) ?_)
      exact am_zret rfl rfl (Or.inr rfl) rfl ⟨rfl, Or.inl ⟨rfl, Or.inl (by omega)⟩⟩
set_option maxRecDepth 100000 in
set_option maxHeartbeats 4000000 in
theorem ct_before26_29 (h1 : 0 ≤ f 26 2 ∧ f 26 2 ≤ 9) (h2 : f 26 2 = f 29 2) : am_Ct l dC dI tc mm5_isBefore 0 58 [(.inr (.inr (some 26))), (.inr (.inr (some 29)))] (58, f, g, pr_r a b c) (fun r s => s = (58, f, g, pr_r a b c) ∧ ((r = some (.inl 1) ∧ zBf f g 26 29) ∨ (r = some (.inl 0) ∧ ¬ zBf f g 26 29))) := by
  have loop : f 26 1 = f 29 1 → ∀ (n : Nat) (i : Int), (f 26 2 - i).toNat ≤ n → 0 ≤ i → (∀ j, 0 ≤ j → j < i → g (26 + 1) j = g (29 + 1) j) → am_wp l dC dI tc mm5_isBefore 0 58 58 (fun r s => s = (58, f, g, pr_r a b c) ∧ ((r = some (.inl 1) ∧ zBf f g 26 29) ∨ (r = some (.inl 0) ∧ ¬ zBf f g 26 29))) 16 [some (.inr (.inr (some 26))), some (.inr (.inr (some 29))), some (.inl i)] [] (58, f, g, pr_r a b c) := by
    intro ht n
    induction n with
    | zero =>
      intro i hn hi hj
      iterate 3 (refine am_go rfl (by first | exact True.intro | omega | exact ⟨by decide, Nat.le_of_ble_eq_true rfl, Nat.le_of_ble_eq_true rfl⟩ | exact ⟨by decide, Nat.le_of_ble_eq_true rfl⟩) ?_)
      refine am_if rfl (fun c1 => ?_) (fun c1 => ?_)
      · (refine am_go rfl (by first | exact True.intro | omega | exact ⟨by decide, Nat.le_of_ble_eq_true rfl, Nat.le_of_ble_eq_true rfl⟩ | exact ⟨by decide, Nat.le_of_ble_eq_true rfl⟩) ?_)
        refine am_zret rfl rfl (Or.inl rfl) rfl ⟨rfl, Or.inr ⟨rfl, ?_⟩⟩
        rintro (u | ⟨-, k, k1, k2, k3, k4⟩)
        · omega
        · have := hj k k1 (by omega)
          omega
      · omega
    | succ n ih =>
      intro i hn hi hj
      iterate 3 (refine am_go rfl (by first | exact True.intro | omega | exact ⟨by decide, Nat.le_of_ble_eq_true rfl, Nat.le_of_ble_eq_true rfl⟩ | exact ⟨by decide, Nat.le_of_ble_eq_true rfl⟩) ?_)
      refine am_if rfl (fun c1 => ?_) (fun c1 => ?_)
      · (refine am_go rfl (by first | exact True.intro | omega | exact ⟨by decide, Nat.le_of_ble_eq_true rfl, Nat.le_of_ble_eq_true rfl⟩ | exact ⟨by decide, Nat.le_of_ble_eq_true rfl⟩) ?_)
        refine am_zret rfl rfl (Or.inl rfl) rfl ⟨rfl, Or.inr ⟨rfl, ?_⟩⟩
        rintro (u | ⟨-, k, k1, k2, k3, k4⟩)
        · omega
        · have := hj k k1 (by omega)
          omega
      · iterate 3 (refine am_go rfl (by first | exact True.intro | omega | exact ⟨by decide, Nat.le_of_ble_eq_true rfl, Nat.le_of_ble_eq_true rfl⟩ | exact ⟨by decide, Nat.le_of_ble_eq_true rfl⟩) ?_)
        refine am_if rfl (fun c2 => ?_) (fun c2 => ?_)
        · omega
        · iterate 8 (refine am_go rfl (by first | exact True.intro | omega | exact ⟨by decide, Nat.le_of_ble_eq_true rfl, Nat.le_of_ble_eq_true rfl⟩ | exact ⟨by decide, Nat.le_of_ble_eq_true rfl⟩) ?_)
          refine am_if rfl (fun c3 => ?_) (fun c3 => ?_)
          · iterate 2 (refine am_go rfl (by first | exact True.intro | omega | exact ⟨by decide, Nat.le_of_ble_eq_true rfl, Nat.le_of_ble_eq_true rfl⟩ | exact ⟨by decide, Nat.le_of_ble_eq_true rfl⟩) ?_)
            refine ih (i + 1) (by omega) (by omega) (fun j j1 j2 => ?_)
            by_cases e : j = i
            · subst e
              exact c3
            · exact hj j j1 (by omega)
          · have c3 : ¬ g (26 + 1) i = g (29 + 1) i := c3
            iterate 8 (refine am_go rfl (by first | exact True.intro | omega | exact ⟨by decide, Nat.le_of_ble_eq_true rfl, Nat.le_of_ble_eq_true rfl⟩ | exact ⟨by decide, Nat.le_of_ble_eq_true rfl⟩) ?_)
            refine am_if rfl (fun c4 => ?_) (fun c4 => ?_)
            · have c4 : g (29 + 1) i ≤ g (26 + 1) i := c4
              (refine am_go rfl (by first | exact True.intro | omega | exact ⟨by decide, Nat.le_of_ble_eq_true rfl, Nat.le_of_ble_eq_true rfl⟩ | exact ⟨by decide, Nat.le_of_ble_eq_true rfl⟩) ?_)
              refine am_zret rfl rfl (Or.inl rfl) rfl ⟨rfl, Or.inr ⟨rfl, ?_⟩⟩
              rintro (u | ⟨-, k, k1, k2, k3, k4⟩)
              · omega
              · rcases Int.lt_trichotomy k i with w | w | w
                · have := hj k k1 w
                  omega
                · subst w
                  omega
                · exact c3 (k3 i hi w)
            · have c4 : ¬ g (29 + 1) i ≤ g (26 + 1) i := c4
              iterate 2 (refine am_go rfl (by first | exact True.intro | omega | exact ⟨by decide, Nat.le_of_ble_eq_true rfl, Nat.le_of_ble_eq_true rfl⟩ | exact ⟨by decide, Nat.le_of_ble_eq_true rfl⟩) ?_)
              refine am_zret rfl rfl (Or.inr rfl) rfl ⟨rfl, Or.inl ⟨rfl, Or.inr ⟨ht, i, hi, by omega, hj, by omega⟩⟩⟩
  refine am_enter ok_5_isBefore rfl (by decide) (Nat.le_of_ble_eq_true rfl) rfl ?_
  iterate 4 (refine am_go rfl (by first | exact True.intro | omega | exact ⟨by decide, Nat.le_of_ble_eq_true rfl, Nat.le_of_ble_eq_true rfl⟩ | exact ⟨by decide, Nat.le_of_ble_eq_true rfl⟩) ?_)
  refine am_if rfl (fun c1 => ?_) (fun c1 => ?_)
  · iterate 2 (refine am_go rfl (by first | exact True.intro | omega | exact ⟨by decide, Nat.le_of_ble_eq_true rfl, Nat.le_of_ble_eq_true rfl⟩ | exact ⟨by decide, Nat.le_of_ble_eq_true rfl⟩) ?_)
    exact loop c1 _ 0 (Nat.le_refl _) (by omega) (fun j j1 j2 => by omega)
  · iterate 4 (refine am_go rfl (by first | exact True.intro | omega | exact ⟨by decide, Nat.le_of_ble_eq_true rfl, Nat.le_of_ble_eq_true rfl⟩ | exact ⟨by decide, Nat.le_of_ble_eq_true rfl⟩) ?_)
    refine am_if rfl (fun c2 => ?_) (fun c2 => ?_)
    · (refine am_go rfl (by first | exact True.intro | omega | exact ⟨by decide, Nat.le_of_ble_eq_true rfl, Nat.le_of_ble_eq_true rfl⟩ | exact ⟨by decide, Nat.le_of_ble_eq_true rfl⟩) ?_)
      refine am_zret rfl rfl (Or.inl rfl) rfl ⟨rfl, Or.inr ⟨rfl, ?_⟩⟩
      rintro (u | u)
      · omega
      · exact c1 u.1
    · iterate 2 (refine am_go rfl (by first | exact True.intro | omega | exact ⟨by decide, Nat.le_of_ble_eq_true rfl, Nat.le_of_ble_eq_true rfl⟩ | exact ⟨by decide, Nat.le_of_ble_eq_true rfl⟩) ?_)
      exact am_zret rfl rfl (Or.inr rfl) rfl ⟨rfl, Or.inl ⟨rfl, Or.inl (by omega)⟩⟩
set_option maxRecDepth 100000 in
set_option maxHeartbeats 4000000 in
theorem ct_before29_23 (h1 : 0 ≤ f 29 2 ∧ f 29 2 ≤ 9) (h2 : f 29 2 = f 23 2) : am_Ct l dC dI tc mm5_isBefore 0 58 [(.inr (.inr (some 29))), (.inr (.inr (some 23)))] (58, f, g, pr_r a b c) (fun r s => s = (58, f, g, pr_r a b c) ∧ ((r = some (.inl 1) ∧ zBf f g 29 23) ∨ (r = some (.inl 0) ∧ ¬ zBf f g 29 23))) := by
  have loop : f 29 1 = f 23 1 → ∀ (n : Nat) (i : Int), (f 29 2 - i).toNat ≤ n → 0 ≤ i → (∀ j, 0 ≤ j → j < i → g (29 + 1) j = g (23 + 1) j) → am_wp l dC dI tc mm5_isBefore 0 58 58 (fun r s => s = (58, f, g, pr_r a b c) ∧ ((r = some (.inl 1) ∧ zBf f g 29 23) ∨ (r = some (.inl 0) ∧ ¬ zBf f g 29 23))) 16 [some (.inr (.inr (some 29))), some (.inr (.inr (some 23))), some (.inl i)] [] (58, f, g, pr_r a b c) := by
    intro ht n
    induction n with
    | zero =>
      intro i hn hi hj
      iterate 3 (refine am_go rfl (by first | exact True.intro | omega | exact ⟨by decide, Nat.le_of_ble_eq_true rfl, Nat.le_of_ble_eq_true rfl⟩ | exact ⟨by decide, Nat.le_of_ble_eq_true rfl⟩) ?_)
      refine am_if rfl (fun c1 => ?_) (fun c1 => ?_)
      · (refine am_go rfl (by first | exact True.intro | omega | exact ⟨by decide, Nat.le_of_ble_eq_true rfl, Nat.le_of_ble_eq_true rfl⟩ | exact ⟨by decide, Nat.le_of_ble_eq_true rfl⟩) ?_)
        refine am_zret rfl rfl (Or.inl rfl) rfl ⟨rfl, Or.inr ⟨rfl, ?_⟩⟩
        rintro (u | ⟨-, k, k1, k2, k3, k4⟩)
        · omega
        · have := hj k k1 (by omega)
          omega
      · omega
    | succ n ih =>
      intro i hn hi hj
      iterate 3 (refine am_go rfl (by first | exact True.intro | omega | exact ⟨by decide, Nat.le_of_ble_eq_true rfl, Nat.le_of_ble_eq_true rfl⟩ | exact ⟨by decide, Nat.le_of_ble_eq_true rfl⟩) ?_)
      refine am_if rfl (fun c1 => ?_) (fun c1 => ?_)
      · (refine am_go rfl (by first | exact True.intro | omega | exact ⟨by decide, Nat.le_of_ble_eq_true rfl, Nat.le_of_ble_eq_true rfl⟩ | exact ⟨by decide, Nat.le_of_ble_eq_true rfl⟩) ?_)
        refine am_zret rfl rfl (Or.inl rfl) rfl ⟨rfl, Or.inr ⟨rfl, ?_⟩⟩
        rintro (u | ⟨-, k, k1, k2, k3, k4⟩)
        · omega
        · have := hj k k1 (by omega)
          omega
      · iterate 3 (refine am_go rfl (by first | exact True.intro | omega | exact ⟨by decide, Nat.le_of_ble_eq_true rfl, Nat.le_of_ble_eq_true rfl⟩ | exact ⟨by decide, Nat.le_of_ble_eq_true rfl⟩) ?_)
        refine am_if rfl (fun c2 => ?_) (fun c2 => ?_)
        · omega
        · iterate 8 (refine am_go rfl (by first | exact True.intro | omega | exact ⟨by decide, Nat.le_of_ble_eq_true rfl, Nat.le_of_ble_eq_true rfl⟩ | exact ⟨by decide, Nat.le_of_ble_eq_true rfl⟩) ?_)
          refine am_if rfl (fun c3 => ?_) (fun c3 => ?_)
          · iterate 2 (refine am_go rfl (by first | exact True.intro | omega | exact ⟨by decide, Nat.le_of_ble_eq_true rfl, Nat.le_of_ble_eq_true rfl⟩ | exact ⟨by decide, Nat.le_of_ble_eq_true rfl⟩) ?_)
            refine ih (i + 1) (by omega) (by omega) (fun j j1 j2 => ?_)
            by_cases e : j = i
            · subst e
              exact c3
            · exact hj j j1 (by omega)
          · have c3 : ¬ g (29 + 1) i = g (23 + 1) i := c3
            iterate 8 (refine am_go rfl (by first | exact True.intro | omega | exact ⟨by decide, Nat.le_of_ble_eq_true rfl, Nat.le_of_ble_eq_true rfl⟩ | exact ⟨by decide, Nat.le_of_ble_eq_true rfl⟩) ?_)
            refine am_if rfl (fun c4 => ?_) (fun c4 => ?_)
            · have c4 : g (23 + 1) i ≤ g (29 + 1) i := c4
              (refine am_go rfl (by first | exact True.intro | omega | exact ⟨by decide, Nat.le_of_ble_eq_true rfl, Nat.le_of_ble_eq_true rfl⟩ | exact ⟨by decide, Nat.le_of_ble_eq_true rfl⟩) ?_)
              refine am_zret rfl rfl (Or.inl rfl) rfl ⟨rfl, Or.inr ⟨rfl, ?_⟩⟩
              rintro (u | ⟨-, k, k1, k2, k3, k4⟩)
              · omega
              · rcases Int.lt_trichotomy k i with w | w | w
                · have := hj k k1 w
                  omega
                · subst w
                  omega
                · exact c3 (k3 i hi w)
            · have c4 : ¬ g (23 + 1) i ≤ g (29 + 1) i := c4
              iterate 2 (refine am_go rfl (by first | exact True.intro | omega | exact ⟨by decide, Nat.le_of_ble_eq_true rfl, Nat.le_of_ble_eq_true rfl⟩ | exact ⟨by decide, Nat.le_of_ble_eq_true rfl⟩) ?_)
              refine am_zret rfl rfl (Or.inr rfl) rfl ⟨rfl, Or.inl ⟨rfl, Or.inr ⟨ht, i, hi, by omega, hj, by omega⟩⟩⟩
  refine am_enter ok_5_isBefore rfl (by decide) (Nat.le_of_ble_eq_true rfl) rfl ?_
  iterate 4 (refine am_go rfl (by first | exact True.intro | omega | exact ⟨by decide, Nat.le_of_ble_eq_true rfl, Nat.le_of_ble_eq_true rfl⟩ | exact ⟨by decide, Nat.le_of_ble_eq_true rfl⟩) ?_)
  refine am_if rfl (fun c1 => ?_) (fun c1 => ?_)
  · iterate 2 (refine am_go rfl (by first | exact True.intro | omega | exact ⟨by decide, Nat.le_of_ble_eq_true rfl, Nat.le_of_ble_eq_true rfl⟩ | exact ⟨by decide, Nat.le_of_ble_eq_true rfl⟩) ?_)
    exact loop c1 _ 0 (Nat.le_refl _) (by omega) (fun j j1 j2 => by omega)
  · iterate 4 (refine am_go rfl (by first | exact True.intro | omega | exact ⟨by decide, Nat.le_of_ble_eq_true rfl, Nat.le_of_ble_eq_true rfl⟩ | exact ⟨by decide, Nat.le_of_ble_eq_true rfl⟩) ?_)
    refine am_if rfl (fun c2 => ?_) (fun c2 => ?_)
    · (refine am_go rfl (by first | exact True.intro | omega | exact ⟨by decide, Nat.le_of_ble_eq_true rfl, Nat.le_of_ble_eq_true rfl⟩ | exact ⟨by decide, Nat.le_of_ble_eq_true rfl⟩) ?_)
      refine am_zret rfl rfl (Or.inl rfl) rfl ⟨rfl, Or.inr ⟨rfl, ?_⟩⟩
      rintro (u | u)
      · omega
      · exact c1 u.1
    · iterate 2 (refine am_go rfl (by first | exact True.intro | omega | exact ⟨by decide, Nat.le_of_ble_eq_true rfl, Nat.le_of_ble_eq_true rfl⟩ | exact ⟨by decide, Nat.le_of_ble_eq_true rfl⟩) ?_)
      exact am_zret rfl rfl (Or.inr rfl) rfl ⟨rfl, Or.inl ⟨rfl, Or.inl (by omega)⟩⟩
set_option maxRecDepth 100000 in
set_option maxHeartbeats 4000000 in
theorem ct_before29_26 (h1 : 0 ≤ f 29 2 ∧ f 29 2 ≤ 9) (h2 : f 29 2 = f 26 2) : am_Ct l dC dI tc mm5_isBefore 0 58 [(.inr (.inr (some 29))), (.inr (.inr (some 26)))] (58, f, g, pr_r a b c) (fun r s => s = (58, f, g, pr_r a b c) ∧ ((r = some (.inl 1) ∧ zBf f g 29 26) ∨ (r = some (.inl 0) ∧ ¬ zBf f g 29 26))) := by
  have loop : f 29 1 = f 26 1 → ∀ (n : Nat) (i : Int), (f 29 2 - i).toNat ≤ n → 0 ≤ i → (∀ j, 0 ≤ j → j < i → g (29 + 1) j = g (26 + 1) j) → am_wp l dC dI tc mm5_isBefore 0 58 58 (fun r s => s = (58, f, g, pr_r a b c) ∧ ((r = some (.inl 1) ∧ zBf f g 29 26) ∨ (r = some (.inl 0) ∧ ¬ zBf f g 29 26))) 16 [some (.inr (.inr (some 29))), some (.inr (.inr (some 26))), some (.inl i)] [] (58, f, g, pr_r a b c) := by
    intro ht n
    induction n with
    | zero =>
      intro i hn hi hj
      iterate 3 (refine am_go rfl (by first | exact True.intro | omega | exact ⟨by decide, Nat.le_of_ble_eq_true rfl, Nat.le_of_ble_eq_true rfl⟩ | exact ⟨by decide, Nat.le_of_ble_eq_true rfl⟩) ?_)
      refine am_if rfl (fun c1 => ?_) (fun c1 => ?_)
      · (refine am_go rfl (by first | exact True.intro | omega | exact ⟨by decide, Nat.le_of_ble_eq_true rfl, Nat.le_of_ble_eq_true rfl⟩ | exact ⟨by decide, Nat.le_of_ble_eq_true rfl⟩) ?_)
        refine am_zret rfl rfl (Or.inl rfl) rfl ⟨rfl, Or.inr ⟨rfl, ?_⟩⟩
        rintro (u | ⟨-, k, k1, k2, k3, k4⟩)
        · omega
        · have := hj k k1 (by omega)
          omega
      · omega
    | succ n ih =>
      intro i hn hi hj
      iterate 3 (refine am_go rfl (by first | exact True.intro | omega | exact ⟨by decide, Nat.le_of_ble_eq_true rfl, Nat.le_of_ble_eq_true rfl⟩ | exact ⟨by decide, Nat.le_of_ble_eq_true rfl⟩) ?_)
      refine am_if rfl (fun c1 => ?_) (fun c1 => ?_)
      · (refine am_go rfl (by first | exact True.intro | omega | exact ⟨by decide, Nat.le_of_ble_eq_true rfl, Nat.le_of_ble_eq_true rfl⟩ | exact ⟨by decide, Nat.le_of_ble_eq_true rfl⟩) ?_)
        refine am_zret rfl rfl (Or.inl rfl) rfl ⟨rfl, Or.inr ⟨rfl, ?_⟩⟩
        rintro (u | ⟨-, k, k1, k2, k3, k4⟩)
        · omega
        · have := hj k k1 (by omega)
          omega
      · iterate 3 (refine am_go rfl (by first | exact True.intro | omega | exact ⟨by decide, Nat.le_of_ble_eq_true rfl, Nat.le_of_ble_eq_true rfl⟩ | exact ⟨by decide, Nat.le_of_ble_eq_true rfl⟩) ?_)
        refine am_if rfl (fun c2 => ?_) (fun c2 => ?_)
        · omega
        · iterate 8 (refine am_go rfl (by first | exact True.intro | omega | exact ⟨by decide, Nat.le_of_ble_eq_true rfl, Nat.le_of_ble_eq_true rfl⟩ | exact ⟨by decide, Nat.le_of_ble_eq_true rfl⟩) ?_)
          refine am_if rfl (fun c3 => ?_) (fun c3 => ?_)
          · iterate 2 (refine am_go rfl (by first | exact True.intro | omega | exact ⟨by decide, Nat.le_of_ble_eq_true rfl, Nat.le_of_ble_eq_true rfl⟩ | exact ⟨by decide, Nat.le_of_ble_eq_true rfl⟩) ?_)
            refine ih (i + 1) (by omega) (by omega) (fun j j1 j2 => ?_)
            by_cases e : j = i
            · subst e
              exact c3
            · exact hj j j1 (by omega)
          · have c3 : ¬ g (29 + 1) i = g (26 + 1) i := c3
            iterate 8 (refine am_go rfl (by first | exact True.intro | omega | exact ⟨by decide, Nat.le_of_ble_eq_true rfl, Nat.le_of_ble_eq_true rfl⟩ | exact ⟨by decide, Nat.le_of_ble_eq_true rfl⟩) ?_)
            refine am_if rfl (fun c4 => ?_) (fun c4 => ?_)
            · have c4 : g (26 + 1) i ≤ g (29 + 1) i := c4
              (refine am_go rfl (by first | exact True.intro | omega | exact ⟨by decide, Nat.le_of_ble_eq_true rfl, Nat.le_of_ble_eq_true rfl⟩ | exact ⟨by decide, Nat.le_of_ble_eq_true rfl⟩) ?_)
              refine am_zret rfl rfl (Or.inl rfl) rfl ⟨rfl, Or.inr ⟨rfl, ?_⟩⟩
              rintro (u | ⟨-, k, k1, k2, k3, k4⟩)
              · omega
              · rcases Int.lt_trichotomy k i with w | w | w
                · have := hj k k1 w
                  omega
                · subst w
                  omega
                · exact c3 (k3 i hi w)
            · have c4 : ¬ g (26 + 1) i ≤ g (29 + 1) i := c4
              iterate 2 (refine am_go rfl (by first | exact True.intro | omega | exact ⟨by decide, Nat.le_of_ble_eq_true rfl, Nat.le_of_ble_eq_true rfl⟩ | exact ⟨by decide, Nat.le_of_ble_eq_true rfl⟩) ?_)
              refine am_zret rfl rfl (Or.inr rfl) rfl ⟨rfl, Or.inl ⟨rfl, Or.inr ⟨ht, i, hi, by omega, hj, by omega⟩⟩⟩
  refine am_enter ok_5_isBefore rfl (by decide) (Nat.le_of_ble_eq_true rfl) rfl ?_
  iterate 4 (refine am_go rfl (by first | exact True.intro | omega | exact ⟨by decide, Nat.le_of_ble_eq_true rfl, Nat.le_of_ble_eq_true rfl⟩ | exact ⟨by decide, Nat.le_of_ble_eq_true rfl⟩) ?_)
  refine am_if rfl (fun c1 => ?_) (fun c1 => ?_)
  · iterate 2 (refine am_go rfl (by first | exact True.intro | omega | exact ⟨by decide, Nat.le_of_ble_eq_true rfl, Nat.le_of_ble_eq_true rfl⟩ | exact ⟨by decide, Nat.le_of_ble_eq_true rfl⟩) ?_)
    exact loop c1 _ 0 (Nat.le_refl _) (by omega) (fun j j1 j2 => by omega)
  · iterate 4 (refine am_go rfl (by first | exact True.intro | omega | exact ⟨by decide, Nat.le_of_ble_eq_true rfl, Nat.le_of_ble_eq_true rfl⟩ | exact ⟨by decide, Nat.le_of_ble_eq_true rfl⟩) ?_)
    refine am_if rfl (fun c2 => ?_) (fun c2 => ?_)
    · (refine am_go rfl (by first | exact True.intro | omega | exact ⟨by decide, Nat.le_of_ble_eq_true rfl, Nat.le_of_ble_eq_true rfl⟩ | exact ⟨by decide, Nat.le_of_ble_eq_true rfl⟩) ?_)
      refine am_zret rfl rfl (Or.inl rfl) rfl ⟨rfl, Or.inr ⟨rfl, ?_⟩⟩
      rintro (u | u)
      · omega
      · exact c1 u.1
    · iterate 2 (refine am_go rfl (by first | exact True.intro | omega | exact ⟨by decide, Nat.le_of_ble_eq_true rfl, Nat.le_of_ble_eq_true rfl⟩ | exact ⟨by decide, Nat.le_of_ble_eq_true rfl⟩) ?_)
      exact am_zret rfl rfl (Or.inr rfl) rfl ⟨rfl, Or.inl ⟨rfl, Or.inl (by omega)⟩⟩
set_option maxRecDepth 100000 in
set_option maxHeartbeats 4000000 in
theorem ct_admit23_26_29 (h1 : 0 ≤ f 29 2 ∧ f 29 2 ≤ 9) (h2 : f 23 0 ≠ -1 → f 29 2 = f 23 2) (h3 : f 26 0 ≠ -1 → f 29 2 = f 26 2) : am_Ct l dC dI tc mm4_admitCandidate 1 58 [(.inr (.inr (some 22)))] (58, f, g, pr_r 23 26 29) (fun r s => r = none ∧ (((f 23 0 = -1 ∨ zBf f g 29 23) ∧ s = (58, f, g, pr_r 29 23 26)) ∨ (¬ (f 23 0 = -1 ∨ zBf f g 29 23) ∧ (f 26 0 = -1 ∨ zBf f g 29 26) ∧ s = (58, f, g, pr_r 23 29 26)) ∨ (¬ (f 23 0 = -1 ∨ zBf f g 29 23) ∧ ¬ (f 26 0 = -1 ∨ zBf f g 29 26) ∧ s = (58, f, g, pr_r 23 26 29)))) := by
  have first : (f 23 0 = -1 ∨ zBf f g 29 23) → am_wp l dC dI tc mm4_admitCandidate 1 58 58 (fun r s => r = none ∧ (((f 23 0 = -1 ∨ zBf f g 29 23) ∧ s = (58, f, g, pr_r 29 23 26)) ∨ (¬ (f 23 0 = -1 ∨ zBf f g 29 23) ∧ (f 26 0 = -1 ∨ zBf f g 29 26) ∧ s = (58, f, g, pr_r 23 29 26)) ∨ (¬ (f 23 0 = -1 ∨ zBf f g 29 23) ∧ ¬ (f 26 0 = -1 ∨ zBf f g 29 26) ∧ s = (58, f, g, pr_r 23 26 29)))) 11 [some (.inr (.inr (some 22))), none] [] (58, f, g, pr_r 23 26 29) := by
    intro hb
    iterate 15 (refine am_go rfl (by first | exact True.intro | omega | exact ⟨by decide, Nat.le_of_ble_eq_true rfl, Nat.le_of_ble_eq_true rfl⟩ | exact ⟨by decide, Nat.le_of_ble_eq_true rfl⟩) ?_)
    refine am_vret (x := 0) rfl rfl rfl ⟨rfl, Or.inl ⟨hb, ?_⟩⟩
    rw [pr_u1, pr_u0, pr_u3]
  have second : ¬ (f 23 0 = -1 ∨ zBf f g 29 23) → am_wp l dC dI tc mm4_admitCandidate 1 58 58 (fun r s => r = none ∧ (((f 23 0 = -1 ∨ zBf f g 29 23) ∧ s = (58, f, g, pr_r 29 23 26)) ∨ (¬ (f 23 0 = -1 ∨ zBf f g 29 23) ∧ (f 26 0 = -1 ∨ zBf f g 29 26) ∧ s = (58, f, g, pr_r 23 29 26)) ∨ (¬ (f 23 0 = -1 ∨ zBf f g 29 23) ∧ ¬ (f 26 0 = -1 ∨ zBf f g 29 26) ∧ s = (58, f, g, pr_r 23 26 29)))) 26 [some (.inr (.inr (some 22))), none] [] (58, f, g, pr_r 23 26 29) := by
    intro ha
    have go : (f 26 0 = -1 ∨ zBf f g 29 26) → am_wp l dC dI tc mm4_admitCandidate 1 58 58 (fun r s => r = none ∧ (((f 23 0 = -1 ∨ zBf f g 29 23) ∧ s = (58, f, g, pr_r 29 23 26)) ∨ (¬ (f 23 0 = -1 ∨ zBf f g 29 23) ∧ (f 26 0 = -1 ∨ zBf f g 29 26) ∧ s = (58, f, g, pr_r 23 29 26)) ∨ (¬ (f 23 0 = -1 ∨ zBf f g 29 23) ∧ ¬ (f 26 0 = -1 ∨ zBf f g 29 26) ∧ s = (58, f, g, pr_r 23 26 29)))) 37 [some (.inr (.inr (some 22))), none] [] (58, f, g, pr_r 23 26 29) := by
      intro hb
      iterate 10 (refine am_go rfl (by first | exact True.intro | omega | exact ⟨by decide, Nat.le_of_ble_eq_true rfl, Nat.le_of_ble_eq_true rfl⟩ | exact ⟨by decide, Nat.le_of_ble_eq_true rfl⟩) ?_)
      refine am_vret (x := 0) rfl rfl rfl ⟨rfl, Or.inr (Or.inl ⟨ha, hb, ?_⟩)⟩
      rw [pr_u1, pr_u3]
    iterate 4 (refine am_go rfl (by first | exact True.intro | omega | exact ⟨by decide, Nat.le_of_ble_eq_true rfl, Nat.le_of_ble_eq_true rfl⟩ | exact ⟨by decide, Nat.le_of_ble_eq_true rfl⟩) ?_)
    refine am_if rfl (fun c1 => ?_) (fun c1 => ?_)
    · exact go (Or.inl c1)
    · iterate 4 (refine am_go rfl (by first | exact True.intro | omega | exact ⟨by decide, Nat.le_of_ble_eq_true rfl, Nat.le_of_ble_eq_true rfl⟩ | exact ⟨by decide, Nat.le_of_ble_eq_true rfl⟩) ?_)
      refine am_call rfl (ct_before29_26 h1 (h3 c1)) (by decide) (Nat.le_of_ble_eq_true rfl) (Nat.le_of_ble_eq_true rfl) (Nat.le_of_ble_eq_true rfl) (fun rv s q => ?_)
      obtain ⟨rfl, ⟨rfl, hz⟩ | ⟨rfl, hz⟩⟩ := q
      · refine am_if rfl (fun c2 => ?_) (fun c2 => ?_)
        · omega
        · exact go (Or.inr hz)
      · refine am_if rfl (fun c2 => ?_) (fun c2 => ?_)
        · exact am_vret (x := 0) rfl rfl rfl ⟨rfl, Or.inr (Or.inr ⟨ha, fun u => u.elim c1 hz, rfl⟩)⟩
        · omega
  refine am_enter ok_4_admitCandidate rfl (by decide) (Nat.le_of_ble_eq_true rfl) rfl ?_
  iterate 4 (refine am_go rfl (by first | exact True.intro | omega | exact ⟨by decide, Nat.le_of_ble_eq_true rfl, Nat.le_of_ble_eq_true rfl⟩ | exact ⟨by decide, Nat.le_of_ble_eq_true rfl⟩) ?_)
  refine am_if rfl (fun c1 => ?_) (fun c1 => ?_)
  · exact first (Or.inl c1)
  · iterate 4 (refine am_go rfl (by first | exact True.intro | omega | exact ⟨by decide, Nat.le_of_ble_eq_true rfl, Nat.le_of_ble_eq_true rfl⟩ | exact ⟨by decide, Nat.le_of_ble_eq_true rfl⟩) ?_)
    refine am_call rfl (ct_before29_23 h1 (h2 c1)) (by decide) (Nat.le_of_ble_eq_true rfl) (Nat.le_of_ble_eq_true rfl) (Nat.le_of_ble_eq_true rfl) (fun rv s q => ?_)
    obtain ⟨rfl, ⟨rfl, hz⟩ | ⟨rfl, hz⟩⟩ := q
    · refine am_if rfl (fun c2 => ?_) (fun c2 => ?_)
      · omega
      · exact first (Or.inr hz)
    · refine am_if rfl (fun c2 => ?_) (fun c2 => ?_)
      · exact second (fun u => u.elim c1 hz)
      · omega
set_option maxRecDepth 100000 in
set_option maxHeartbeats 4000000 in
theorem ct_admit23_29_26 (h1 : 0 ≤ f 26 2 ∧ f 26 2 ≤ 9) (h2 : f 23 0 ≠ -1 → f 26 2 = f 23 2) (h3 : f 29 0 ≠ -1 → f 26 2 = f 29 2) : am_Ct l dC dI tc mm4_admitCandidate 1 58 [(.inr (.inr (some 22)))] (58, f, g, pr_r 23 29 26) (fun r s => r = none ∧ (((f 23 0 = -1 ∨ zBf f g 26 23) ∧ s = (58, f, g, pr_r 26 23 29)) ∨ (¬ (f 23 0 = -1 ∨ zBf f g 26 23) ∧ (f 29 0 = -1 ∨ zBf f g 26 29) ∧ s = (58, f, g, pr_r 23 26 29)) ∨ (¬ (f 23 0 = -1 ∨ zBf f g 26 23) ∧ ¬ (f 29 0 = -1 ∨ zBf f g 26 29) ∧ s = (58, f, g, pr_r 23 29 26)))) := by
  have first : (f 23 0 = -1 ∨ zBf f g 26 23) → am_wp l dC dI tc mm4_admitCandidate 1 58 58 (fun r s => r = none ∧ (((f 23 0 = -1 ∨ zBf f g 26 23) ∧ s = (58, f, g, pr_r 26 23 29)) ∨ (¬ (f 23 0 = -1 ∨ zBf f g 26 23) ∧ (f 29 0 = -1 ∨ zBf f g 26 29) ∧ s = (58, f, g, pr_r 23 26 29)) ∨ (¬ (f 23 0 = -1 ∨ zBf f g 26 23) ∧ ¬ (f 29 0 = -1 ∨ zBf f g 26 29) ∧ s = (58, f, g, pr_r 23 29 26)))) 11 [some (.inr (.inr (some 22))), none] [] (58, f, g, pr_r 23 29 26) := by
    intro hb
    iterate 15 (refine am_go rfl (by first | exact True.intro | omega | exact ⟨by decide, Nat.le_of_ble_eq_true rfl, Nat.le_of_ble_eq_true rfl⟩ | exact ⟨by decide, Nat.le_of_ble_eq_true rfl⟩) ?_)
    refine am_vret (x := 0) rfl rfl rfl ⟨rfl, Or.inl ⟨hb, ?_⟩⟩
    rw [pr_u1, pr_u0, pr_u3]
  have second : ¬ (f 23 0 = -1 ∨ zBf f g 26 23) → am_wp l dC dI tc mm4_admitCandidate 1 58 58 (fun r s => r = none ∧ (((f 23 0 = -1 ∨ zBf f g 26 23) ∧ s = (58, f, g, pr_r 26 23 29)) ∨ (¬ (f 23 0 = -1 ∨ zBf f g 26 23) ∧ (f 29 0 = -1 ∨ zBf f g 26 29) ∧ s = (58, f, g, pr_r 23 26 29)) ∨ (¬ (f 23 0 = -1 ∨ zBf f g 26 23) ∧ ¬ (f 29 0 = -1 ∨ zBf f g 26 29) ∧ s = (58, f, g, pr_r 23 29 26)))) 26 [some (.inr (.inr (some 22))), none] [] (58, f, g, pr_r 23 29 26) := by
    intro ha
    have go : (f 29 0 = -1 ∨ zBf f g 26 29) → am_wp l dC dI tc mm4_admitCandidate 1 58 58 (fun r s => r = none ∧ (((f 23 0 = -1 ∨ zBf f g 26 23) ∧ s = (58, f, g, pr_r 26 23 29)) ∨ (¬ (f 23 0 = -1 ∨ zBf f g 26 23) ∧ (f 29 0 = -1 ∨ zBf f g 26 29) ∧ s = (58, f, g, pr_r 23 26 29)) ∨ (¬ (f 23 0 = -1 ∨ zBf f g 26 23) ∧ ¬ (f 29 0 = -1 ∨ zBf f g 26 29) ∧ s = (58, f, g, pr_r 23 29 26)))) 37 [some (.inr (.inr (some 22))), none] [] (58, f, g, pr_r 23 29 26) := by
      intro hb
      iterate 10 (refine am_go rfl (by first | exact True.intro | omega | exact ⟨by decide, Nat.le_of_ble_eq_true rfl, Nat.le_of_ble_eq_true rfl⟩ | exact ⟨by decide, Nat.le_of_ble_eq_true rfl⟩) ?_)
      refine am_vret (x := 0) rfl rfl rfl ⟨rfl, Or.inr (Or.inl ⟨ha, hb, ?_⟩)⟩
      rw [pr_u1, pr_u3]
    iterate 4 (refine am_go rfl (by first | exact True.intro | omega | exact ⟨by decide, Nat.le_of_ble_eq_true rfl, Nat.le_of_ble_eq_true rfl⟩ | exact ⟨by decide, Nat.le_of_ble_eq_true rfl⟩) ?_)
    refine am_if rfl (fun c1 => ?_) (fun c1 => ?_)
    · exact go (Or.inl c1)
    · iterate 4 (refine am_go rfl (by first | exact True.intro | omega | exact ⟨by decide, Nat.le_of_ble_eq_true rfl, Nat.le_of_ble_eq_true rfl⟩ | exact ⟨by decide, Nat.le_of_ble_eq_true rfl⟩) ?_)
      refine am_call rfl (ct_before26_29 h1 (h3 c1)) (by decide) (Nat.le_of_ble_eq_true rfl) (Nat.le_of_ble_eq_true rfl) (Nat.le_of_ble_eq_true rfl) (fun rv s q => ?_)
      obtain ⟨rfl, ⟨rfl, hz⟩ | ⟨rfl, hz⟩⟩ := q
      · refine am_if rfl (fun c2 => ?_) (fun c2 => ?_)
        · omega
        · exact go (Or.inr hz)
      · refine am_if rfl (fun c2 => ?_) (fun c2 => ?_)
        · exact am_vret (x := 0) rfl rfl rfl ⟨rfl, Or.inr (Or.inr ⟨ha, fun u => u.elim c1 hz, rfl⟩)⟩
        · omega
  refine am_enter ok_4_admitCandidate rfl (by decide) (Nat.le_of_ble_eq_true rfl) rfl ?_
  iterate 4 (refine am_go rfl (by first | exact True.intro | omega | exact ⟨by decide, Nat.le_of_ble_eq_true rfl, Nat.le_of_ble_eq_true rfl⟩ | exact ⟨by decide, Nat.le_of_ble_eq_true rfl⟩) ?_)
  refine am_if rfl (fun c1 => ?_) (fun c1 => ?_)
  · exact first (Or.inl c1)
  · iterate 4 (refine am_go rfl (by first | exact True.intro | omega | exact ⟨by decide, Nat.le_of_ble_eq_true rfl, Nat.le_of_ble_eq_true rfl⟩ | exact ⟨by decide, Nat.le_of_ble_eq_true rfl⟩) ?_)
    refine am_call rfl (ct_before26_23 h1 (h2 c1)) (by decide) (Nat.le_of_ble_eq_true rfl) (Nat.le_of_ble_eq_true rfl) (Nat.le_of_ble_eq_true rfl) (fun rv s q => ?_)
    obtain ⟨rfl, ⟨rfl, hz⟩ | ⟨rfl, hz⟩⟩ := q
    · refine am_if rfl (fun c2 => ?_) (fun c2 => ?_)
      · omega
      · exact first (Or.inr hz)
    · refine am_if rfl (fun c2 => ?_) (fun c2 => ?_)
      · exact second (fun u => u.elim c1 hz)
      · omega
set_option maxRecDepth 100000 in
set_option maxHeartbeats 4000000 in
theorem ct_admit26_23_29 (h1 : 0 ≤ f 29 2 ∧ f 29 2 ≤ 9) (h2 : f 26 0 ≠ -1 → f 29 2 = f 26 2) (h3 : f 23 0 ≠ -1 → f 29 2 = f 23 2) : am_Ct l dC dI tc mm4_admitCandidate 1 58 [(.inr (.inr (some 22)))] (58, f, g, pr_r 26 23 29) (fun r s => r = none ∧ (((f 26 0 = -1 ∨ zBf f g 29 26) ∧ s = (58, f, g, pr_r 29 26 23)) ∨ (¬ (f 26 0 = -1 ∨ zBf f g 29 26) ∧ (f 23 0 = -1 ∨ zBf f g 29 23) ∧ s = (58, f, g, pr_r 26 29 23)) ∨ (¬ (f 26 0 = -1 ∨ zBf f g 29 26) ∧ ¬ (f 23 0 = -1 ∨ zBf f g 29 23) ∧ s = (58, f, g, pr_r 26 23 29)))) := by
  have first : (f 26 0 = -1 ∨ zBf f g 29 26) → am_wp l dC dI tc mm4_admitCandidate 1 58 58 (fun r s => r = none ∧ (((f 26 0 = -1 ∨ zBf f g 29 26) ∧ s = (58, f, g, pr_r 29 26 23)) ∨ (¬ (f 26 0 = -1 ∨ zBf f g 29 26) ∧ (f 23 0 = -1 ∨ zBf f g 29 23) ∧ s = (58, f, g, pr_r 26 29 23)) ∨ (¬ (f 26 0 = -1 ∨ zBf f g 29 26) ∧ ¬ (f 23 0 = -1 ∨ zBf f g 29 23) ∧ s = (58, f, g, pr_r 26 23 29)))) 11 [some (.inr (.inr (some 22))), none] [] (58, f, g, pr_r 26 23 29) := by
    intro hb
    iterate 15 (refine am_go rfl (by first | exact True.intro | omega | exact ⟨by decide, Nat.le_of_ble_eq_true rfl, Nat.le_of_ble_eq_true rfl⟩ | exact ⟨by decide, Nat.le_of_ble_eq_true rfl⟩) ?_)
    refine am_vret (x := 0) rfl rfl rfl ⟨rfl, Or.inl ⟨hb, ?_⟩⟩
    rw [pr_u1, pr_u0, pr_u3]
  have second : ¬ (f 26 0 = -1 ∨ zBf f g 29 26) → am_wp l dC dI tc mm4_admitCandidate 1 58 58 (fun r s => r = none ∧ (((f 26 0 = -1 ∨ zBf f g 29 26) ∧ s = (58, f, g, pr_r 29 26 23)) ∨ (¬ (f 26 0 = -1 ∨ zBf f g 29 26) ∧ (f 23 0 = -1 ∨ zBf f g 29 23) ∧ s = (58, f, g, pr_r 26 29 23)) ∨ (¬ (f 26 0 = -1 ∨ zBf f g 29 26) ∧ ¬ (f 23 0 = -1 ∨ zBf f g 29 23) ∧ s = (58, f, g, pr_r 26 23 29)))) 26 [some (.inr (.inr (some 22))), none] [] (58, f, g, pr_r 26 23 29) := by
    intro ha
    have go : (f 23 0 = -1 ∨ zBf f g 29 23) → am_wp l dC dI tc mm4_admitCandidate 1 58 58 (fun r s => r = none ∧ (((f 26 0 = -1 ∨ zBf f g 29 26) ∧ s = (58, f, g, pr_r 29 26 23)) ∨ (¬ (f 26 0 = -1 ∨ zBf f g 29 26) ∧ (f 23 0 = -1 ∨ zBf f g 29 23) ∧ s = (58, f, g, pr_r 26 29 23)) ∨ (¬ (f 26 0 = -1 ∨ zBf f g 29 26) ∧ ¬ (f 23 0 = -1 ∨ zBf f g 29 23) ∧ s = (58, f, g, pr_r 26 23 29)))) 37 [some (.inr (.inr (some 22))), none] [] (58, f, g, pr_r 26 23 29) := by
      intro hb
      iterate 10 (refine am_go rfl (by first | exact True.intro | omega | exact ⟨by decide, Nat.le_of_ble_eq_true rfl, Nat.le_of_ble_eq_true rfl⟩ | exact ⟨by decide, Nat.le_of_ble_eq_true rfl⟩) ?_)
      refine am_vret (x := 0) rfl rfl rfl ⟨rfl, Or.inr (Or.inl ⟨ha, hb, ?_⟩)⟩
      rw [pr_u1, pr_u3]
    iterate 4 (refine am_go rfl (by first | exact True.intro | omega | exact ⟨by decide, Nat.le_of_ble_eq_true rfl, Nat.le_of_ble_eq_true rfl⟩ | exact ⟨by decide, Nat.le_of_ble_eq_true rfl⟩) ?_)
    refine am_if rfl (fun c1 => ?_) (fun c1 => ?_)
    · exact go (Or.inl c1)
    · iterate 4 (refine am_go rfl (by first | exact True.intro | omega | exact ⟨by decide, Nat.le_of_ble_eq_true rfl, Nat.le_of_ble_eq_true rfl⟩ | exact ⟨by decide, Nat.le_of_ble_eq_true rfl⟩) ?_)
      refine am_call rfl (ct_before29_23 h1 (h3 c1)) (by decide) (Nat.le_of_ble_eq_true rfl) (Nat.le_of_ble_eq_true rfl) (Nat.le_of_ble_eq_true rfl) (fun rv s q => ?_)
      obtain ⟨rfl, ⟨rfl, hz⟩ | ⟨rfl, hz⟩⟩ := q
      · refine am_if rfl (fun c2 => ?_) (fun c2 => ?_)
        · omega
        · exact go (Or.inr hz)
      · refine am_if rfl (fun c2 => ?_) (fun c2 => ?_)
        · exact am_vret (x := 0) rfl rfl rfl ⟨rfl, Or.inr (Or.inr ⟨ha, fun u => u.elim c1 hz, rfl⟩)⟩
        · omega
  refine am_enter ok_4_admitCandidate rfl (by decide) (Nat.le_of_ble_eq_true rfl) rfl ?_
  iterate 4 (refine am_go rfl (by first | exact True.intro | omega | exact ⟨by decide, Nat.le_of_ble_eq_true rfl, Nat.le_of_ble_eq_true rfl⟩ | exact ⟨by decide, Nat.le_of_ble_eq_true rfl⟩) ?_)
  refine am_if rfl (fun c1 => ?_) (fun c1 => ?_)
  · exact first (Or.inl c1)
  · iterate 4 (refine am_go rfl (by first | exact True.intro | omega | exact ⟨by decide, Nat.le_of_ble_eq_true rfl, Nat.le_of_ble_eq_true rfl⟩ | exact ⟨by decide, Nat.le_of_ble_eq_true rfl⟩) ?_)
    refine am_call rfl (ct_before29_26 h1 (h2 c1)) (by decide) (Nat.le_of_ble_eq_true rfl) (Nat.le_of_ble_eq_true rfl) (Nat.le_of_ble_eq_true rfl) (fun rv s q => ?_)
    obtain ⟨rfl, ⟨rfl, hz⟩ | ⟨rfl, hz⟩⟩ := q
    · refine am_if rfl (fun c2 => ?_) (fun c2 => ?_)
      · omega
      · exact first (Or.inr hz)
    · refine am_if rfl (fun c2 => ?_) (fun c2 => ?_)
      · exact second (fun u => u.elim c1 hz)
      · omega
set_option maxRecDepth 100000 in
set_option maxHeartbeats 4000000 in
theorem ct_admit26_29_23 (h1 : 0 ≤ f 23 2 ∧ f 23 2 ≤ 9) (h2 : f 26 0 ≠ -1 → f 23 2 = f 26 2) (h3 : f 29 0 ≠ -1 → f 23 2 = f 29 2) : am_Ct l dC dI tc mm4_admitCandidate 1 58 [(.inr (.inr (some 22)))] (58, f, g, pr_r 26 29 23) (fun r s => r = none ∧ (((f 26 0 = -1 ∨ zBf f g 23 26) ∧ s = (58, f, g, pr_r 23 26 29)) ∨ (¬ (f 26 0 = -1 ∨ zBf f g 23 26) ∧ (f 29 0 = -1 ∨ zBf f g 23 29) ∧ s = (58, f, g, pr_r 26 23 29)) ∨ (¬ (f 26 0 = -1 ∨ zBf f g 23 26) ∧ ¬ (f 29 0 = -1 ∨ zBf f g 23 29) ∧ s = (58, f, g, pr_r 26 29 23)))) := by
  have first : (f 26 0 = -1 ∨ zBf f g 23 26) → am_wp l dC dI tc mm4_admitCandidate 1 58 58 (fun r s => r = none ∧ (((f 26 0 = -1 ∨ zBf f g 23 26) ∧ s = (58, f, g, pr_r 23 26 29)) ∨ (¬ (f 26 0 = -1 ∨ zBf f g 23 26) ∧ (f 29 0 = -1 ∨ zBf f g 23 29) ∧ s = (58, f, g, pr_r 26 23 29)) ∨ (¬ (f 26 0 = -1 ∨ zBf f g 23 26) ∧ ¬ (f 29 0 = -1 ∨ zBf f g 23 29) ∧ s = (58, f, g, pr_r 26 29 23)))) 11 [some (.inr (.inr (some 22))), none] [] (58, f, g, pr_r 26 29 23) := by
    intro hb
    iterate 15 (refine am_go rfl (by first | exact True.intro | omega | exact ⟨by decide, Nat.le_of_ble_eq_true rfl, Nat.le_of_ble_eq_true rfl⟩ | exact ⟨by decide, Nat.le_of_ble_eq_true rfl⟩) ?_)
    refine am_vret (x := 0) rfl rfl rfl ⟨rfl, Or.inl ⟨hb, ?_⟩⟩
    rw [pr_u1, pr_u0, pr_u3]
  have second : ¬ (f 26 0 = -1 ∨ zBf f g 23 26) → am_wp l dC dI tc mm4_admitCandidate 1 58 58 (fun r s => r = none ∧ (((f 26 0 = -1 ∨ zBf f g 23 26) ∧ s = (58, f, g, pr_r 23 26 29)) ∨ (¬ (f 26 0 = -1 ∨ zBf f g 23 26) ∧ (f 29 0 = -1 ∨ zBf f g 23 29) ∧ s = (58, f, g, pr_r 26 23 29)) ∨ (¬ (f 26 0 = -1 ∨ zBf f g 23 26) ∧ ¬ (f 29 0 = -1 ∨ zBf f g 23 29) ∧ s = (58, f, g, pr_r 26 29 23)))) 26 [some (.inr (.inr (some 22))), none] [] (58, f, g, pr_r 26 29 23) := by
    intro ha
    have go : (f 29 0 = -1 ∨ zBf f g 23 29) → am_wp l dC dI tc mm4_admitCandidate 1 58 58 (fun r s => r = none ∧ (((f 26 0 = -1 ∨ zBf f g 23 26) ∧ s = (58, f, g, pr_r 23 26 29)) ∨ (¬ (f 26 0 = -1 ∨ zBf f g 23 26) ∧ (f 29 0 = -1 ∨ zBf f g 23 29) ∧ s = (58, f, g, pr_r 26 23 29)) ∨ (¬ (f 26 0 = -1 ∨ zBf f g 23 26) ∧ ¬ (f 29 0 = -1 ∨ zBf f g 23 29) ∧ s = (58, f, g, pr_r 26 29 23)))) 37 [some (.inr (.inr (some 22))), none] [] (58, f, g, pr_r 26 29 23) := by
      intro hb
      iterate 10 (refine am_go rfl (by first | exact True.intro | omega | exact ⟨by decide, Nat.le_of_ble_eq_true rfl, Nat.le_of_ble_eq_true rfl⟩ | exact ⟨by decide, Nat.le_of_ble_eq_true rfl⟩) ?_)
      refine am_vret (x := 0) rfl rfl rfl ⟨rfl, Or.inr (Or.inl ⟨ha, hb, ?_⟩)⟩
      rw [pr_u1, pr_u3]
    iterate 4 (refine am_go rfl (by first | exact True.intro | omega | exact ⟨by decide, Nat.le_of_ble_eq_true rfl, Nat.le_of_ble_eq_true rfl⟩ | exact ⟨by decide, Nat.le_of_ble_eq_true rfl⟩) ?_)
    refine am_if rfl (fun c1 => ?_) (fun c1 => ?_)
    · exact go (Or.inl c1)
    · iterate 4 (refine am_go rfl (by first | exact True.intro | omega | exact ⟨by decide, Nat.le_of_ble_eq_true rfl, Nat.le_of_ble_eq_true rfl⟩ | exact ⟨by decide, Nat.le_of_ble_eq_true rfl⟩) ?_)
      refine am_call rfl (ct_before23_29 h1 (h3 c1)) (by decide) (Nat.le_of_ble_eq_true rfl) (Nat.le_of_ble_eq_true rfl) (Nat.le_of_ble_eq_true rfl) (fun rv s q => ?_)
      obtain ⟨rfl, ⟨rfl, hz⟩ | ⟨rfl, hz⟩⟩ := q
      · refine am_if rfl (fun c2 => ?_) (fun c2 => ?_)
        · omega
        · exact go (Or.inr hz)
      · refine am_if rfl (fun c2 => ?_) (fun c2 => ?_)
        · exact am_vret (x := 0) rfl rfl rfl ⟨rfl, Or.inr (Or.inr ⟨ha, fun u => u.elim c1 hz, rfl⟩)⟩
        · omega
  refine am_enter ok_4_admitCandidate rfl (by decide) (Nat.le_of_ble_eq_true rfl) rfl ?_
  iterate 4 (refine am_go rfl (by first | exact True.intro | omega | exact ⟨by decide, Nat.le_of_ble_eq_true rfl, Nat.le_of_ble_eq_true rfl⟩ | exact ⟨by decide, Nat.le_of_ble_eq_true rfl⟩) ?_)
  refine am_if rfl (fun c1 => ?_) (fun c1 => ?_)
  · exact first (Or.inl c1)
  · iterate 4 (refine am_go rfl (by first | exact True.intro | omega | exact ⟨by decide, Nat.le_of_ble_eq_true rfl, Nat.le_of_ble_eq_true rfl⟩ | exact ⟨by decide, Nat.le_of_ble_eq_true rfl⟩) ?_)
    refine am_call rfl (ct_before23_26 h1 (h2 c1)) (by decide) (Nat.le_of_ble_eq_true rfl) (Nat.le_of_ble_eq_true rfl) (Nat.le_of_ble_eq_true rfl) (fun rv s q => ?_)
    obtain ⟨rfl, ⟨rfl, hz⟩ | ⟨rfl, hz⟩⟩ := q
    · refine am_if rfl (fun c2 => ?_) (fun c2 => ?_)
      · omega
      · exact first (Or.inr hz)
    · refine am_if rfl (fun c2 => ?_) (fun c2 => ?_)
      · exact second (fun u => u.elim c1 hz)
      · omega
set_option maxRecDepth 100000 in
set_option maxHeartbeats 4000000 in
theorem ct_admit29_23_26 (h1 : 0 ≤ f 26 2 ∧ f 26 2 ≤ 9) (h2 : f 29 0 ≠ -1 → f 26 2 = f 29 2) (h3 : f 23 0 ≠ -1 → f 26 2 = f 23 2) : am_Ct l dC dI tc mm4_admitCandidate 1 58 [(.inr (.inr (some 22)))] (58, f, g, pr_r 29 23 26) (fun r s => r = none ∧ (((f 29 0 = -1 ∨ zBf f g 26 29) ∧ s = (58, f, g, pr_r 26 29 23)) ∨ (¬ (f 29 0 = -1 ∨ zBf f g 26 29) ∧ (f 23 0 = -1 ∨ zBf f g 26 23) ∧ s = (58, f, g, pr_r 29 26 23)) ∨ (¬ (f 29 0 = -1 ∨ zBf f g 26 29) ∧ ¬ (f 23 0 = -1 ∨ zBf f g 26 23) ∧ s = (58, f, g, pr_r 29 23 26)))) := by
  have first : (f 29 0 = -1 ∨ zBf f g 26 29) → am_wp l dC dI tc mm4_admitCandidate 1 58 58 (fun r s => r = none ∧ (((f 29 0 = -1 ∨ zBf f g 26 29) ∧ s = (58, f, g, pr_r 26 29 23)) ∨ (¬ (f 29 0 = -1 ∨ zBf f g 26 29) ∧ (f 23 0 = -1 ∨ zBf f g 26 23) ∧ s = (58, f, g, pr_r 29 26 23)) ∨ (¬ (f 29 0 = -1 ∨ zBf f g 26 29) ∧ ¬ (f 23 0 = -1 ∨ zBf f g 26 23) ∧ s = (58, f, g, pr_r 29 23 26)))) 11 [some (.inr (.inr (some 22))), none] [] (58, f, g, pr_r 29 23 26) := by
    intro hb
    iterate 15 (refine am_go rfl (by first | exact True.intro | omega | exact ⟨by decide, Nat.le_of_ble_eq_true rfl, Nat.le_of_ble_eq_true rfl⟩ | exact ⟨by decide, Nat.le_of_ble_eq_true rfl⟩) ?_)
    refine am_vret (x := 0) rfl rfl rfl ⟨rfl, Or.inl ⟨hb, ?_⟩⟩
    rw [pr_u1, pr_u0, pr_u3]
  have second : ¬ (f 29 0 = -1 ∨ zBf f g 26 29) → am_wp l dC dI tc mm4_admitCandidate 1 58 58 (fun r s => r = none ∧ (((f 29 0 = -1 ∨ zBf f g 26 29) ∧ s = (58, f, g, pr_r 26 29 23)) ∨ (¬ (f 29 0 = -1 ∨ zBf f g 26 29) ∧ (f 23 0 = -1 ∨ zBf f g 26 23) ∧ s = (58, f, g, pr_r 29 26 23)) ∨ (¬ (f 29 0 = -1 ∨ zBf f g 26 29) ∧ ¬ (f 23 0 = -1 ∨ zBf f g 26 23) ∧ s = (58, f, g, pr_r 29 23 26)))) 26 [some (.inr (.inr (some 22))), none] [] (58, f, g, pr_r 29 23 26) := by
    intro ha
    have go : (f 23 0 = -1 ∨ zBf f g 26 23) → am_wp l dC dI tc mm4_admitCandidate 1 58 58 (fun r s => r = none ∧ (((f 29 0 = -1 ∨ zBf f g 26 29) ∧ s = (58, f, g, pr_r 26 29 23)) ∨ (¬ (f 29 0 = -1 ∨ zBf f g 26 29) ∧ (f 23 0 = -1 ∨ zBf f g 26 23) ∧ s = (58, f, g, pr_r 29 26 23)) ∨ (¬ (f 29 0 = -1 ∨ zBf f g 26 29) ∧ ¬ (f 23 0 = -1 ∨ zBf f g 26 23) ∧ s = (58, f, g, pr_r 29 23 26)))) 37 [some (.inr (.inr (some 22))), none] [] (58, f, g, pr_r 29 23 26) := by
      intro hb
      iterate 10 (refine am_go rfl (by first | exact True.intro | omega | exact ⟨by decide, Nat.le_of_ble_eq_true rfl, Nat.le_of_ble_eq_true rfl⟩ | exact ⟨by decide, Nat.le_of_ble_eq_true rfl⟩) ?_)
      refine am_vret (x := 0) rfl rfl rfl ⟨rfl, Or.inr (Or.inl ⟨ha, hb, ?_⟩)⟩
      rw [pr_u1, pr_u3]
    iterate 4 (refine am_go rfl (by first | exact True.intro | omega | exact ⟨by decide, Nat.le_of_ble_eq_true rfl, Nat.le_of_ble_eq_true rfl⟩ | exact ⟨by decide, Nat.le_of_ble_eq_true rfl⟩) ?_)
    refine am_if rfl (fun c1 => ?_) (fun c1 => ?_)
    · exact go (Or.inl c1)
    · iterate 4 (refine am_go rfl (by first | exact True.intro | omega | exact ⟨by decide, Nat.le_of_ble_eq_true rfl, Nat.le_of_ble_eq_true rfl⟩ | exact ⟨by decide, Nat.le_of_ble_eq_true rfl⟩) ?_)
      refine am_call rfl (ct_before26_23 h1 (h3 c1)) (by decide) (Nat.le_of_ble_eq_true rfl) (Nat.le_of_ble_eq_true rfl) (Nat.le_of_ble_eq_true rfl) (fun rv s q => ?_)
      obtain ⟨rfl, ⟨rfl, hz⟩ | ⟨rfl, hz⟩⟩ := q
      · refine am_if rfl (fun c2 => ?_) (fun c2 => ?_)
        · omega
        · exact go (Or.inr hz)
      · refine am_if rfl (fun c2 => ?_) (fun c2 => ?_)
        · exact am_vret (x := 0) rfl rfl rfl ⟨rfl, Or.inr (Or.inr ⟨ha, fun u => u.elim c1 hz, rfl⟩)⟩
        · omega
  refine am_enter ok_4_admitCandidate rfl (by decide) (Nat.le_of_ble_eq_true rfl) rfl ?_
  iterate 4 (refine am_go rfl (by first | exact True.intro | omega | exact ⟨by decide, Nat.le_of_ble_eq_true rfl, Nat.le_of_ble_eq_true rfl⟩ | exact ⟨by decide, Nat.le_of_ble_eq_true rfl⟩) ?_)
  refine am_if rfl (fun c1 => ?_) (fun c1 => ?_)
  · exact first (Or.inl c1)
  · iterate 4 (refine am_go rfl (by first | exact True.intro | omega | exact ⟨by decide, Nat.le_of_ble_eq_true rfl, Nat.le_of_ble_eq_true rfl⟩ | exact ⟨by decide, Nat.le_of_ble_eq_true rfl⟩) ?_)
    refine am_call rfl (ct_before26_29 h1 (h2 c1)) (by decide) (Nat.le_of_ble_eq_true rfl) (Nat.le_of_ble_eq_true rfl) (Nat.le_of_ble_eq_true rfl) (fun rv s q => ?_)
    obtain ⟨rfl, ⟨rfl, hz⟩ | ⟨rfl, hz⟩⟩ := q
    · refine am_if rfl (fun c2 => ?_) (fun c2 => ?_)
      · omega
      · exact first (Or.inr hz)
    · refine am_if rfl (fun c2 => ?_) (fun c2 => ?_)
      · exact second (fun u => u.elim c1 hz)
      · omega
set_option maxRecDepth 100000 in
set_option maxHeartbeats 4000000 in
theorem ct_admit29_26_23 (h1 : 0 ≤ f 23 2 ∧ f 23 2 ≤ 9) (h2 : f 29 0 ≠ -1 → f 23 2 = f 29 2) (h3 : f 26 0 ≠ -1 → f 23 2 = f 26 2) : am_Ct l dC dI tc mm4_admitCandidate 1 58 [(.inr (.inr (some 22)))] (58, f, g, pr_r 29 26 23) (fun r s => r = none ∧ (((f 29 0 = -1 ∨ zBf f g 23 29) ∧ s = (58, f, g, pr_r 23 29 26)) ∨ (¬ (f 29 0 = -1 ∨ zBf f g 23 29) ∧ (f 26 0 = -1 ∨ zBf f g 23 26) ∧ s = (58, f, g, pr_r 29 23 26)) ∨ (¬ (f 29 0 = -1 ∨ zBf f g 23 29) ∧ ¬ (f 26 0 = -1 ∨ zBf f g 23 26) ∧ s = (58, f, g, pr_r 29 26 23)))) := by
  have first : (f 29 0 = -1 ∨ zBf f g 23 29) → am_wp l dC dI tc mm4_admitCandidate 1 58 58 (fun r s => r = none ∧ (((f 29 0 = -1 ∨ zBf f g 23 29) ∧ s = (58, f, g, pr_r 23 29 26)) ∨ (¬ (f 29 0 = -1 ∨ zBf f g 23 29) ∧ (f 26 0 = -1 ∨ zBf f g 23 26) ∧ s = (58, f, g, pr_r 29 23 26)) ∨ (¬ (f 29 0 = -1 ∨ zBf f g 23 29) ∧ ¬ (f 26 0 = -1 ∨ zBf f g 23 26) ∧ s = (58, f, g, pr_r 29 26 23)))) 11 [some (.inr (.inr (some 22))), none] [] (58, f, g, pr_r 29 26 23) := by
    intro hb
    iterate 15 (refine am_go rfl (by first | exact True.intro | omega | exact ⟨by decide, Nat.le_of_ble_eq_true rfl, Nat.le_of_ble_eq_true rfl⟩ | exact ⟨by decide, Nat.le_of_ble_eq_true rfl⟩) ?_)
    refine am_vret (x := 0) rfl rfl rfl ⟨rfl, Or.inl ⟨hb, ?_⟩⟩
    rw [pr_u1, pr_u0, pr_u3]
  have second : ¬ (f 29 0 = -1 ∨ zBf f g 23 29) → am_wp l dC dI tc mm4_admitCandidate 1 58 58 (fun r s => r = none ∧ (((f 29 0 = -1 ∨ zBf f g 23 29) ∧ s = (58, f, g, pr_r 23 29 26)) ∨ (¬ (f 29 0 = -1 ∨ zBf f g 23 29) ∧ (f 26 0 = -1 ∨ zBf f g 23 26) ∧ s = (58, f, g, pr_r 29 23 26)) ∨ (¬ (f 29 0 = -1 ∨ zBf f g 23 29) ∧ ¬ (f 26 0 = -1 ∨ zBf f g 23 26) ∧ s = (58, f, g, pr_r 29 26 23)))) 26 [some (.inr (.inr (some 22))), none] [] (58, f, g, pr_r 29 26 23) := by
    intro ha
    have go : (f 26 0 = -1 ∨ zBf f g 23 26) → am_wp l dC dI tc mm4_admitCandidate 1 58 58 (fun r s => r = none ∧ (((f 29 0 = -1 ∨ zBf f g 23 29) ∧ s = (58, f, g, pr_r 23 29 26)) ∨ (¬ (f 29 0 = -1 ∨ zBf f g 23 29) ∧ (f 26 0 = -1 ∨ zBf f g 23 26) ∧ s = (58, f, g, pr_r 29 23 26)) ∨ (¬ (f 29 0 = -1 ∨ zBf f g 23 29) ∧ ¬ (f 26 0 = -1 ∨ zBf f g 23 26) ∧ s = (58, f, g, pr_r 29 26 23)))) 37 [some (.inr (.inr (some 22))), none] [] (58, f, g, pr_r 29 26 23) := by
      intro hb
      iterate 10 (refine am_go rfl (by first | exact True.intro | omega | exact ⟨by decide, Nat.le_of_ble_eq_true rfl, Nat.le_of_ble_eq_true rfl⟩ | exact ⟨by decide, Nat.le_of_ble_eq_true rfl⟩) ?_)
      refine am_vret (x := 0) rfl rfl rfl ⟨rfl, Or.inr (Or.inl ⟨ha, hb, ?_⟩)⟩
      rw [pr_u1, pr_u3]
    iterate 4 (refine am_go rfl (by first | exact True.intro | omega | exact ⟨by decide, Nat.le_of_ble_eq_true rfl, Nat.le_of_ble_eq_true rfl⟩ | exact ⟨by decide, Nat.le_of_ble_eq_true rfl⟩) ?_)
    refine am_if rfl (fun c1 => ?_) (fun c1 => ?_)
    · exact go (Or.inl c1)
    · iterate 4 (refine am_go rfl (by first | exact True.intro | omega | exact ⟨by decide, Nat.le_of_ble_eq_true rfl, Nat.le_of_ble_eq_true rfl⟩ | exact ⟨by decide, Nat.le_of_ble_eq_true rfl⟩) ?_)
      refine am_call rfl (ct_before23_26 h1 (h3 c1)) (by decide) (Nat.le_of_ble_eq_true rfl) (Nat.le_of_ble_eq_true rfl) (Nat.le_of_ble_eq_true rfl) (fun rv s q => ?_)
      obtain ⟨rfl, ⟨rfl, hz⟩ | ⟨rfl, hz⟩⟩ := q
      · refine am_if rfl (fun c2 => ?_) (fun c2 => ?_)
        · omega
        · exact go (Or.inr hz)
      · refine am_if rfl (fun c2 => ?_) (fun c2 => ?_)
        · exact am_vret (x := 0) rfl rfl rfl ⟨rfl, Or.inr (Or.inr ⟨ha, fun u => u.elim c1 hz, rfl⟩)⟩
        · omega
  refine am_enter ok_4_admitCandidate rfl (by decide) (Nat.le_of_ble_eq_true rfl) rfl ?_
  iterate 4 (refine am_go rfl (by first | exact True.intro | omega | exact ⟨by decide, Nat.le_of_ble_eq_true rfl, Nat.le_of_ble_eq_true rfl⟩ | exact ⟨by decide, Nat.le_of_ble_eq_true rfl⟩) ?_)
  refine am_if rfl (fun c1 => ?_) (fun c1 => ?_)
  · exact first (Or.inl c1)
  · iterate 4 (refine am_go rfl (by first | exact True.intro | omega | exact ⟨by decide, Nat.le_of_ble_eq_true rfl, Nat.le_of_ble_eq_true rfl⟩ | exact ⟨by decide, Nat.le_of_ble_eq_true rfl⟩) ?_)
    refine am_call rfl (ct_before23_29 h1 (h2 c1)) (by decide) (Nat.le_of_ble_eq_true rfl) (Nat.le_of_ble_eq_true rfl) (Nat.le_of_ble_eq_true rfl) (fun rv s q => ?_)
    obtain ⟨rfl, ⟨rfl, hz⟩ | ⟨rfl, hz⟩⟩ := q
    · refine am_if rfl (fun c2 => ?_) (fun c2 => ?_)
      · omega
      · exact first (Or.inr hz)
    · refine am_if rfl (fun c2 => ?_) (fun c2 => ?_)
      · exact second (fun u => u.elim c1 hz)
      · omega
theorem ct_admit (hp : zPm a b c) (h1 : 0 ≤ f c 2 ∧ f c 2 ≤ 9) (h2 : f a 0 ≠ -1 → f c 2 = f a 2) (h3 : f b 0 ≠ -1 → f c 2 = f b 2) : am_Ct l dC dI tc mm4_admitCandidate 1 58 [(.inr (.inr (some 22)))] (58, f, g, pr_r a b c) (fun r s => r = none ∧ (((f a 0 = -1 ∨ zBf f g c a) ∧ s = (58, f, g, pr_r c a b)) ∨ (¬ (f a 0 = -1 ∨ zBf f g c a) ∧ (f b 0 = -1 ∨ zBf f g c b) ∧ s = (58, f, g, pr_r a c b)) ∨ (¬ (f a 0 = -1 ∨ zBf f g c a) ∧ ¬ (f b 0 = -1 ∨ zBf f g c b) ∧ s = (58, f, g, pr_r a b c)))) := by
  rcases hp with ⟨rfl, rfl, rfl⟩ | ⟨rfl, rfl, rfl⟩ | ⟨rfl, rfl, rfl⟩ | ⟨rfl, rfl, rfl⟩ | ⟨rfl, rfl, rfl⟩ | ⟨rfl, rfl, rfl⟩
  · exact ct_admit23_26_29 h1 h2 h3
  · exact ct_admit23_29_26 h1 h2 h3
  · exact ct_admit26_23_29 h1 h2 h3
  · exact ct_admit26_29_23 h1 h2 h3
  · exact ct_admit29_23_26 h1 h2 h3
  · exact ct_admit29_26_23 h1 h2 h3
theorem ct_trace (hp : zPm a b c) (rk : Int) (hI : zI f g) (hr : 0 ≤ rk ∧ rk < 2) (ht : zTok f g rk) : am_Ct l dC dI tc mm4_trace 2 58 [(.inr (.inr (some 22))), .inl rk] (58, f, g, pr_r a b c) (fun r t => r = none ∧ ∃ f' g', t = (58, f', g', pr_r a b c) ∧ zRdN g rk f' g' c (f 2 0).toNat ∧ zFrR c f' f g' g) := by
  rcases hp with ⟨rfl, rfl, rfl⟩ | ⟨rfl, rfl, rfl⟩ | ⟨rfl, rfl, rfl⟩ | ⟨rfl, rfl, rfl⟩ | ⟨rfl, rfl, rfl⟩ | ⟨rfl, rfl, rfl⟩
  · exact ct_trace29 rk hI hr ht
  · exact ct_trace26 rk hI hr ht
  · exact ct_trace29 rk hI hr ht
  · exact ct_trace23 rk hI hr ht
  · exact ct_trace26 rk hI hr ht
  · exact ct_trace23 rk hI hr ht
end Adm

section Leaf
variable {l : Launch} {dC : Nat → ClassId} {dI : Nat → Nat → Nat} {tc : Nat → ClassId} {f : Nat → Nat → Int} {g : Nat → Int → Int} {a b c : Nat}
def zPl (g : Nat → Int → Int) (x : Int) : Int := if 0 ≤ x ∧ x < 6 then g 13 x else 0
def zNa (g : Nat → Int → Int) (x y : Int) : Int := if (0 ≤ x ∧ x < 6) ∧ 0 ≤ y ∧ y < 5 then g 14 (x * 5 + y) else 0
def zSl (x y z : Int) : Int := if ((0 ≤ x ∧ x < 6) ∧ 0 ≤ y ∧ y < 5) ∧ 0 ≤ z ∧ z < 4 then (x * 5 + y) * 4 + z else -1
set_option maxRecDepth 100000 in
set_option maxHeartbeats 4000000 in
theorem ct_slotOf (x y z : Int)  : am_Ct l dC dI tc mm2_slotOf 0 58 [.inl x, .inl y, .inl z] (58, f, g, pr_r a b c) (fun r s => r = some (.inl (zSl x y z)) ∧ s = (58, f, g, pr_r a b c)) := by
  unfold zSl
  refine am_enter ok_2_slotOf rfl (by decide) (Nat.le_of_ble_eq_true rfl) rfl ?_
  repeat' first
    | (refine am_go rfl (by first | exact True.intro | omega) ?_)
    | (refine am_if rfl (fun c1 => ?_) (fun c1 => ?_))
    | (refine am_iret rfl rfl rfl ?_)
    | (refine am_zret rfl rfl (by first | exact Or.inl rfl | exact Or.inr rfl) rfl ?_)
    | (refine am_vret (x := 0) rfl rfl rfl ?_)
  all_goals (first | exact ⟨rfl, rfl⟩ | (rw [if_pos (by omega)]; exact ⟨rfl, rfl⟩) | (rw [if_neg (by omega)]; exact ⟨rfl, rfl⟩))
set_option maxRecDepth 100000 in
set_option maxHeartbeats 4000000 in
theorem ct_placesIn (x : Int)  : am_Ct l dC dI tc mm2_placesIn 0 58 [(.inr (.inr (some 12))), .inl x] (58, f, g, pr_r a b c) (fun r s => r = some (.inl (zPl g x)) ∧ s = (58, f, g, pr_r a b c)) := by
  unfold zPl
  refine am_enter ok_2_placesIn rfl (by decide) (Nat.le_of_ble_eq_true rfl) rfl ?_
  repeat' first
    | (refine am_go rfl (by first | exact True.intro | omega) ?_)
    | (refine am_if rfl (fun c1 => ?_) (fun c1 => ?_))
    | (refine am_iret rfl rfl rfl ?_)
    | (refine am_zret rfl rfl (by first | exact Or.inl rfl | exact Or.inr rfl) rfl ?_)
    | (refine am_vret (x := 0) rfl rfl rfl ?_)
  all_goals (first | exact ⟨rfl, rfl⟩ | (rw [if_pos (by omega)]; exact ⟨rfl, rfl⟩) | (rw [if_neg (by omega)]; exact ⟨rfl, rfl⟩))
set_option maxRecDepth 100000 in
set_option maxHeartbeats 4000000 in
theorem ct_alternativesAt (x y : Int)  : am_Ct l dC dI tc mm2_alternativesAt 0 58 [(.inr (.inr (some 12))), .inl x, .inl y] (58, f, g, pr_r a b c) (fun r s => r = some (.inl (zNa g x y)) ∧ s = (58, f, g, pr_r a b c)) := by
  unfold zNa
  refine am_enter ok_2_alternativesAt rfl (by decide) (Nat.le_of_ble_eq_true rfl) rfl ?_
  repeat' first
    | (refine am_go rfl (by first | exact True.intro | omega) ?_)
    | (refine am_if rfl (fun c1 => ?_) (fun c1 => ?_))
    | (refine am_iret rfl rfl rfl ?_)
    | (refine am_zret rfl rfl (by first | exact Or.inl rfl | exact Or.inr rfl) rfl ?_)
    | (refine am_vret (x := 0) rfl rfl rfl ?_)
  all_goals (first | exact ⟨rfl, rfl⟩ | (rw [if_pos (by omega)]; exact ⟨rfl, rfl⟩) | (rw [if_neg (by omega)]; exact ⟨rfl, rfl⟩))
set_option maxRecDepth 100000 in
set_option maxHeartbeats 4000000 in
theorem ct_isBehindNext (x y : Int)  : am_Ct l dC dI tc mm2_isBehindNext 1 58 [(.inr (.inr (some 12))), .inl x, .inl y] (58, f, g, pr_r a b c) (fun r s => r = some (.inl (if f 12 0 < x ∨ zPl g x < y then 1 else 0)) ∧ s = (58, f, g, pr_r a b c)) := by
  refine am_enter ok_2_isBehindNext rfl (by decide) (Nat.le_of_ble_eq_true rfl) rfl ?_
  repeat' first
    | (refine am_callv rfl (ct_placesIn _) (by decide) (Nat.le_of_ble_eq_true rfl) (Nat.le_of_ble_eq_true rfl) ?_)
    | (refine am_go rfl (by first | exact True.intro | omega) ?_)
    | (refine am_if rfl (fun c1 => ?_) (fun c1 => ?_))
    | (refine am_iret rfl rfl rfl ?_)
    | (refine am_zret rfl rfl (by first | exact Or.inl rfl | exact Or.inr rfl) rfl ?_)
    | (refine am_vret (x := 0) rfl rfl rfl ?_)
  all_goals (first | exact ⟨rfl, rfl⟩ | (rw [if_pos (by omega)]; exact ⟨rfl, rfl⟩) | (rw [if_neg (by omega)]; exact ⟨rfl, rfl⟩))
set_option maxRecDepth 100000 in
set_option maxHeartbeats 4000000 in
theorem ct_lkindOf (x y z : Int) : am_Ct l dC dI tc mm2_kindOf 1 58 [(.inr (.inr (some 12))), .inl x, .inl y, .inl z] (58, f, g, pr_r a b c) (fun r s => r = some (.inl (if ((0 ≤ x ∧ x < 6) ∧ 0 ≤ y ∧ y < 5) ∧ 0 ≤ z ∧ z < 4 then g 15 ((x * 5 + y) * 4 + z) else -1)) ∧ s = (58, f, g, pr_r a b c)) := by
  by_cases hz : ((0 ≤ x ∧ x < 6) ∧ 0 ≤ y ∧ y < 5) ∧ 0 ≤ z ∧ z < 4
  · have e1 : zSl x y z = (x * 5 + y) * 4 + z := if_pos hz
    rw [if_pos hz]
    refine am_enter ok_2_kindOf rfl (by decide) (Nat.le_of_ble_eq_true rfl) rfl ?_
    repeat' first
      | (refine am_callv rfl (ct_slotOf _ _ _) (by decide) (Nat.le_of_ble_eq_true rfl) (Nat.le_of_ble_eq_true rfl) ?_; rw [e1])
      | (refine am_go rfl (by first | exact True.intro | omega) ?_)
      | (refine am_if rfl (fun c1 => ?_) (fun c1 => ?_))
      | (refine am_iret rfl rfl rfl ?_)
      | (refine am_zret rfl rfl (by first | exact Or.inl rfl | exact Or.inr rfl) rfl ?_)
      | (refine am_vret (x := 0) rfl rfl rfl ?_)
    all_goals (first | exact ⟨rfl, rfl⟩ | omega)
  · have e1 : zSl x y z = -1 := if_neg hz
    rw [if_neg hz]
    refine am_enter ok_2_kindOf rfl (by decide) (Nat.le_of_ble_eq_true rfl) rfl ?_
    repeat' first
      | (refine am_callv rfl (ct_slotOf _ _ _) (by decide) (Nat.le_of_ble_eq_true rfl) (Nat.le_of_ble_eq_true rfl) ?_; rw [e1])
      | (refine am_go rfl (by first | exact True.intro | omega) ?_)
      | (refine am_if rfl (fun c1 => ?_) (fun c1 => ?_))
      | (refine am_iret rfl rfl rfl ?_)
      | (refine am_zret rfl rfl (by first | exact Or.inl rfl | exact Or.inr rfl) rfl ?_)
      | (refine am_vret (x := 0) rfl rfl rfl ?_)
    all_goals (first | exact ⟨rfl, rfl⟩ | omega)
set_option maxRecDepth 100000 in
set_option maxHeartbeats 4000000 in
theorem ct_lvalueOf (x y z : Int) : am_Ct l dC dI tc mm2_valueOf 1 58 [(.inr (.inr (some 12))), .inl x, .inl y, .inl z] (58, f, g, pr_r a b c) (fun r s => r = some (.inl (if ((0 ≤ x ∧ x < 6) ∧ 0 ≤ y ∧ y < 5) ∧ 0 ≤ z ∧ z < 4 then g 16 ((x * 5 + y) * 4 + z) else -1)) ∧ s = (58, f, g, pr_r a b c)) := by
  by_cases hz : ((0 ≤ x ∧ x < 6) ∧ 0 ≤ y ∧ y < 5) ∧ 0 ≤ z ∧ z < 4
  · have e1 : zSl x y z = (x * 5 + y) * 4 + z := if_pos hz
    rw [if_pos hz]
    refine am_enter ok_2_valueOf rfl (by decide) (Nat.le_of_ble_eq_true rfl) rfl ?_
    repeat' first
      | (refine am_callv rfl (ct_slotOf _ _ _) (by decide) (Nat.le_of_ble_eq_true rfl) (Nat.le_of_ble_eq_true rfl) ?_; rw [e1])
      | (refine am_go rfl (by first | exact True.intro | omega) ?_)
      | (refine am_if rfl (fun c1 => ?_) (fun c1 => ?_))
      | (refine am_iret rfl rfl rfl ?_)
      | (refine am_zret rfl rfl (by first | exact Or.inl rfl | exact Or.inr rfl) rfl ?_)
      | (refine am_vret (x := 0) rfl rfl rfl ?_)
    all_goals (first | exact ⟨rfl, rfl⟩ | omega)
  · have e1 : zSl x y z = -1 := if_neg hz
    rw [if_neg hz]
    refine am_enter ok_2_valueOf rfl (by decide) (Nat.le_of_ble_eq_true rfl) rfl ?_
    repeat' first
      | (refine am_callv rfl (ct_slotOf _ _ _) (by decide) (Nat.le_of_ble_eq_true rfl) (Nat.le_of_ble_eq_true rfl) ?_; rw [e1])
      | (refine am_go rfl (by first | exact True.intro | omega) ?_)
      | (refine am_if rfl (fun c1 => ?_) (fun c1 => ?_))
      | (refine am_iret rfl rfl rfl ?_)
      | (refine am_zret rfl rfl (by first | exact Or.inl rfl | exact Or.inr rfl) rfl ?_)
      | (refine am_vret (x := 0) rfl rfl rfl ?_)
    all_goals (first | exact ⟨rfl, rfl⟩ | omega)
set_option maxRecDepth 100000 in
set_option maxHeartbeats 4000000 in
theorem ct_lcostOf (x y z : Int) : am_Ct l dC dI tc mm2_costOf 1 58 [(.inr (.inr (some 12))), .inl x, .inl y, .inl z] (58, f, g, pr_r a b c) (fun r s => r = some (.inl (if ((0 ≤ x ∧ x < 6) ∧ 0 ≤ y ∧ y < 5) ∧ 0 ≤ z ∧ z < 4 then g 17 ((x * 5 + y) * 4 + z) else -1)) ∧ s = (58, f, g, pr_r a b c)) := by
  by_cases hz : ((0 ≤ x ∧ x < 6) ∧ 0 ≤ y ∧ y < 5) ∧ 0 ≤ z ∧ z < 4
  · have e1 : zSl x y z = (x * 5 + y) * 4 + z := if_pos hz
    rw [if_pos hz]
    refine am_enter ok_2_costOf rfl (by decide) (Nat.le_of_ble_eq_true rfl) rfl ?_
    repeat' first
      | (refine am_callv rfl (ct_slotOf _ _ _) (by decide) (Nat.le_of_ble_eq_true rfl) (Nat.le_of_ble_eq_true rfl) ?_; rw [e1])
      | (refine am_go rfl (by first | exact True.intro | omega) ?_)
      | (refine am_if rfl (fun c1 => ?_) (fun c1 => ?_))
      | (refine am_iret rfl rfl rfl ?_)
      | (refine am_zret rfl rfl (by first | exact Or.inl rfl | exact Or.inr rfl) rfl ?_)
      | (refine am_vret (x := 0) rfl rfl rfl ?_)
    all_goals (first | exact ⟨rfl, rfl⟩ | omega)
  · have e1 : zSl x y z = -1 := if_neg hz
    rw [if_neg hz]
    refine am_enter ok_2_costOf rfl (by decide) (Nat.le_of_ble_eq_true rfl) rfl ?_
    repeat' first
      | (refine am_callv rfl (ct_slotOf _ _ _) (by decide) (Nat.le_of_ble_eq_true rfl) (Nat.le_of_ble_eq_true rfl) ?_; rw [e1])
      | (refine am_go rfl (by first | exact True.intro | omega) ?_)
      | (refine am_if rfl (fun c1 => ?_) (fun c1 => ?_))
      | (refine am_iret rfl rfl rfl ?_)
      | (refine am_zret rfl rfl (by first | exact Or.inl rfl | exact Or.inr rfl) rfl ?_)
      | (refine am_vret (x := 0) rfl rfl rfl ?_)
    all_goals (first | exact ⟨rfl, rfl⟩ | omega)
set_option maxRecDepth 100000 in
set_option maxHeartbeats 4000000 in
theorem ct_hasKind (x y z : Int) (hna : zNa g x y ≤ 4) : am_Ct l dC dI tc mm2_hasKind 1 58 [(.inr (.inr (some 12))), .inl x, .inl y, .inl z] (58, f, g, pr_r a b c) (fun r s => s = (58, f, g, pr_r a b c) ∧ ((r = some (.inl 1) ∧ ∃ q, 0 ≤ q ∧ q < zNa g x y ∧ g 15 ((x * 5 + y) * 4 + q) = z) ∨ (r = some (.inl 0) ∧ ∀ q, 0 ≤ q → q < zNa g x y → g 15 ((x * 5 + y) * 4 + q) ≠ z))) := by
  by_cases hz : (0 ≤ x ∧ x < 6) ∧ 0 ≤ y ∧ y < 5
  · have e1 : zSl x y 0 = (x * 5 + y) * 4 + 0 := if_pos ⟨hz, by omega⟩
    have loop : ∀ (n : Nat) (i : Int), (zNa g x y - i).toNat ≤ n → 0 ≤ i → (∀ q, 0 ≤ q → q < i → g 15 ((x * 5 + y) * 4 + q) ≠ z) → am_wp l dC dI tc mm2_hasKind 1 58 58 (fun r s => s = (58, f, g, pr_r a b c) ∧ ((r = some (.inl 1) ∧ ∃ q, 0 ≤ q ∧ q < zNa g x y ∧ g 15 ((x * 5 + y) * 4 + q) = z) ∨ (r = some (.inl 0) ∧ ∀ q, 0 ≤ q → q < zNa g x y → g 15 ((x * 5 + y) * 4 + q) ≠ z))) 17 [some (.inr (.inr (some 12))), some (.inl x), some (.inl y), some (.inl z), some (.inl ((x * 5 + y) * 4 + 0)), some (.inl (zNa g x y)), some (.inl i)] [] (58, f, g, pr_r a b c) := by
      intro n
      induction n with
      | zero =>
        intro i hn hi hq
        (refine am_go rfl (by first | exact True.intro | omega) ?_)
        (refine am_go rfl (by first | exact True.intro | omega) ?_)
        refine am_if rfl (fun c1 => ?_) (fun c1 => ?_)
        · (refine am_go rfl (by first | exact True.intro | omega) ?_)
          refine am_zret rfl rfl (Or.inl rfl) rfl ?_
          exact ⟨rfl, Or.inr ⟨rfl, fun q h1 h2 => hq q h1 (by omega)⟩⟩
        · omega
      | succ n ih =>
        intro i hn hi hq
        (refine am_go rfl (by first | exact True.intro | omega) ?_)
        (refine am_go rfl (by first | exact True.intro | omega) ?_)
        refine am_if rfl (fun c1 => ?_) (fun c1 => ?_)
        · (refine am_go rfl (by first | exact True.intro | omega) ?_)
          refine am_zret rfl rfl (Or.inl rfl) rfl ?_
          exact ⟨rfl, Or.inr ⟨rfl, fun q h1 h2 => hq q h1 (by omega)⟩⟩
        · (refine am_go rfl (by first | exact True.intro | omega) ?_)
          (refine am_go rfl (by first | exact True.intro | omega) ?_)
          refine am_if rfl (fun c2 => ?_) (fun c2 => ?_)
          · omega
          · iterate 7 (refine am_go rfl (by first | exact True.intro | omega) ?_)
            refine am_if rfl (fun c3 => ?_) (fun c3 => ?_)
            · (refine am_go rfl (by first | exact True.intro | omega) ?_)
              (refine am_go rfl (by first | exact True.intro | omega) ?_)
              refine ih (i + 1) (by omega) (by omega) (fun q h1 h2 => ?_)
              by_cases e : q = i
              · subst e
                have e2 : (x * 5 + y) * 4 + q = (x * 5 + y) * 4 + 0 + q := by omega
                rw [e2]
                exact c3
              · exact hq q h1 (by omega)
            · (refine am_go rfl (by first | exact True.intro | omega) ?_)
              refine am_zret rfl rfl (Or.inr rfl) rfl ?_
              refine ⟨rfl, Or.inl ⟨rfl, i, hi, by omega, ?_⟩⟩
              have e2 : (x * 5 + y) * 4 + i = (x * 5 + y) * 4 + 0 + i := by omega
              rw [e2]
              omega
    refine am_enter ok_2_hasKind rfl (by decide) (Nat.le_of_ble_eq_true rfl) rfl ?_
    iterate 3 (refine am_go rfl (by first | exact True.intro | omega) ?_)
    refine am_callv rfl (ct_slotOf _ _ _) (by decide) (Nat.le_of_ble_eq_true rfl) (Nat.le_of_ble_eq_true rfl) ?_
    rw [e1]
    iterate 3 (refine am_go rfl (by first | exact True.intro | omega) ?_)
    refine am_if rfl (fun c1 => ?_) (fun c1 => ?_)
    · iterate 3 (refine am_go rfl (by first | exact True.intro | omega) ?_)
      refine am_callv rfl (ct_alternativesAt _ _) (by decide) (Nat.le_of_ble_eq_true rfl) (Nat.le_of_ble_eq_true rfl) ?_
      iterate 3 (refine am_go rfl (by first | exact True.intro | omega) ?_)
      exact loop _ 0 (Nat.le_refl _) (by omega) (fun q h1 h2 => by omega)
    · omega
  · have e1 : zSl x y 0 = -1 := if_neg (fun h => hz h.1)
    have e2 : zNa g x y = 0 := if_neg hz
    refine am_enter ok_2_hasKind rfl (by decide) (Nat.le_of_ble_eq_true rfl) rfl ?_
    iterate 3 (refine am_go rfl (by first | exact True.intro | omega) ?_)
    refine am_callv rfl (ct_slotOf _ _ _) (by decide) (Nat.le_of_ble_eq_true rfl) (Nat.le_of_ble_eq_true rfl) ?_
    rw [e1]
    iterate 3 (refine am_go rfl (by first | exact True.intro | omega) ?_)
    refine am_if rfl (fun c1 => ?_) (fun c1 => ?_)
    · omega
    · (refine am_go rfl (by first | exact True.intro | omega) ?_)
      refine am_zret rfl rfl (Or.inl rfl) rfl ?_
      exact ⟨rfl, Or.inr ⟨rfl, fun q h1 h2 => by omega⟩⟩
set_option maxRecDepth 100000 in
set_option maxHeartbeats 4000000 in
theorem ct_fkindOf (x : Int) (hs : f 2 0 ≤ 9) : am_Ct l dC dI tc mm1_kindOf 0 58 [(.inr (.inr (some 2))), .inl x] (58, f, g, pr_r a b c) (fun r s => r = some (.inl (if 0 ≤ x ∧ x < f 2 0 then g 3 x else -1)) ∧ s = (58, f, g, pr_r a b c)) := by
  refine am_enter ok_1_kindOf rfl (by decide) (Nat.le_of_ble_eq_true rfl) rfl ?_
  repeat' first
    | (refine am_go rfl (by first | exact True.intro | omega) ?_)
    | (refine am_if rfl (fun c1 => ?_) (fun c1 => ?_))
    | (refine am_iret rfl rfl rfl ?_)
    | (refine am_zret rfl rfl (by first | exact Or.inl rfl | exact Or.inr rfl) rfl ?_)
    | (refine am_vret (x := 0) rfl rfl rfl ?_)
  all_goals (first | exact ⟨rfl, rfl⟩ | (rw [if_pos (by omega)]; exact ⟨rfl, rfl⟩) | (rw [if_neg (by omega)]; exact ⟨rfl, rfl⟩))
set_option maxRecDepth 100000 in
set_option maxHeartbeats 4000000 in
theorem ct_fmissingCost (x : Int) (hs : f 2 0 ≤ 9) : am_Ct l dC dI tc mm1_missingCost 0 58 [(.inr (.inr (some 2))), .inl x] (58, f, g, pr_r a b c) (fun r s => r = some (.inl (if 0 ≤ x ∧ x < f 2 0 then g 4 x else -1)) ∧ s = (58, f, g, pr_r a b c)) := by
  refine am_enter ok_1_missingCost rfl (by decide) (Nat.le_of_ble_eq_true rfl) rfl ?_
  repeat' first
    | (refine am_go rfl (by first | exact True.intro | omega) ?_)
    | (refine am_if rfl (fun c1 => ?_) (fun c1 => ?_))
    | (refine am_iret rfl rfl rfl ?_)
    | (refine am_zret rfl rfl (by first | exact Or.inl rfl | exact Or.inr rfl) rfl ?_)
    | (refine am_vret (x := 0) rfl rfl rfl ?_)
  all_goals (first | exact ⟨rfl, rfl⟩ | (rw [if_pos (by omega)]; exact ⟨rfl, rfl⟩) | (rw [if_neg (by omega)]; exact ⟨rfl, rfl⟩))
set_option maxRecDepth 100000 in
set_option maxHeartbeats 4000000 in
theorem ct_endsRow (x : Int) (hs : f 2 0 ≤ 9) (hx : 0 ≤ x ∧ x < f 2 0) (hz : g 5 x = 0 ∨ g 5 x = 1) : am_Ct l dC dI tc mm1_endsRow 0 58 [(.inr (.inr (some 2))), .inl x] (58, f, g, pr_r a b c) (fun r s => r = some (.inl (g 5 x)) ∧ s = (58, f, g, pr_r a b c)) := by
  refine am_enter ok_1_endsRow rfl (by decide) (Nat.le_of_ble_eq_true rfl) rfl ?_
  repeat' first
    | (refine am_go rfl (by first | exact True.intro | omega) ?_)
    | (refine am_if rfl (fun c1 => ?_) (fun c1 => ?_))
    | (refine am_iret rfl rfl rfl ?_)
    | (refine am_zret rfl rfl (by first | exact Or.inl rfl | exact Or.inr rfl) rfl ?_)
    | (refine am_vret (x := 0) rfl rfl rfl ?_)
  all_goals (first | omega | (refine ⟨?_, rfl⟩; congr 2; omega))
end Leaf

/-! the reference: its plain methods -/
def mFit (f : Nat → Nat → Int) (g : Nat → Int → Int) (k v w : Int) : Prop := ∃ i, 0 ≤ i ∧ i < f 38 19 ∧ g 51 (3 * i) = k ∧ g 51 (3 * i + 1) = v ∧ g 51 (3 * i + 2) = w
section Mod
variable {l : Launch} {dC : Nat → ClassId} {dI : Nat → Nat → Nat} {tc : Nat → ClassId} {f : Nat → Nat → Int} {g : Nat → Int → Int} {a b c : Nat}
set_option maxRecDepth 100000 in
set_option maxHeartbeats 4000000 in
theorem cm_thrown   : am_Ct l dC dI tc mm6_thrown 0 58 [(.inr (.inr (some 38)))] (58, f, g, pr_r a b c) (fun r s => r = some (.inl (f 38 0)) ∧ s = (58, f, g, pr_r a b c)) := by
  refine am_enter ok_6_thrown rfl (by decide) (Nat.le_of_ble_eq_true rfl) rfl ?_
  repeat' first
    | (refine am_id ?_; simp (config := { decide := true }) only [am_u1_s, am_u1_j, am_u1_c, am_u3_s, am_u3_c])
    | (refine am_go rfl (by first | exact True.intro | omega | exact ⟨by decide, Nat.le_of_ble_eq_true rfl, Nat.le_of_ble_eq_true rfl⟩ | exact ⟨by decide, Nat.le_of_ble_eq_true rfl⟩) ?_)
    | (refine am_if rfl (fun c1 => ?_) (fun c1 => ?_))
    | (refine am_iret rfl rfl rfl ?_)
    | (refine am_zret rfl rfl (by first | exact Or.inl rfl | exact Or.inr rfl) rfl ?_)
    | (refine am_lret rfl rfl rfl ?_)
    | (refine am_vret (x := 0) rfl rfl rfl ?_)
  all_goals (first | exact ⟨rfl, rfl⟩ | (rw [if_pos (by omega), if_pos (by omega)]; exact ⟨rfl, rfl⟩) | (rw [if_neg (by omega), if_neg (by omega)]; exact ⟨rfl, rfl⟩) | (rw [if_pos (by omega)]; exact ⟨rfl, rfl⟩) | (rw [if_neg (by omega)]; exact ⟨rfl, rfl⟩))
set_option maxRecDepth 100000 in
set_option maxHeartbeats 4000000 in
theorem cm_wrong   : am_Ct l dC dI tc mm6_wrong 0 58 [(.inr (.inr (some 38)))] (58, f, g, pr_r a b c) (fun r s => r = some (.inl (f 38 3)) ∧ s = (58, am_u1 f 38 0 0, g, pr_r a b c)) := by
  refine am_enter ok_6_wrong rfl (by decide) (Nat.le_of_ble_eq_true rfl) rfl ?_
  repeat' first
    | (refine am_id ?_; simp (config := { decide := true }) only [am_u1_s, am_u1_j, am_u1_c, am_u3_s, am_u3_c])
    | (refine am_go rfl (by first | exact True.intro | omega | exact ⟨by decide, Nat.le_of_ble_eq_true rfl, Nat.le_of_ble_eq_true rfl⟩ | exact ⟨by decide, Nat.le_of_ble_eq_true rfl⟩) ?_)
    | (refine am_if rfl (fun c1 => ?_) (fun c1 => ?_))
    | (refine am_iret rfl rfl rfl ?_)
    | (refine am_zret rfl rfl (by first | exact Or.inl rfl | exact Or.inr rfl) rfl ?_)
    | (refine am_lret rfl rfl rfl ?_)
    | (refine am_vret (x := 0) rfl rfl rfl ?_)
  all_goals (first | exact ⟨rfl, rfl⟩ | (rw [if_pos (by omega), if_pos (by omega)]; exact ⟨rfl, rfl⟩) | (rw [if_neg (by omega), if_neg (by omega)]; exact ⟨rfl, rfl⟩) | (rw [if_pos (by omega)]; exact ⟨rfl, rfl⟩) | (rw [if_neg (by omega)]; exact ⟨rfl, rfl⟩))
set_option maxRecDepth 100000 in
set_option maxHeartbeats 4000000 in
theorem cm_clear   : am_Ct l dC dI tc mm6_clear 0 58 [(.inr (.inr (some 38)))] (58, f, g, pr_r a b c) (fun r s => r = some (.inl (f 38 13)) ∧ s = (58, am_u1 (am_u1 (am_u1 f 38 0 0) 38 13 0) 38 21 0, g, pr_r a b c)) := by
  refine am_enter ok_6_clear rfl (by decide) (Nat.le_of_ble_eq_true rfl) rfl ?_
  repeat' first
    | (refine am_id ?_; simp (config := { decide := true }) only [am_u1_s, am_u1_j, am_u1_c, am_u3_s, am_u3_c])
    | (refine am_go rfl (by first | exact True.intro | omega | exact ⟨by decide, Nat.le_of_ble_eq_true rfl, Nat.le_of_ble_eq_true rfl⟩ | exact ⟨by decide, Nat.le_of_ble_eq_true rfl⟩) ?_)
    | (refine am_if rfl (fun c1 => ?_) (fun c1 => ?_))
    | (refine am_iret rfl rfl rfl ?_)
    | (refine am_zret rfl rfl (by first | exact Or.inl rfl | exact Or.inr rfl) rfl ?_)
    | (refine am_lret rfl rfl rfl ?_)
    | (refine am_vret (x := 0) rfl rfl rfl ?_)
  all_goals (first | exact ⟨rfl, rfl⟩ | (rw [if_pos (by omega), if_pos (by omega)]; exact ⟨rfl, rfl⟩) | (rw [if_neg (by omega), if_neg (by omega)]; exact ⟨rfl, rfl⟩) | (rw [if_pos (by omega)]; exact ⟨rfl, rfl⟩) | (rw [if_neg (by omega)]; exact ⟨rfl, rfl⟩))
set_option maxRecDepth 100000 in
set_option maxHeartbeats 4000000 in
theorem cm_at (x : Int) (h8 : f 38 28 ≤ 80) : am_Ct l dC dI tc mm6_at 0 58 [(.inr (.inr (some 38))), .inl x] (58, f, g, pr_r a b c) (fun r s => r = some (.inl (if 0 ≤ x ∧ x < f 38 28 then g 57 x else -1)) ∧ s = (58, am_u1 f 38 0 0, g, pr_r a b c)) := by
  refine am_enter ok_6_at rfl (by decide) (Nat.le_of_ble_eq_true rfl) rfl ?_
  repeat' first
    | (refine am_id ?_; simp (config := { decide := true }) only [am_u1_s, am_u1_j, am_u1_c, am_u3_s, am_u3_c])
    | (refine am_go rfl (by first | exact True.intro | omega | exact ⟨by decide, Nat.le_of_ble_eq_true rfl, Nat.le_of_ble_eq_true rfl⟩ | exact ⟨by decide, Nat.le_of_ble_eq_true rfl⟩) ?_)
    | (refine am_if rfl (fun c1 => ?_) (fun c1 => ?_))
    | (refine am_iret rfl rfl rfl ?_)
    | (refine am_zret rfl rfl (by first | exact Or.inl rfl | exact Or.inr rfl) rfl ?_)
    | (refine am_lret rfl rfl rfl ?_)
    | (refine am_vret (x := 0) rfl rfl rfl ?_)
  all_goals (first | exact ⟨rfl, rfl⟩ | (rw [if_pos (by omega)]; exact ⟨rfl, rfl⟩) | (rw [if_neg (by omega)]; exact ⟨rfl, rfl⟩))
set_option maxRecDepth 100000 in
set_option maxHeartbeats 4000000 in
theorem cm_sign (x : Int) (hl : 0 ≤ f 38 1 ∧ f 38 1 ≤ 60) : am_Ct l dC dI tc mm6_sign 0 58 [(.inr (.inr (some 38))), .inl x] (58, f, g, pr_r a b c) (fun r s => r = some (.inl (if (x < 32 ∨ 126 < x ∨ f 38 1 = 60) then 0 else 1)) ∧ s = (if (x < 32 ∨ 126 < x ∨ f 38 1 = 60) then (58, am_u1 f 38 0 0, g, pr_r a b c) else (58, am_u1 (am_u1 f 38 0 0) 38 1 (f 38 1 + 1), am_u3 g 39 (f 38 1) x, pr_r a b c))) := by
  refine am_enter ok_6_sign rfl (by decide) (Nat.le_of_ble_eq_true rfl) rfl ?_
  repeat' first
    | (refine am_id ?_; simp (config := { decide := true }) only [am_u1_s, am_u1_j, am_u1_c, am_u3_s, am_u3_c])
    | (refine am_go rfl (by first | exact True.intro | omega | exact ⟨by decide, Nat.le_of_ble_eq_true rfl, Nat.le_of_ble_eq_true rfl⟩ | exact ⟨by decide, Nat.le_of_ble_eq_true rfl⟩) ?_)
    | (refine am_if rfl (fun c1 => ?_) (fun c1 => ?_))
    | (refine am_iret rfl rfl rfl ?_)
    | (refine am_zret rfl rfl (by first | exact Or.inl rfl | exact Or.inr rfl) rfl ?_)
    | (refine am_lret rfl rfl rfl ?_)
    | (refine am_vret (x := 0) rfl rfl rfl ?_)
  all_goals (first | exact ⟨rfl, rfl⟩ | (rw [if_pos (by omega), if_pos (by omega)]; exact ⟨rfl, rfl⟩) | (rw [if_neg (by omega), if_neg (by omega)]; exact ⟨rfl, rfl⟩) | (rw [if_pos (by omega)]; exact ⟨rfl, rfl⟩) | (rw [if_neg (by omega)]; exact ⟨rfl, rfl⟩))
set_option maxRecDepth 100000 in
set_option maxHeartbeats 4000000 in
theorem cm_put (x : Int) (h9 : 0 ≤ f 38 28 ∧ f 38 28 < 80) : am_Ct l dC dI tc mm6_put 0 58 [(.inr (.inr (some 38))), .inl x] (58, f, g, pr_r a b c) (fun r s => r = none ∧ s = (58, am_u1 f 38 28 (f 38 28 + 1), am_u3 g 57 (f 38 28) x, pr_r a b c)) := by
  refine am_enter ok_6_put rfl (by decide) (Nat.le_of_ble_eq_true rfl) rfl ?_
  repeat' first
    | (refine am_id ?_; simp (config := { decide := true }) only [am_u1_s, am_u1_j, am_u1_c, am_u3_s, am_u3_c])
    | (refine am_go rfl (by first | exact True.intro | omega | exact ⟨by decide, Nat.le_of_ble_eq_true rfl, Nat.le_of_ble_eq_true rfl⟩ | exact ⟨by decide, Nat.le_of_ble_eq_true rfl⟩) ?_)
    | (refine am_if rfl (fun c1 => ?_) (fun c1 => ?_))
    | (refine am_iret rfl rfl rfl ?_)
    | (refine am_zret rfl rfl (by first | exact Or.inl rfl | exact Or.inr rfl) rfl ?_)
    | (refine am_lret rfl rfl rfl ?_)
    | (refine am_vret (x := 0) rfl rfl rfl ?_)
  all_goals (first | exact ⟨rfl, rfl⟩ | omega)
set_option maxRecDepth 100000 in
set_option maxHeartbeats 4000000 in
theorem cm_letter (x : Int) : am_Ct l dC dI tc mm6_letter 0 58 [.inl x] (58, f, g, pr_r a b c) (fun r s => r = some (.inl (zLet x)) ∧ s = (58, f, g, pr_r a b c)) := by
  refine am_enter ok_6_letter rfl (by decide) (Nat.le_of_ble_eq_true rfl) rfl ?_
  (refine am_go rfl (by first | exact True.intro | omega | exact ⟨by decide, Nat.le_of_ble_eq_true rfl, Nat.le_of_ble_eq_true rfl⟩ | exact ⟨by decide, Nat.le_of_ble_eq_true rfl⟩) ?_)
  refine am_sw rfl (by decide +kernel) (fun h => ?_) (fun j t hj hx => ?_)
  · have e : zLet x = 76 := by
      unfold zLet
      repeat' split
      all_goals omega
    (refine am_go rfl (by first | exact True.intro | omega | exact ⟨by decide, Nat.le_of_ble_eq_true rfl, Nat.le_of_ble_eq_true rfl⟩ | exact ⟨by decide, Nat.le_of_ble_eq_true rfl⟩) ?_)
    rw [← e]
    exact am_iret rfl rfl rfl ⟨rfl, rfl⟩
  · rcases j with _ | _ | _ | _ | _ | _ | _ | _ | j
    all_goals first
      | (cases hj; subst hx; (refine am_go rfl (by first | exact True.intro | omega | exact ⟨by decide, Nat.le_of_ble_eq_true rfl, Nat.le_of_ble_eq_true rfl⟩ | exact ⟨by decide, Nat.le_of_ble_eq_true rfl⟩) ?_); exact am_iret rfl rfl rfl ⟨rfl, rfl⟩)
      | (simp [am_at] at hj)
set_option maxRecDepth 100000 in
set_option maxHeartbeats 4000000 in
theorem cm_alternative (x y : Int) (hx : 0 ≤ x ∧ x < 10) (h5 : 0 ≤ g 55 x ∧ g 55 x ≤ 6) (h6 : 0 ≤ g 56 x ∧ g 56 x ≤ 6) (hy : -1 ≤ y ∧ y ≤ 4) : am_Ct l dC dI tc mm6_alternative 0 58 [(.inr (.inr (some 38))), .inl x, .inl y] (58, f, g, pr_r a b c) (fun r s => r = some (.inl (4 * (5 * g 55 x + g 56 x) + y)) ∧ s = (58, f, g, pr_r a b c)) := by
  refine am_enter ok_6_alternative rfl (by decide) (Nat.le_of_ble_eq_true rfl) rfl ?_
  repeat' first
    | (refine am_id ?_; simp (config := { decide := true }) only [am_u1_s, am_u1_j, am_u1_c, am_u3_s, am_u3_c])
    | (refine am_go rfl (by first | exact True.intro | omega | exact ⟨by decide, Nat.le_of_ble_eq_true rfl, Nat.le_of_ble_eq_true rfl⟩ | exact ⟨by decide, Nat.le_of_ble_eq_true rfl⟩) ?_)
    | (refine am_if rfl (fun c1 => ?_) (fun c1 => ?_))
    | (refine am_iret rfl rfl rfl ?_)
    | (refine am_zret rfl rfl (by first | exact Or.inl rfl | exact Or.inr rfl) rfl ?_)
    | (refine am_lret rfl rfl rfl ?_)
    | (refine am_vret (x := 0) rfl rfl rfl ?_)
  all_goals (first | exact ⟨rfl, rfl⟩ | (rw [if_pos (by omega), if_pos (by omega)]; exact ⟨rfl, rfl⟩) | (rw [if_neg (by omega), if_neg (by omega)]; exact ⟨rfl, rfl⟩) | (rw [if_pos (by omega)]; exact ⟨rfl, rfl⟩) | (rw [if_neg (by omega)]; exact ⟨rfl, rfl⟩))
set_option maxRecDepth 100000 in
set_option maxHeartbeats 4000000 in
theorem cm_isFit (x y z : Int) (hc : 0 ≤ f 38 19 ∧ f 38 19 ≤ 60) : am_Ct l dC dI tc mm6_isFit 0 58 [(.inr (.inr (some 38))), .inl x, .inl y, .inl z] (58, f, g, pr_r a b c) (fun r s => (s = (58, f, g, pr_r a b c) ∧ ((r = some (.inl 1) ∧ mFit f g x y z) ∨ (r = some (.inl 0) ∧ ¬ mFit f g x y z)))) := by
  refine am_enter ok_6_isFit rfl (by decide) (Nat.le_of_ble_eq_true rfl) rfl ?_
  have loop : ∀ (n : Nat) (i b0 : Int), i + n = f 38 19 → 0 ≤ i → ((b0 = 1 ∧ mFit f g x y z) ∨ (b0 = 0 ∧ ∀ j, 0 ≤ j → j < i → ¬ (g 51 (3 * j) = x ∧ g 51 (3 * j + 1) = y ∧ g 51 (3 * j + 2) = z))) → am_wp l dC dI tc mm6_isFit 0 58 58 (fun r s => (s = (58, f, g, pr_r a b c) ∧ ((r = some (.inl 1) ∧ mFit f g x y z) ∨ (r = some (.inl 0) ∧ ¬ mFit f g x y z)))) 4 [some (.inr (.inr (some 38))), some (.inl x), some (.inl y), some (.inl z), some (.inl b0), some (.inl i)] [] (58, f, g, pr_r a b c) := by
    intro n
    induction n with
    | zero =>
      intro i b0 hi h0 h
      iterate 3 (refine am_go rfl (by first | exact True.intro | omega | exact ⟨by decide, Nat.le_of_ble_eq_true rfl, Nat.le_of_ble_eq_true rfl⟩ | exact ⟨by decide, Nat.le_of_ble_eq_true rfl⟩) ?_)
      refine am_if rfl (fun c1 => ?_) (fun c1 => by omega)
      (refine am_go rfl (by first | exact True.intro | omega | exact ⟨by decide, Nat.le_of_ble_eq_true rfl, Nat.le_of_ble_eq_true rfl⟩ | exact ⟨by decide, Nat.le_of_ble_eq_true rfl⟩) ?_)
      rcases h with ⟨rfl, h⟩ | ⟨rfl, h⟩
      · exact am_zret rfl rfl (Or.inr rfl) rfl ⟨rfl, Or.inl ⟨rfl, h⟩⟩
      · exact am_zret rfl rfl (Or.inl rfl) rfl ⟨rfl, Or.inr ⟨rfl, fun ⟨j, j1, j2, j3⟩ => h j j1 (by omega) j3⟩⟩
    | succ n ih =>
      intro i b0 hi h0 h
      iterate 3 (refine am_go rfl (by first | exact True.intro | omega | exact ⟨by decide, Nat.le_of_ble_eq_true rfl, Nat.le_of_ble_eq_true rfl⟩ | exact ⟨by decide, Nat.le_of_ble_eq_true rfl⟩) ?_)
      refine am_if rfl (fun c1 => by omega) (fun c1 => ?_)
      (refine am_go rfl (by first | exact True.intro | omega | exact ⟨by decide, Nat.le_of_ble_eq_true rfl, Nat.le_of_ble_eq_true rfl⟩ | exact ⟨by decide, Nat.le_of_ble_eq_true rfl⟩) ?_)
      rcases h with ⟨rfl, h⟩ | ⟨rfl, h⟩
      · refine am_if rfl (fun c2 => ?_) (fun c2 => by omega)
        iterate 5 (refine am_go rfl (by first | exact True.intro | omega | exact ⟨by decide, Nat.le_of_ble_eq_true rfl, Nat.le_of_ble_eq_true rfl⟩ | exact ⟨by decide, Nat.le_of_ble_eq_true rfl⟩) ?_)
        exact ih (i + 1) 1 (by omega) (by omega) (Or.inl ⟨rfl, h⟩)
      · refine am_if rfl (fun c2 => by omega) (fun c2 => ?_)
        have no : ¬ (g 51 (3 * i) = x ∧ g 51 (3 * i + 1) = y ∧ g 51 (3 * i + 2) = z) → ∀ j, 0 ≤ j → j < i + 1 → ¬ (g 51 (3 * j) = x ∧ g 51 (3 * j + 1) = y ∧ g 51 (3 * j + 2) = z) := by
          intro hn j j1 j2
          by_cases u : j = i
          · rw [u]; exact hn
          · exact h j j1 (by omega)
        iterate 7 (refine am_go rfl (by first | exact True.intro | omega | exact ⟨by decide, Nat.le_of_ble_eq_true rfl, Nat.le_of_ble_eq_true rfl⟩ | exact ⟨by decide, Nat.le_of_ble_eq_true rfl⟩) ?_)
        refine am_if rfl (fun c3 => ?_) (fun c3 => ?_)
        · iterate 4 (refine am_go rfl (by first | exact True.intro | omega | exact ⟨by decide, Nat.le_of_ble_eq_true rfl, Nat.le_of_ble_eq_true rfl⟩ | exact ⟨by decide, Nat.le_of_ble_eq_true rfl⟩) ?_)
          exact ih (i + 1) 0 (by omega) (by omega) (Or.inr ⟨rfl, no (fun u => c3 u.1)⟩)
        · iterate 9 (refine am_go rfl (by first | exact True.intro | omega | exact ⟨by decide, Nat.le_of_ble_eq_true rfl, Nat.le_of_ble_eq_true rfl⟩ | exact ⟨by decide, Nat.le_of_ble_eq_true rfl⟩) ?_)
          refine am_if rfl (fun c4 => ?_) (fun c4 => ?_)
          · iterate 4 (refine am_go rfl (by first | exact True.intro | omega | exact ⟨by decide, Nat.le_of_ble_eq_true rfl, Nat.le_of_ble_eq_true rfl⟩ | exact ⟨by decide, Nat.le_of_ble_eq_true rfl⟩) ?_)
            exact ih (i + 1) 0 (by omega) (by omega) (Or.inr ⟨rfl, no (fun u => c4 u.2.1)⟩)
          · iterate 9 (refine am_go rfl (by first | exact True.intro | omega | exact ⟨by decide, Nat.le_of_ble_eq_true rfl, Nat.le_of_ble_eq_true rfl⟩ | exact ⟨by decide, Nat.le_of_ble_eq_true rfl⟩) ?_)
            refine am_if rfl (fun c5 => ?_) (fun c5 => ?_)
            · iterate 4 (refine am_go rfl (by first | exact True.intro | omega | exact ⟨by decide, Nat.le_of_ble_eq_true rfl, Nat.le_of_ble_eq_true rfl⟩ | exact ⟨by decide, Nat.le_of_ble_eq_true rfl⟩) ?_)
              exact ih (i + 1) 0 (by omega) (by omega) (Or.inr ⟨rfl, no (fun u => c5 u.2.2)⟩)
            · iterate 5 (refine am_go rfl (by first | exact True.intro | omega | exact ⟨by decide, Nat.le_of_ble_eq_true rfl, Nat.le_of_ble_eq_true rfl⟩ | exact ⟨by decide, Nat.le_of_ble_eq_true rfl⟩) ?_)
              exact ih (i + 1) 1 (by omega) (by omega) (Or.inl ⟨rfl, i, h0, by omega, by omega, by omega, by omega⟩)
  iterate 4 (refine am_go rfl (by first | exact True.intro | omega | exact ⟨by decide, Nat.le_of_ble_eq_true rfl, Nat.le_of_ble_eq_true rfl⟩ | exact ⟨by decide, Nat.le_of_ble_eq_true rfl⟩) ?_)
  exact loop (f 38 19).toNat 0 0 (by omega) (by omega) (Or.inr ⟨rfl, fun j _ _ => by omega⟩)
set_option maxRecDepth 100000 in
set_option maxHeartbeats 4000000 in
theorem cm_fits (x y z : Int) (hc : 0 ≤ f 38 19 ∧ f 38 19 ≤ 60) : am_Ct l dC dI tc mm6_fits 1 58 [(.inr (.inr (some 38))), .inl x, .inl y, .inl z] (58, f, g, pr_r a b c) (fun r s => ((((x ≠ 2 ∧ x ≠ 6) ∨ (y < 0 ∨ 1000 ≤ y) ∨ z < 0 ∨ 1000 ≤ z) ∨ 60 ≤ f 38 19 ∨ mFit f g x y z) ∧ r = some (.inl 0) ∧ s = (58, (am_u1 f 38 0 0), g, pr_r a b c)) ∨ (¬ (((x ≠ 2 ∧ x ≠ 6) ∨ (y < 0 ∨ 1000 ≤ y) ∨ z < 0 ∨ 1000 ≤ z) ∨ 60 ≤ f 38 19 ∨ mFit f g x y z) ∧ r = some (.inl 1) ∧ s = (58, am_u1 (am_u1 (am_u1 f 38 0 0) 38 19 (f 38 19 + 1)) 38 21 0, am_u3 (am_u3 (am_u3 g 51 (3 * f 38 19) x) 51 (3 * f 38 19 + 1) y) 51 (3 * f 38 19 + 2) z, pr_r a b c))) := by
  have hf0 : (am_u1 f 38 0 0) 38 19 = f 38 19 := am_u1_j (by decide)
  have hm : mFit (am_u1 f 38 0 0) g x y z ↔ mFit f g x y z := by
    unfold mFit
    rw [hf0]
  refine am_enter ok_6_fits rfl (by decide) (Nat.le_of_ble_eq_true rfl) rfl ?_
  repeat' first
    | (refine am_id ?_; simp (config := { decide := true }) only [am_u1_s, am_u1_j, am_u1_c, am_u3_s, am_u3_c])
    | (refine am_go rfl (by first | exact True.intro | omega | exact ⟨by decide, Nat.le_of_ble_eq_true rfl, Nat.le_of_ble_eq_true rfl⟩ | exact ⟨by decide, Nat.le_of_ble_eq_true rfl⟩) ?_)
    | (refine am_if rfl (fun c1 => ?_) (fun c1 => ?_))
    | (refine am_iret rfl rfl rfl ?_)
    | (refine am_zret rfl rfl (by first | exact Or.inl rfl | exact Or.inr rfl) rfl ?_)
    | (refine am_lret rfl rfl rfl ?_)
    | (refine am_vret (x := 0) rfl rfl rfl ?_)
  all_goals first | (exact Or.inl ⟨Or.inl (by omega), rfl, rfl⟩) | (exact Or.inl ⟨Or.inr (Or.inl (by omega)), rfl, rfl⟩) | skip
  all_goals (refine am_call rfl (cm_isFit x y z (by rw [hf0]; exact hc)) (by decide) (Nat.le_of_ble_eq_true rfl) (Nat.le_of_ble_eq_true rfl) (Nat.le_of_ble_eq_true rfl) (fun rv s q => ?_); rcases q with ⟨rfl, ⟨rfl, q1⟩ | ⟨rfl, q1⟩⟩)
  all_goals (rw [hm] at q1)
  all_goals (repeat' first | (refine am_id ?_; simp (config := { decide := true }) only [am_u1_s, am_u1_j, am_u1_c, am_u3_s, am_u3_c]) | (refine am_go rfl (by first | exact True.intro | omega | exact ⟨by decide, Nat.le_of_ble_eq_true rfl, Nat.le_of_ble_eq_true rfl⟩ | exact ⟨by decide, Nat.le_of_ble_eq_true rfl⟩) ?_) | (refine am_if rfl (fun c1 => ?_) (fun c1 => ?_)) | (refine am_zret rfl rfl (by first | exact Or.inl rfl | exact Or.inr rfl) rfl ?_))
  all_goals first | (exact Or.inl ⟨Or.inr (Or.inr q1), rfl, rfl⟩) | (refine Or.inr ⟨fun u => u.elim (fun u => by omega) (fun u => u.elim (fun u => by omega) q1), rfl, rfl⟩) | omega
end Mod

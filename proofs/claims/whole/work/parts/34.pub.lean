theorem am_cmp_lt {x y : Int} : am_cmp x y < 0 ↔ x < y := by
  unfold am_cmp
  split
  · omega
  · split <;> omega
theorem am_cmp_le {x y : Int} : am_cmp x y ≤ 0 ↔ x ≤ y := by
  unfold am_cmp
  split
  · omega
  · split <;> omega
section Pub
variable {l : Launch} {dC : Nat → ClassId} {dI : Nat → Nat → Nat} {tc : Nat → ClassId} {f : Nat → Nat → Int} {g : Nat → Int → Int} {a b c : Nat}
set_option maxRecDepth 100000 in
set_option maxHeartbeats 4000000 in
theorem ct_wrong   : am_Ct l dC dI tc mm0_wrong 0 58 [(.inr (.inr (some 0)))] (58, f, g, pr_r a b c) (fun r s => r = some (.inl (f 0 2)) ∧ s = (58, f, g, pr_r a b c)) := by
  refine am_enter ok_0_wrong rfl (by decide) (Nat.le_of_ble_eq_true rfl) rfl ?_
  repeat' first
    | (refine am_id ?_; simp (config := { decide := true }) only [am_u1_s, am_u1_j, am_u1_c, am_u3_s, am_u3_c])
    | (refine am_go rfl (by first | exact True.intro | omega | exact ⟨by decide, Nat.le_of_ble_eq_true rfl, Nat.le_of_ble_eq_true rfl⟩ | exact ⟨by decide, Nat.le_of_ble_eq_true rfl⟩) ?_)
    | (refine am_if rfl (fun c1 => ?_) (fun c1 => ?_))
    | (refine am_iret rfl rfl rfl ?_)
    | (refine am_zret rfl rfl (by first | exact Or.inl rfl | exact Or.inr rfl) rfl ?_)
    | (refine am_lret rfl rfl rfl ?_)
    | (refine am_vret (x := 0) rfl rfl rfl ?_)
  all_goals (first | exact ⟨rfl, rfl⟩ | (rw [if_pos (by omega), if_pos (by omega)]; exact ⟨rfl, rfl⟩) | (rw [if_neg (by omega), if_neg (by omega)]; exact ⟨rfl, rfl⟩) | (rw [if_pos (by omega)]; exact ⟨rfl, rfl⟩) | (rw [if_neg (by omega)]; exact ⟨rfl, rfl⟩))
set_option maxRecDepth 100000 in
set_option maxHeartbeats 4000000 in
theorem ct_at (x : Int)  : am_Ct l dC dI tc mm0_at 0 58 [(.inr (.inr (some 0))), .inl x] (58, f, g, pr_r a b c) (fun r s => r = some (.inl (if (0 ≤ x ∧ x < f 0 9) ∧ x < 42 then g 37 x else -1)) ∧ s = (58, f, g, pr_r a b c)) := by
  refine am_enter ok_0_at rfl (by decide) (Nat.le_of_ble_eq_true rfl) rfl ?_
  repeat' first
    | (refine am_go rfl (by first | exact True.intro | omega | exact ⟨by decide, Nat.le_of_ble_eq_true rfl, Nat.le_of_ble_eq_true rfl⟩ | exact ⟨by decide, Nat.le_of_ble_eq_true rfl⟩) ?_)
    | (refine am_if rfl (fun c1 => ?_) (fun c1 => ?_))
    | (refine am_iret rfl rfl rfl ?_)
    | (refine am_zret rfl rfl (by first | exact Or.inl rfl | exact Or.inr rfl) rfl ?_)
    | (refine am_lret rfl rfl rfl ?_)
    | (refine am_vret (x := 0) rfl rfl rfl ?_)
  all_goals (first | exact ⟨rfl, rfl⟩ | (rw [if_pos (by omega), if_pos (by omega)]; exact ⟨rfl, rfl⟩) | (rw [if_neg (by omega), if_neg (by omega)]; exact ⟨rfl, rfl⟩) | (rw [if_pos (by omega)]; exact ⟨rfl, rfl⟩) | (rw [if_neg (by omega)]; exact ⟨rfl, rfl⟩))
set_option maxRecDepth 100000 in
set_option maxHeartbeats 4000000 in
theorem ct_put (x : Int) (hx : 0 ≤ x ∧ x < 65536) (h9 : 0 ≤ f 0 9 ∧ f 0 9 < 42) : am_Ct l dC dI tc mm0_put 0 58 [(.inr (.inr (some 0))), .inl x] (58, f, g, pr_r a b c) (fun r s => r = none ∧ s = (58, am_u1 f 0 9 (f 0 9 + 1), am_u3 g 37 (f 0 9) x, pr_r a b c)) := by
  refine am_enter ok_0_put rfl (by decide) (Nat.le_of_ble_eq_true rfl) rfl ?_
  repeat' first
    | (refine am_id ?_; simp (config := { decide := true }) only [am_u1_s, am_u1_j, am_u1_c, am_u3_s, am_u3_c])
    | (refine am_go rfl (by first | exact True.intro | omega | exact ⟨by decide, Nat.le_of_ble_eq_true rfl, Nat.le_of_ble_eq_true rfl⟩ | exact ⟨by decide, Nat.le_of_ble_eq_true rfl⟩) ?_)
    | (refine am_if rfl (fun c1 => ?_) (fun c1 => ?_))
    | (refine am_iret rfl rfl rfl ?_)
    | (refine am_zret rfl rfl (by first | exact Or.inl rfl | exact Or.inr rfl) rfl ?_)
    | (refine am_lret rfl rfl rfl ?_)
    | (refine am_vret (x := 0) rfl rfl rfl ?_)
  all_goals (first | exact ⟨rfl, rfl⟩ | omega)
set_option maxRecDepth 100000 in
set_option maxHeartbeats 4000000 in
theorem ct_isNoRank (x : Int)  : am_Ct l dC dI tc mm0_isNoRank 0 58 [.inl x] (58, f, g, pr_r a b c) (fun r s => r = some (.inl (if x < 0 ∨ 2 ≤ x then 1 else 0)) ∧ s = (58, f, g, pr_r a b c)) := by
  refine am_enter ok_0_isNoRank rfl (by decide) (Nat.le_of_ble_eq_true rfl) rfl ?_
  repeat' first
    | (refine am_go rfl (by first | exact True.intro | omega | exact ⟨by decide, Nat.le_of_ble_eq_true rfl, Nat.le_of_ble_eq_true rfl⟩ | exact ⟨by decide, Nat.le_of_ble_eq_true rfl⟩) ?_)
    | (refine am_if rfl (fun c1 => ?_) (fun c1 => ?_))
    | (refine am_iret rfl rfl rfl ?_)
    | (refine am_zret rfl rfl (by first | exact Or.inl rfl | exact Or.inr rfl) rfl ?_)
    | (refine am_lret rfl rfl rfl ?_)
    | (refine am_vret (x := 0) rfl rfl rfl ?_)
  all_goals (first | exact ⟨rfl, rfl⟩ | (rw [if_pos (by omega), if_pos (by omega)]; exact ⟨rfl, rfl⟩) | (rw [if_neg (by omega), if_neg (by omega)]; exact ⟨rfl, rfl⟩) | (rw [if_pos (by omega)]; exact ⟨rfl, rfl⟩) | (rw [if_neg (by omega)]; exact ⟨rfl, rfl⟩))
set_option maxRecDepth 100000 in
set_option maxHeartbeats 4000000 in
theorem ct_clear   : am_Ct l dC dI tc mm0_clear 1 58 [(.inr (.inr (some 0)))] (58, f, g, pr_r a b c) (fun r s => r = some (.inl (f 12 0)) ∧ s = (58, am_u1 (am_u1 f 12 0 0) 22 4 0, am_fz (am_fz g 13 6) 14 30, pr_r a b c)) := by
  refine am_enter ok_0_clear rfl (by decide) (Nat.le_of_ble_eq_true rfl) rfl ?_
  repeat' first
    | (refine am_calln rfl (ct_removeAll) (by decide) (Nat.le_of_ble_eq_true rfl) (Nat.le_of_ble_eq_true rfl) ?_)
    | (refine am_calln rfl (ct_forget) (by decide) (Nat.le_of_ble_eq_true rfl) (Nat.le_of_ble_eq_true rfl) ?_)
    | (refine am_id ?_; simp (config := { decide := true }) only [am_u1_s, am_u1_j, am_u1_c, am_u3_s, am_u3_c])
    | (refine am_go rfl (by first | exact True.intro | omega | exact ⟨by decide, Nat.le_of_ble_eq_true rfl, Nat.le_of_ble_eq_true rfl⟩ | exact ⟨by decide, Nat.le_of_ble_eq_true rfl⟩) ?_)
    | (refine am_if rfl (fun c1 => ?_) (fun c1 => ?_))
    | (refine am_iret rfl rfl rfl ?_)
    | (refine am_zret rfl rfl (by first | exact Or.inl rfl | exact Or.inr rfl) rfl ?_)
    | (refine am_lret rfl rfl rfl ?_)
    | (refine am_vret (x := 0) rfl rfl rfl ?_)
  all_goals (first | exact ⟨rfl, rfl⟩ | omega)
set_option maxRecDepth 100000 in
set_option maxHeartbeats 4000000 in
theorem ct_sign (x : Int) (hl : 0 ≤ f 0 1 ∧ f 0 1 ≤ 60) : am_Ct l dC dI tc mm0_sign 0 58 [(.inr (.inr (some 0))), .inl x] (58, f, g, pr_r a b c) (fun r s => r = some (.inl (if x < 32 ∨ 126 < x ∨ f 0 1 = 60 then 0 else 1)) ∧ s = (if x < 32 ∨ 126 < x ∨ f 0 1 = 60 then (58, f, g, pr_r a b c) else (58, am_u1 f 0 1 (f 0 1 + 1), am_u3 g 1 (f 0 1) x, pr_r a b c))) := by
  refine am_enter ok_0_sign rfl (by decide) (Nat.le_of_ble_eq_true rfl) rfl ?_
  repeat' first
    | (refine am_id ?_; simp (config := { decide := true }) only [am_u1_s, am_u1_j, am_u1_c, am_u3_s, am_u3_c])
    | (refine am_go rfl (by first | exact True.intro | omega | exact ⟨by decide, Nat.le_of_ble_eq_true rfl, Nat.le_of_ble_eq_true rfl⟩ | exact ⟨by decide, Nat.le_of_ble_eq_true rfl⟩) ?_)
    | (refine am_if rfl (fun c1 => ?_) (fun c1 => ?_))
    | (refine am_iret rfl rfl rfl ?_)
    | (refine am_zret rfl rfl (by first | exact Or.inl rfl | exact Or.inr rfl) rfl ?_)
    | (refine am_lret rfl rfl rfl ?_)
    | (refine am_vret (x := 0) rfl rfl rfl ?_)
  all_goals (first | exact ⟨rfl, rfl⟩ | (rw [if_pos (by omega), if_pos (by omega)]; exact ⟨rfl, rfl⟩) | (rw [if_neg (by omega), if_neg (by omega)]; exact ⟨rfl, rfl⟩) | (rw [if_pos (by omega)]; exact ⟨rfl, rfl⟩) | (rw [if_neg (by omega)]; exact ⟨rfl, rfl⟩))
set_option maxRecDepth 100000 in
set_option maxHeartbeats 4000000 in
theorem ct_ladd (x y k v w : Int) (hx : 0 ≤ x ∧ x < 6) (hy : 0 ≤ y ∧ y < 5) (hn : 0 ≤ g 14 (x * 5 + y) ∧ g 14 (x * 5 + y) ≤ 4) : am_Ct l dC dI tc mm2_add 1 58 [(.inr (.inr (some 12))), .inl x, .inl y, .inl k, .inl v, .inl w] (58, f, g, pr_r a b c) (fun r s => r = some (.inl (if g 14 (x * 5 + y) = 4 then -14 else g 14 (x * 5 + y))) ∧ s = (if g 14 (x * 5 + y) = 4 then (58, f, g, pr_r a b c) else (58, am_u1 f 12 0 (if f 12 0 < x + 1 then x + 1 else f 12 0), am_u3 (am_u3 (am_u3 (am_u3 (am_u3 g 15 ((x * 5 + y) * 4 + g 14 (x * 5 + y)) k) 16 ((x * 5 + y) * 4 + g 14 (x * 5 + y)) v) 17 ((x * 5 + y) * 4 + g 14 (x * 5 + y)) w) 13 x (if g 13 x < y + 1 then y + 1 else g 13 x)) 14 (x * 5 + y) (g 14 (x * 5 + y) + 1), pr_r a b c))) := by
  have e1 : zNa g x y = g 14 (x * 5 + y) := if_pos ⟨hx, hy⟩
  refine am_enter ok_2_add rfl (by decide) (Nat.le_of_ble_eq_true rfl) rfl ?_
  iterate 3 (refine am_go rfl (by first | exact True.intro | omega | exact ⟨by decide, Nat.le_of_ble_eq_true rfl, Nat.le_of_ble_eq_true rfl⟩ | exact ⟨by decide, Nat.le_of_ble_eq_true rfl⟩) ?_)
  (refine am_callv rfl (ct_alternativesAt _ _) (by decide) (Nat.le_of_ble_eq_true rfl) (Nat.le_of_ble_eq_true rfl) ?_)
  rw [e1]
  iterate 4 (refine am_go rfl (by first | exact True.intro | omega | exact ⟨by decide, Nat.le_of_ble_eq_true rfl, Nat.le_of_ble_eq_true rfl⟩ | exact ⟨by decide, Nat.le_of_ble_eq_true rfl⟩) ?_)
  (refine am_callv rfl (ct_slotOf _ _ _) (by decide) (Nat.le_of_ble_eq_true rfl) (Nat.le_of_ble_eq_true rfl) ?_)
  by_cases h4 : g 14 (x * 5 + y) = 4
  · have e2 : zSl x y (g 14 (x * 5 + y)) = -1 := if_neg (by omega)
    rw [e2, if_pos h4, if_pos h4]
    repeat' first
      | (refine am_id ?_; simp (config := { decide := true }) only [am_u1_s, am_u1_j, am_u1_c, am_u3_s, am_u3_c])
      | (refine am_go rfl (by first | exact True.intro | omega | exact ⟨by decide, Nat.le_of_ble_eq_true rfl, Nat.le_of_ble_eq_true rfl⟩ | exact ⟨by decide, Nat.le_of_ble_eq_true rfl⟩) ?_)
      | (refine am_if rfl (fun c1 => ?_) (fun c1 => ?_))
      | (refine am_iret rfl rfl rfl ?_)
      | (refine am_zret rfl rfl (by first | exact Or.inl rfl | exact Or.inr rfl) rfl ?_)
      | (refine am_lret rfl rfl rfl ?_)
      | (refine am_vret (x := 0) rfl rfl rfl ?_)
    all_goals (first | exact ⟨rfl, rfl⟩ | omega)
  · have e2 : zSl x y (g 14 (x * 5 + y)) = (x * 5 + y) * 4 + g 14 (x * 5 + y) := if_pos (by omega)
    rw [e2, if_neg h4, if_neg h4]
    repeat' first
      | (refine am_id ?_; simp (config := { decide := true }) only [am_u1_s, am_u1_j, am_u1_c, am_u3_s, am_u3_c])
      | (refine am_go rfl (by first | exact True.intro | omega | exact ⟨by decide, Nat.le_of_ble_eq_true rfl, Nat.le_of_ble_eq_true rfl⟩ | exact ⟨by decide, Nat.le_of_ble_eq_true rfl⟩) ?_)
      | (refine am_if rfl (fun c1 => ?_) (fun c1 => ?_))
      | (refine am_iret rfl rfl rfl ?_)
      | (refine am_zret rfl rfl (by first | exact Or.inl rfl | exact Or.inr rfl) rfl ?_)
      | (refine am_lret rfl rfl rfl ?_)
      | (refine am_vret (x := 0) rfl rfl rfl ?_)
    all_goals (first | exact ⟨rfl, rfl⟩ | omega)
end Pub

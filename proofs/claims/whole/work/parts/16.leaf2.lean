theorem am_id {l : Launch} {dC : Nat → ClassId} {dI : Nat → Nat → Nat} {tc : Nat → ClassId} {M : am_M} {d n0 n1 : Nat} {Q : Option am_V → am_H → Prop} {i : Nat} {lv : am_L} {st : List am_V} {σ : am_H} (k : am_wp l dC dI tc M d n0 n1 Q i lv st σ) : am_wp l dC dI tc M d n0 n1 Q i lv st σ := k
theorem am_u1_s {f : Nat → Nat → Int} {c j : Nat} {x : Int} : am_u1 f c j x c j = x := am_u1_eq
theorem am_u1_j {f : Nat → Nat → Int} {c j k : Nat} {x : Int} (h : k ≠ j) : am_u1 f c j x c k = f c k := am_u1_ne (Or.inr h)
theorem am_u1_c {f : Nat → Nat → Int} {c j b k : Nat} {x : Int} (h : b ≠ c) : am_u1 f c j x b k = f b k := am_u1_ne (Or.inl h)
theorem am_u3_s {g : Nat → Int → Int} {c : Nat} {j x : Int} : am_u3 g c j x c j = x := by simp [am_u3]
theorem am_u3_j {g : Nat → Int → Int} {c : Nat} {j k x : Int} (h : k ≠ j) : am_u3 g c j x c k = g c k := by simp [am_u3, h]
theorem am_u3_c {g : Nat → Int → Int} {c b : Nat} {j k x : Int} (h : b ≠ c) : am_u3 g c j x b k = g b k := by simp [am_u3, h]
section Leaf2
variable {l : Launch} {dC : Nat → ClassId} {dI : Nat → Nat → Nat} {tc : Nat → ClassId} {f : Nat → Nat → Int} {g : Nat → Int → Int} {a b c : Nat}
set_option maxRecDepth 100000 in
set_option maxHeartbeats 4000000 in
theorem ct_takeRowEnd (h1 : 0 ≤ f 7 0 ∧ f 7 0 ≤ 9) (h2 : 0 ≤ f 7 1 ∧ f 7 1 ≤ 100) : am_Ct l dC dI tc mm1_takeRowEnd 0 58 [(.inr (.inr (some 7)))] (58, f, g, pr_r a b c) (fun r s => r = some (.inl (if f 7 6 = 0 ∨ f 7 7 = 0 ∨ f 7 0 ≤ 0 then 0 else 1)) ∧ s = (if f 7 6 = 0 ∨ f 7 7 = 0 ∨ f 7 0 ≤ 0 then (58, f, g, pr_r a b c) else (58, am_u1 (am_u1 (am_u1 f 7 1 (f 7 1 + 1)) 7 6 0) 7 7 (-1), am_u3 g 10 (f 7 0 - 1) 1, pr_r a b c))) := by
  refine am_enter ok_1_takeRowEnd rfl (by decide) (Nat.le_of_ble_eq_true rfl) rfl ?_
  repeat' first
    | (refine am_id ?_; simp (config := { decide := true }) only [am_u1_s, am_u1_j, am_u1_c, am_u3_s, am_u3_c])
    | (refine am_go rfl (by first | exact True.intro | omega) ?_)
    | (refine am_if rfl (fun c1 => ?_) (fun c1 => ?_))
    | (refine am_iret rfl rfl rfl ?_)
    | (refine am_zret rfl rfl (by first | exact Or.inl rfl | exact Or.inr rfl) rfl ?_)
    | (refine am_lret rfl rfl rfl ?_)
    | (refine am_vret (x := 0) rfl rfl rfl ?_)
  all_goals (first | exact ⟨rfl, rfl⟩ | (rw [if_pos (by omega), if_pos (by omega)]; exact ⟨rfl, rfl⟩) | (rw [if_neg (by omega), if_neg (by omega)]; exact ⟨rfl, rfl⟩) | (rw [if_pos (by omega)]; exact ⟨rfl, rfl⟩) | (rw [if_neg (by omega)]; exact ⟨rfl, rfl⟩))
set_option maxRecDepth 100000 in
set_option maxHeartbeats 4000000 in
theorem ct_takeMark (h1 : 0 ≤ f 7 0 ∧ f 7 0 ≤ 9) : am_Ct l dC dI tc mm1_takeMark 0 58 [(.inr (.inr (some 7)))] (58, f, g, pr_r a b c) (fun r s => r = some (.inl (if f 7 6 = 0 ∨ f 7 7 ≠ -1 ∨ f 7 0 ≤ 0 then 0 else 1)) ∧ s = (if f 7 6 = 0 ∨ f 7 7 ≠ -1 ∨ f 7 0 ≤ 0 then (58, f, g, pr_r a b c) else (58, am_u1 f 7 7 0, am_u3 g 9 (f 7 0 - 1) 0, pr_r a b c))) := by
  refine am_enter ok_1_takeMark rfl (by decide) (Nat.le_of_ble_eq_true rfl) rfl ?_
  repeat' first
    | (refine am_id ?_; simp (config := { decide := true }) only [am_u1_s, am_u1_j, am_u1_c, am_u3_s, am_u3_c])
    | (refine am_go rfl (by first | exact True.intro | omega) ?_)
    | (refine am_if rfl (fun c1 => ?_) (fun c1 => ?_))
    | (refine am_iret rfl rfl rfl ?_)
    | (refine am_zret rfl rfl (by first | exact Or.inl rfl | exact Or.inr rfl) rfl ?_)
    | (refine am_lret rfl rfl rfl ?_)
    | (refine am_vret (x := 0) rfl rfl rfl ?_)
  all_goals (first | exact ⟨rfl, rfl⟩ | (rw [if_pos (by omega), if_pos (by omega)]; exact ⟨rfl, rfl⟩) | (rw [if_neg (by omega), if_neg (by omega)]; exact ⟨rfl, rfl⟩) | (rw [if_pos (by omega)]; exact ⟨rfl, rfl⟩) | (rw [if_neg (by omega)]; exact ⟨rfl, rfl⟩))
set_option maxRecDepth 100000 in
set_option maxHeartbeats 4000000 in
theorem ct_takeDigit (x : Int) (hx : 0 ≤ x ∧ x ≤ 9) (h1 : 0 ≤ f 7 0 ∧ f 7 0 ≤ 9) (h3 : 0 < f 7 0 → -1 ≤ g 9 (f 7 0 - 1) ∧ g 9 (f 7 0 - 1) ≤ 999) (h4 : -1 ≤ f 7 7) : am_Ct l dC dI tc mm1_takeDigit 0 58 [(.inr (.inr (some 7))), .inl x] (58, f, g, pr_r a b c) (fun r s => r = some (.inl (if f 7 7 = -1 ∨ 3 ≤ f 7 7 ∨ f 7 0 ≤ 0 then 0 else 1)) ∧ s = (if f 7 7 = -1 ∨ 3 ≤ f 7 7 ∨ f 7 0 ≤ 0 then (58, f, g, pr_r a b c) else (58, am_u1 f 7 7 (f 7 7 + 1), am_u3 g 9 (f 7 0 - 1) (g 9 (f 7 0 - 1) * 10 + x), pr_r a b c))) := by
  refine am_enter ok_1_takeDigit rfl (by decide) (Nat.le_of_ble_eq_true rfl) rfl ?_
  repeat' first
    | (refine am_id ?_; simp (config := { decide := true }) only [am_u1_s, am_u1_j, am_u1_c, am_u3_s, am_u3_c])
    | (refine am_go rfl (by first | exact True.intro | omega) ?_)
    | (refine am_if rfl (fun c1 => ?_) (fun c1 => ?_))
    | (refine am_iret rfl rfl rfl ?_)
    | (refine am_zret rfl rfl (by first | exact Or.inl rfl | exact Or.inr rfl) rfl ?_)
    | (refine am_lret rfl rfl rfl ?_)
    | (refine am_vret (x := 0) rfl rfl rfl ?_)
  all_goals (first | exact ⟨rfl, rfl⟩ | (rw [if_pos (by omega), if_pos (by omega)]; exact ⟨rfl, rfl⟩) | (rw [if_neg (by omega), if_neg (by omega)]; exact ⟨rfl, rfl⟩) | (rw [if_pos (by omega)]; exact ⟨rfl, rfl⟩) | (rw [if_neg (by omega)]; exact ⟨rfl, rfl⟩))
set_option maxRecDepth 100000 in
set_option maxHeartbeats 4000000 in
theorem ct_takePart (x : Int) (h1 : 0 ≤ f 7 0) (h2 : 0 ≤ f 7 6 ∧ f 7 6 ≤ 100) : am_Ct l dC dI tc mm1_takePart 0 58 [(.inr (.inr (some 7))), .inl x] (58, f, g, pr_r a b c) (fun r s => r = some (.inl (if (x < 0 ∨ 9 ≤ x) ∨ g 11 x ≠ 0 ∨ f 7 7 = 0 ∨ 9 ≤ f 7 0 then 0 else 1)) ∧ s = (if (x < 0 ∨ 9 ≤ x) ∨ g 11 x ≠ 0 ∨ f 7 7 = 0 ∨ 9 ≤ f 7 0 then (58, f, g, pr_r a b c) else (58, am_u1 (am_u1 (am_u1 f 7 0 (f 7 0 + 1)) 7 6 (f 7 6 + 1)) 7 7 (-1), am_u3 (am_u3 (am_u3 (am_u3 g 11 x 1) 8 (f 7 0) x) 9 (f 7 0) (-1)) 10 (f 7 0) 0, pr_r a b c))) := by
  refine am_enter ok_1_takePart rfl (by decide) (Nat.le_of_ble_eq_true rfl) rfl ?_
  repeat' first
    | (refine am_id ?_; simp (config := { decide := true }) only [am_u1_s, am_u1_j, am_u1_c, am_u3_s, am_u3_c])
    | (refine am_go rfl (by first | exact True.intro | omega) ?_)
    | (refine am_if rfl (fun c1 => ?_) (fun c1 => ?_))
    | (refine am_iret rfl rfl rfl ?_)
    | (refine am_zret rfl rfl (by first | exact Or.inl rfl | exact Or.inr rfl) rfl ?_)
    | (refine am_lret rfl rfl rfl ?_)
    | (refine am_vret (x := 0) rfl rfl rfl ?_)
  all_goals (first | exact ⟨rfl, rfl⟩ | (rw [if_pos (by omega), if_pos (by omega)]; exact ⟨rfl, rfl⟩) | (rw [if_neg (by omega), if_neg (by omega)]; exact ⟨rfl, rfl⟩) | (rw [if_pos (by omega)]; exact ⟨rfl, rfl⟩) | (rw [if_neg (by omega)]; exact ⟨rfl, rfl⟩))
set_option maxRecDepth 100000 in
set_option maxHeartbeats 4000000 in
theorem ct_drop (q : Nat) (hq : q = 23 ∨ q = 26 ∨ q = 29)   : am_Ct l dC dI tc mm5_drop 0 58 [(.inr (.inr (some q)))] (58, f, g, pr_r a b c) (fun r s => r = none ∧ s = (58, am_u1 (am_u1 (am_u1 f q 0 (-1)) q 1 (-1)) q 2 0, g, pr_r a b c)) := by
  rcases hq with rfl | rfl | rfl
  · refine am_enter ok_5_drop rfl (by decide) (Nat.le_of_ble_eq_true rfl) rfl ?_
    repeat' first
      | (refine am_id ?_; simp (config := { decide := true }) only [am_u1_s, am_u1_j, am_u1_c, am_u3_s, am_u3_c])
      | (refine am_go rfl (by first | exact True.intro | omega) ?_)
      | (refine am_if rfl (fun c1 => ?_) (fun c1 => ?_))
      | (refine am_iret rfl rfl rfl ?_)
      | (refine am_zret rfl rfl (by first | exact Or.inl rfl | exact Or.inr rfl) rfl ?_)
      | (refine am_lret rfl rfl rfl ?_)
      | (refine am_vret (x := 0) rfl rfl rfl ?_)
    all_goals (first | exact ⟨rfl, rfl⟩ | omega)
  · refine am_enter ok_5_drop rfl (by decide) (Nat.le_of_ble_eq_true rfl) rfl ?_
    repeat' first
      | (refine am_id ?_; simp (config := { decide := true }) only [am_u1_s, am_u1_j, am_u1_c, am_u3_s, am_u3_c])
      | (refine am_go rfl (by first | exact True.intro | omega) ?_)
      | (refine am_if rfl (fun c1 => ?_) (fun c1 => ?_))
      | (refine am_iret rfl rfl rfl ?_)
      | (refine am_zret rfl rfl (by first | exact Or.inl rfl | exact Or.inr rfl) rfl ?_)
      | (refine am_lret rfl rfl rfl ?_)
      | (refine am_vret (x := 0) rfl rfl rfl ?_)
    all_goals (first | exact ⟨rfl, rfl⟩ | omega)
  · refine am_enter ok_5_drop rfl (by decide) (Nat.le_of_ble_eq_true rfl) rfl ?_
    repeat' first
      | (refine am_id ?_; simp (config := { decide := true }) only [am_u1_s, am_u1_j, am_u1_c, am_u3_s, am_u3_c])
      | (refine am_go rfl (by first | exact True.intro | omega) ?_)
      | (refine am_if rfl (fun c1 => ?_) (fun c1 => ?_))
      | (refine am_iret rfl rfl rfl ?_)
      | (refine am_zret rfl rfl (by first | exact Or.inl rfl | exact Or.inr rfl) rfl ?_)
      | (refine am_lret rfl rfl rfl ?_)
      | (refine am_vret (x := 0) rfl rfl rfl ?_)
    all_goals (first | exact ⟨rfl, rfl⟩ | omega)
set_option maxRecDepth 100000 in
set_option maxHeartbeats 4000000 in
theorem ct_begin (q : Nat) (hq : q = 23 ∨ q = 26 ∨ q = 29) (x : Int)  : am_Ct l dC dI tc mm5_begin 0 58 [(.inr (.inr (some q))), .inl x] (58, f, g, pr_r a b c) (fun r s => r = none ∧ s = (58, am_u1 (am_u1 (am_u1 f q 0 0) q 1 x) q 2 0, g, pr_r a b c)) := by
  rcases hq with rfl | rfl | rfl
  · refine am_enter ok_5_begin rfl (by decide) (Nat.le_of_ble_eq_true rfl) rfl ?_
    repeat' first
      | (refine am_id ?_; simp (config := { decide := true }) only [am_u1_s, am_u1_j, am_u1_c, am_u3_s, am_u3_c])
      | (refine am_go rfl (by first | exact True.intro | omega) ?_)
      | (refine am_if rfl (fun c1 => ?_) (fun c1 => ?_))
      | (refine am_iret rfl rfl rfl ?_)
      | (refine am_zret rfl rfl (by first | exact Or.inl rfl | exact Or.inr rfl) rfl ?_)
      | (refine am_lret rfl rfl rfl ?_)
      | (refine am_vret (x := 0) rfl rfl rfl ?_)
    all_goals (first | exact ⟨rfl, rfl⟩ | omega)
  · refine am_enter ok_5_begin rfl (by decide) (Nat.le_of_ble_eq_true rfl) rfl ?_
    repeat' first
      | (refine am_id ?_; simp (config := { decide := true }) only [am_u1_s, am_u1_j, am_u1_c, am_u3_s, am_u3_c])
      | (refine am_go rfl (by first | exact True.intro | omega) ?_)
      | (refine am_if rfl (fun c1 => ?_) (fun c1 => ?_))
      | (refine am_iret rfl rfl rfl ?_)
      | (refine am_zret rfl rfl (by first | exact Or.inl rfl | exact Or.inr rfl) rfl ?_)
      | (refine am_lret rfl rfl rfl ?_)
      | (refine am_vret (x := 0) rfl rfl rfl ?_)
    all_goals (first | exact ⟨rfl, rfl⟩ | omega)
  · refine am_enter ok_5_begin rfl (by decide) (Nat.le_of_ble_eq_true rfl) rfl ?_
    repeat' first
      | (refine am_id ?_; simp (config := { decide := true }) only [am_u1_s, am_u1_j, am_u1_c, am_u3_s, am_u3_c])
      | (refine am_go rfl (by first | exact True.intro | omega) ?_)
      | (refine am_if rfl (fun c1 => ?_) (fun c1 => ?_))
      | (refine am_iret rfl rfl rfl ?_)
      | (refine am_zret rfl rfl (by first | exact Or.inl rfl | exact Or.inr rfl) rfl ?_)
      | (refine am_lret rfl rfl rfl ?_)
      | (refine am_vret (x := 0) rfl rfl rfl ?_)
    all_goals (first | exact ⟨rfl, rfl⟩ | omega)
set_option maxRecDepth 100000 in
set_option maxHeartbeats 4000000 in
theorem ct_choose (q : Nat) (hq : q = 23 ∨ q = 26 ∨ q = 29) (x : Int) (h1 : 0 ≤ f q 2 ∧ f q 2 < 9) : am_Ct l dC dI tc mm5_choose 0 58 [(.inr (.inr (some q))), .inl x] (58, f, g, pr_r a b c) (fun r s => r = none ∧ s = (58, am_u1 f q 2 (f q 2 + 1), am_u3 g (q + 1) (f q 2) x, pr_r a b c)) := by
  rcases hq with rfl | rfl | rfl
  · refine am_enter ok_5_choose rfl (by decide) (Nat.le_of_ble_eq_true rfl) rfl ?_
    repeat' first
      | (refine am_id ?_; simp (config := { decide := true }) only [am_u1_s, am_u1_j, am_u1_c, am_u3_s, am_u3_c])
      | (refine am_go rfl (by first | exact True.intro | omega) ?_)
      | (refine am_if rfl (fun c1 => ?_) (fun c1 => ?_))
      | (refine am_iret rfl rfl rfl ?_)
      | (refine am_zret rfl rfl (by first | exact Or.inl rfl | exact Or.inr rfl) rfl ?_)
      | (refine am_lret rfl rfl rfl ?_)
      | (refine am_vret (x := 0) rfl rfl rfl ?_)
    all_goals (first | exact ⟨rfl, rfl⟩ | omega)
  · refine am_enter ok_5_choose rfl (by decide) (Nat.le_of_ble_eq_true rfl) rfl ?_
    repeat' first
      | (refine am_id ?_; simp (config := { decide := true }) only [am_u1_s, am_u1_j, am_u1_c, am_u3_s, am_u3_c])
      | (refine am_go rfl (by first | exact True.intro | omega) ?_)
      | (refine am_if rfl (fun c1 => ?_) (fun c1 => ?_))
      | (refine am_iret rfl rfl rfl ?_)
      | (refine am_zret rfl rfl (by first | exact Or.inl rfl | exact Or.inr rfl) rfl ?_)
      | (refine am_lret rfl rfl rfl ?_)
      | (refine am_vret (x := 0) rfl rfl rfl ?_)
    all_goals (first | exact ⟨rfl, rfl⟩ | omega)
  · refine am_enter ok_5_choose rfl (by decide) (Nat.le_of_ble_eq_true rfl) rfl ?_
    repeat' first
      | (refine am_id ?_; simp (config := { decide := true }) only [am_u1_s, am_u1_j, am_u1_c, am_u3_s, am_u3_c])
      | (refine am_go rfl (by first | exact True.intro | omega) ?_)
      | (refine am_if rfl (fun c1 => ?_) (fun c1 => ?_))
      | (refine am_iret rfl rfl rfl ?_)
      | (refine am_zret rfl rfl (by first | exact Or.inl rfl | exact Or.inr rfl) rfl ?_)
      | (refine am_lret rfl rfl rfl ?_)
      | (refine am_vret (x := 0) rfl rfl rfl ?_)
    all_goals (first | exact ⟨rfl, rfl⟩ | omega)
set_option maxRecDepth 100000 in
set_option maxHeartbeats 4000000 in
theorem ct_addPart (q : Nat) (hq : q = 23 ∨ q = 26 ∨ q = 29) (x y z w : Int) (h1 : 0 ≤ f q 0 ∧ f q 0 < 9) (h2 : 0 < f q 2 ∧ f q 2 ≤ 9) : am_Ct l dC dI tc mm5_addPart 0 58 [(.inr (.inr (some q))), .inl x, .inl y, .inl z, .inl w] (58, f, g, pr_r a b c) (fun r s => r = none ∧ s = (58, am_u1 f q 0 (f q 0 + 1), am_u3 (am_u3 (am_u3 (am_u3 (am_u3 g (q + 2) (f q 0 * 5) x) (q + 2) (f q 0 * 5 + 1) y) (q + 2) (f q 0 * 5 + 2) z) (q + 2) (f q 0 * 5 + 3) w) (q + 2) (f q 0 * 5 + 4) (g (q + 1) (f q 2 - 1)), pr_r a b c)) := by
  rcases hq with rfl | rfl | rfl
  · refine am_enter ok_5_addPart rfl (by decide) (Nat.le_of_ble_eq_true rfl) rfl ?_
    repeat' first
      | (refine am_id ?_; simp (config := { decide := true }) only [am_u1_s, am_u1_j, am_u1_c, am_u3_s, am_u3_c])
      | (refine am_go rfl (by first | exact True.intro | omega) ?_)
      | (refine am_if rfl (fun c1 => ?_) (fun c1 => ?_))
      | (refine am_iret rfl rfl rfl ?_)
      | (refine am_zret rfl rfl (by first | exact Or.inl rfl | exact Or.inr rfl) rfl ?_)
      | (refine am_lret rfl rfl rfl ?_)
      | (refine am_vret (x := 0) rfl rfl rfl ?_)
    all_goals (first | exact ⟨rfl, rfl⟩ | omega)
  · refine am_enter ok_5_addPart rfl (by decide) (Nat.le_of_ble_eq_true rfl) rfl ?_
    repeat' first
      | (refine am_id ?_; simp (config := { decide := true }) only [am_u1_s, am_u1_j, am_u1_c, am_u3_s, am_u3_c])
      | (refine am_go rfl (by first | exact True.intro | omega) ?_)
      | (refine am_if rfl (fun c1 => ?_) (fun c1 => ?_))
      | (refine am_iret rfl rfl rfl ?_)
      | (refine am_zret rfl rfl (by first | exact Or.inl rfl | exact Or.inr rfl) rfl ?_)
      | (refine am_lret rfl rfl rfl ?_)
      | (refine am_vret (x := 0) rfl rfl rfl ?_)
    all_goals (first | exact ⟨rfl, rfl⟩ | omega)
  · refine am_enter ok_5_addPart rfl (by decide) (Nat.le_of_ble_eq_true rfl) rfl ?_
    repeat' first
      | (refine am_id ?_; simp (config := { decide := true }) only [am_u1_s, am_u1_j, am_u1_c, am_u3_s, am_u3_c])
      | (refine am_go rfl (by first | exact True.intro | omega) ?_)
      | (refine am_if rfl (fun c1 => ?_) (fun c1 => ?_))
      | (refine am_iret rfl rfl rfl ?_)
      | (refine am_zret rfl rfl (by first | exact Or.inl rfl | exact Or.inr rfl) rfl ?_)
      | (refine am_lret rfl rfl rfl ?_)
      | (refine am_vret (x := 0) rfl rfl rfl ?_)
    all_goals (first | exact ⟨rfl, rfl⟩ | omega)
set_option maxRecDepth 100000 in
set_option maxHeartbeats 4000000 in
theorem ct_fact (q : Nat) (hq : q = 23 ∨ q = 26 ∨ q = 29) (x y : Int) (h1 : f q 0 ≤ 9) : am_Ct l dC dI tc mm5_fact 0 58 [(.inr (.inr (some q))), .inl x, .inl y] (58, f, g, pr_r a b c) (fun r s => r = some (.inl (if (0 ≤ x ∧ x < f q 0) ∧ 0 ≤ y ∧ y < 5 then g (q + 2) (x * 5 + y) else -1)) ∧ s = (58, f, g, pr_r a b c)) := by
  rcases hq with rfl | rfl | rfl
  · refine am_enter ok_5_fact rfl (by decide) (Nat.le_of_ble_eq_true rfl) rfl ?_
    repeat' first
      | (refine am_go rfl (by first | exact True.intro | omega) ?_)
      | (refine am_if rfl (fun c1 => ?_) (fun c1 => ?_))
      | (refine am_iret rfl rfl rfl ?_)
      | (refine am_zret rfl rfl (by first | exact Or.inl rfl | exact Or.inr rfl) rfl ?_)
      | (refine am_lret rfl rfl rfl ?_)
      | (refine am_vret (x := 0) rfl rfl rfl ?_)
    all_goals (first | exact ⟨rfl, rfl⟩ | (rw [if_pos (by omega), if_pos (by omega)]; exact ⟨rfl, rfl⟩) | (rw [if_neg (by omega), if_neg (by omega)]; exact ⟨rfl, rfl⟩) | (rw [if_pos (by omega)]; exact ⟨rfl, rfl⟩) | (rw [if_neg (by omega)]; exact ⟨rfl, rfl⟩))
  · refine am_enter ok_5_fact rfl (by decide) (Nat.le_of_ble_eq_true rfl) rfl ?_
    repeat' first
      | (refine am_go rfl (by first | exact True.intro | omega) ?_)
      | (refine am_if rfl (fun c1 => ?_) (fun c1 => ?_))
      | (refine am_iret rfl rfl rfl ?_)
      | (refine am_zret rfl rfl (by first | exact Or.inl rfl | exact Or.inr rfl) rfl ?_)
      | (refine am_lret rfl rfl rfl ?_)
      | (refine am_vret (x := 0) rfl rfl rfl ?_)
    all_goals (first | exact ⟨rfl, rfl⟩ | (rw [if_pos (by omega), if_pos (by omega)]; exact ⟨rfl, rfl⟩) | (rw [if_neg (by omega), if_neg (by omega)]; exact ⟨rfl, rfl⟩) | (rw [if_pos (by omega)]; exact ⟨rfl, rfl⟩) | (rw [if_neg (by omega)]; exact ⟨rfl, rfl⟩))
  · refine am_enter ok_5_fact rfl (by decide) (Nat.le_of_ble_eq_true rfl) rfl ?_
    repeat' first
      | (refine am_go rfl (by first | exact True.intro | omega) ?_)
      | (refine am_if rfl (fun c1 => ?_) (fun c1 => ?_))
      | (refine am_iret rfl rfl rfl ?_)
      | (refine am_zret rfl rfl (by first | exact Or.inl rfl | exact Or.inr rfl) rfl ?_)
      | (refine am_lret rfl rfl rfl ?_)
      | (refine am_vret (x := 0) rfl rfl rfl ?_)
    all_goals (first | exact ⟨rfl, rfl⟩ | (rw [if_pos (by omega), if_pos (by omega)]; exact ⟨rfl, rfl⟩) | (rw [if_neg (by omega), if_neg (by omega)]; exact ⟨rfl, rfl⟩) | (rw [if_pos (by omega)]; exact ⟨rfl, rfl⟩) | (rw [if_neg (by omega)]; exact ⟨rfl, rfl⟩))
set_option maxRecDepth 100000 in
set_option maxHeartbeats 4000000 in
theorem ct_forget : am_Ct l dC dI tc mm4_forget 0 58 [(.inr (.inr (some 22)))] (58, f, g, pr_r a b c) (fun r s => r = none ∧ s = (58, am_u1 f 22 4 0, g, pr_r a b c)) := by
  refine am_enter ok_4_forget rfl (by decide) (Nat.le_of_ble_eq_true rfl) rfl ?_
  repeat' first
    | (refine am_id ?_; simp (config := { decide := true }) only [am_u1_s, am_u1_j, am_u1_c, am_u3_s, am_u3_c])
    | (refine am_go rfl (by first | exact True.intro | omega) ?_)
    | (refine am_if rfl (fun c1 => ?_) (fun c1 => ?_))
    | (refine am_iret rfl rfl rfl ?_)
    | (refine am_zret rfl rfl (by first | exact Or.inl rfl | exact Or.inr rfl) rfl ?_)
    | (refine am_lret rfl rfl rfl ?_)
    | (refine am_vret (x := 0) rfl rfl rfl ?_)
  all_goals (first | exact ⟨rfl, rfl⟩ | omega)
set_option maxRecDepth 100000 in
set_option maxHeartbeats 4000000 in
theorem ct_stateOf (x y z : Int) (hx : 0 ≤ x ∧ x ≤ 10) (hy : 0 ≤ y ∧ y ≤ 10) (hz : 0 ≤ z ∧ z ≤ 10) : am_Ct l dC dI tc mm4_stateOf 0 58 [.inl x, .inl y, .inl z] (58, f, g, pr_r a b c) (fun r s => r = some (.inl ((x * 7 + y) * 6 + z)) ∧ s = (58, f, g, pr_r a b c)) := by
  refine am_enter ok_4_stateOf rfl (by decide) (Nat.le_of_ble_eq_true rfl) rfl ?_
  repeat' first
    | (refine am_id ?_; simp (config := { decide := true }) only [am_u1_s, am_u1_j, am_u1_c, am_u3_s, am_u3_c])
    | (refine am_go rfl (by first | exact True.intro | omega) ?_)
    | (refine am_if rfl (fun c1 => ?_) (fun c1 => ?_))
    | (refine am_iret rfl rfl rfl ?_)
    | (refine am_zret rfl rfl (by first | exact Or.inl rfl | exact Or.inr rfl) rfl ?_)
    | (refine am_lret rfl rfl rfl ?_)
    | (refine am_vret (x := 0) rfl rfl rfl ?_)
  all_goals (first | exact ⟨rfl, rfl⟩ | omega)
end Leaf2

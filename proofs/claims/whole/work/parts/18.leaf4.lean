/-! a row of the table of sums: of a state's two ranks the sum, the choice, the rank behind -/
abbrev zR : Type := Int × Int × Int × Int × Int × Int
def zRow (g : Nat → Int → Int) (s : Int) : zR := (g 33 (s * 2), g 34 (s * 2), g 35 (s * 2), g 33 (s * 2 + 1), g 34 (s * 2 + 1), g 35 (s * 2 + 1))
def am_rw (g : Nat → Int → Int) (s : Int) (w : zR) : Nat → Int → Int := fun x i => if x = 33 ∧ i = s * 2 then w.1 else if x = 34 ∧ i = s * 2 then w.2.1 else if x = 35 ∧ i = s * 2 then w.2.2.1 else if x = 33 ∧ i = s * 2 + 1 then w.2.2.2.1 else if x = 34 ∧ i = s * 2 + 1 then w.2.2.2.2.1 else if x = 35 ∧ i = s * 2 + 1 then w.2.2.2.2.2 else g x i
def zKeep (w : zR) (sm ch rk : Int) : zR := if sm < w.1 then (sm, ch, rk, w.1, w.2.1, w.2.2.1) else if sm < w.2.2.2.1 then (w.1, w.2.1, w.2.2.1, sm, ch, rk) else w
def zOff1 (w : zR) (ch cost rest rk : Int) : zR := if rest = 1000000 then w else zKeep w (cost + rest) ch rk
def zOff (w : zR) (ch cost : Int) (v : zR) : zR := zOff1 (zOff1 w ch cost v.1 0) ch cost v.2.2.2.1 1
theorem am_rw_row (g : Nat → Int → Int) (s : Int) (w : zR) : zRow (am_rw g s w) s = w := by
  unfold zRow am_rw
  simp only [true_and, Nat.reduceEqDiff, false_and, if_false, if_true]
  have e : ¬ s * 2 + 1 = s * 2 := by omega
  simp only [e, if_false]
theorem am_rw_ne (g : Nat → Int → Int) {s t : Int} (w : zR) (h : t ≠ s) : zRow (am_rw g s w) t = zRow g t := by
  have e1 : ¬ t * 2 = s * 2 := by omega
  have e2 : ¬ t * 2 = s * 2 + 1 := by omega
  have e3 : ¬ t * 2 + 1 = s * 2 := by omega
  have e4 : ¬ t * 2 + 1 = s * 2 + 1 := by omega
  unfold zRow am_rw
  simp only [e1, e2, e3, e4, and_false, if_false]
theorem am_rw_rw (g : Nat → Int → Int) (s : Int) (w w' : zR) : am_rw (am_rw g s w) s w' = am_rw g s w' := by
  funext x i
  unfold am_rw
  by_cases h1 : x = 33 ∧ i = s * 2
  · simp only [h1, and_self, if_true]
  by_cases h2 : x = 34 ∧ i = s * 2
  · simp only [h1, h2, and_self, if_true, if_false]
  by_cases h3 : x = 35 ∧ i = s * 2
  · simp only [h1, h2, h3, and_self, if_true, if_false]
  by_cases h4 : x = 33 ∧ i = s * 2 + 1
  · rw [if_neg h1, if_neg h2, if_neg h3, if_pos h4, if_neg h1, if_neg h2, if_neg h3, if_pos h4]
  by_cases h5 : x = 34 ∧ i = s * 2 + 1
  · rw [if_neg h1, if_neg h2, if_neg h3, if_neg h4, if_pos h5, if_neg h1, if_neg h2, if_neg h3, if_neg h4, if_pos h5]
  by_cases h6 : x = 35 ∧ i = s * 2 + 1
  · rw [if_neg h1, if_neg h2, if_neg h3, if_neg h4, if_neg h5, if_pos h6, if_neg h1, if_neg h2, if_neg h3, if_neg h4, if_neg h5, if_pos h6]
  · simp only [h1, h2, h3, h4, h5, h6, if_false]
theorem am_rw_id (g : Nat → Int → Int) (s : Int) : am_rw g s (zRow g s) = g := by
  funext x i
  unfold am_rw zRow
  repeat' split
  all_goals first
    | rfl
    | (rename_i h; obtain ⟨rfl, rfl⟩ := h; rfl)
theorem am_rw_c (g : Nat → Int → Int) {s i : Int} {x : Nat} (w : zR) (h : x ≠ 33 ∧ x ≠ 34 ∧ x ≠ 35) : am_rw g s w x i = g x i := by
  unfold am_rw
  simp [h.1, h.2.1, h.2.2]
theorem am_rw_s0 (g : Nat → Int → Int) (s : Int) (w : zR) : am_rw g s w 33 (s * 2) = w.1 := by simp [am_rw]
theorem am_rw_s1 (g : Nat → Int → Int) (s : Int) (w : zR) : am_rw g s w 33 (s * 2 + 1) = w.2.2.2.1 := by
  have e : ¬ s * 2 + 1 = s * 2 := by omega
  simp [am_rw, e]
theorem am_keep1 (g : Nat → Int → Int) (s sm ch rk : Int) : am_u3 (am_u3 (am_u3 (am_u3 (am_u3 (am_u3 g 33 (s * 2 + 1) (g 33 (s * 2))) 34 (s * 2 + 1) (g 34 (s * 2))) 35 (s * 2 + 1) (g 35 (s * 2))) 33 (s * 2) sm) 34 (s * 2) ch) 35 (s * 2) rk = am_rw g s (sm, ch, rk, g 33 (s * 2), g 34 (s * 2), g 35 (s * 2)) := by
  funext x i
  unfold am_u3 am_rw
  by_cases h1 : x = 33
  · subst h1; simp
  · by_cases h2 : x = 34
    · subst h2; simp
    · by_cases h3 : x = 35
      · subst h3; simp
      · simp [h1, h2, h3]
theorem am_keep2 (g : Nat → Int → Int) (s sm ch rk : Int) : am_u3 (am_u3 (am_u3 g 33 (s * 2 + 1) sm) 34 (s * 2 + 1) ch) 35 (s * 2 + 1) rk = am_rw g s (g 33 (s * 2), g 34 (s * 2), g 35 (s * 2), sm, ch, rk) := by
  have e : ¬ s * 2 = s * 2 + 1 := by omega
  funext x i
  unfold am_u3 am_rw
  by_cases h1 : x = 33
  · subst h1
    by_cases h4 : i = s * 2
    · subst h4; simp [e]
    · simp [h4]
  · by_cases h2 : x = 34
    · subst h2
      by_cases h4 : i = s * 2
      · subst h4; simp [e]
      · simp [h4]
    · by_cases h3 : x = 35
      · subst h3
        by_cases h4 : i = s * 2
        · subst h4; simp [e]
        · simp [h4]
      · simp [h1, h2, h3]
section Leaf4
variable {l : Launch} {dC : Nat → ClassId} {dI : Nat → Nat → Nat} {tc : Nat → ClassId} {f : Nat → Nat → Int} {g : Nat → Int → Int} {a b c : Nat}
set_option maxRecDepth 100000 in
set_option maxHeartbeats 4000000 in
theorem ct_keep (s sm ch rk : Int) (hs : 0 ≤ s ∧ s < 420) : am_Ct l dC dI tc mm4_keep 0 58 [(.inr (.inr (some 22))), .inl s, .inl ch, .inl sm, .inl rk] (58, f, g, pr_r a b c) (fun r t => r = none ∧ t = (58, f, am_rw g s (zKeep (zRow g s) sm ch rk), pr_r a b c)) := by
  refine am_enter ok_4_keep rfl (by decide) (Nat.le_of_ble_eq_true rfl) rfl ?_
  repeat' first
    | (refine am_id ?_; simp (config := { decide := true }) only [am_u1_s, am_u1_j, am_u1_c, am_u3_s, am_u3_c])
    | (refine am_go rfl (by first | exact True.intro | omega | exact ⟨by decide, Nat.le_of_ble_eq_true rfl, Nat.le_of_ble_eq_true rfl⟩ | exact ⟨by decide, Nat.le_of_ble_eq_true rfl⟩) ?_)
    | (refine am_if rfl (fun c1 => ?_) (fun c1 => ?_))
    | (refine am_iret rfl rfl rfl ?_)
    | (refine am_zret rfl rfl (by first | exact Or.inl rfl | exact Or.inr rfl) rfl ?_)
    | (refine am_lret rfl rfl rfl ?_)
    | (refine am_vret (x := 0) rfl rfl rfl ?_)
  all_goals first
    | omega
    | (refine ⟨rfl, ?_⟩
       unfold zKeep
       rw [if_pos (by show sm < g 33 (s * 2); omega), am_keep1]
       rfl)
    | (refine ⟨rfl, ?_⟩
       unfold zKeep
       rw [if_neg (by show ¬ sm < g 33 (s * 2); omega), if_pos (by show sm < g 33 (s * 2 + 1); omega), am_keep2]
       rfl)
    | (refine ⟨rfl, ?_⟩
       unfold zKeep
       rw [if_neg (by show ¬ sm < g 33 (s * 2); omega), if_neg (by show ¬ sm < g 33 (s * 2 + 1); omega), am_rw_id])
set_option maxRecDepth 100000 in
set_option maxHeartbeats 4000000 in
theorem ct_offer (s ch cost y : Int) (hs : 0 ≤ s ∧ s < 420) (hy : 0 ≤ y ∧ y < 420) (hn : y ≠ s) (hc : 0 ≤ cost ∧ cost ≤ 2000) (h0 : 0 ≤ g 33 (y * 2) ∧ g 33 (y * 2) ≤ 1000000) (h1 : 0 ≤ g 33 (y * 2 + 1) ∧ g 33 (y * 2 + 1) ≤ 1000000) : am_Ct l dC dI tc mm4_offer 1 58 [(.inr (.inr (some 22))), .inl s, .inl ch, .inl cost, .inl y] (58, f, g, pr_r a b c) (fun r t => r = none ∧ t = (58, f, am_rw g s (zOff (zRow g s) ch cost (zRow g y)), pr_r a b c)) := by
  have hr : ∀ w, am_rw g s w 33 (y * 2 + 1) = g 33 (y * 2 + 1) := fun w => congrArg (fun z => z.2.2.2.1) (am_rw_ne g w hn)
  have last : ∀ w, am_wp l dC dI tc mm4_offer 1 58 58 (fun r t => r = none ∧ t = (58, f, am_rw g s (w), pr_r a b c)) 8 [some (.inr (.inr (some 22))), some (.inl s), some (.inl ch), some (.inl cost), some (.inl y), some (.inl 2), some (.inl (g 33 (y * 2 + 1)))] [] (58, f, am_rw g s w, pr_r a b c) := by
    intro w
    iterate 2 (refine am_go rfl (by first | exact True.intro | omega | exact ⟨by decide, Nat.le_of_ble_eq_true rfl, Nat.le_of_ble_eq_true rfl⟩ | exact ⟨by decide, Nat.le_of_ble_eq_true rfl⟩) ?_)
    refine am_if rfl (fun c1 => ?_) (fun c1 => ?_)
    · exact am_vret (x := 0) rfl rfl rfl ⟨rfl, rfl⟩
    · omega
  have second : ∀ w, am_wp l dC dI tc mm4_offer 1 58 58 (fun r t => r = none ∧ t = (58, f, am_rw g s (zOff1 w ch cost (g 33 (y * 2 + 1)) 1), pr_r a b c)) 8 [some (.inr (.inr (some 22))), some (.inl s), some (.inl ch), some (.inl cost), some (.inl y), some (.inl 1), some (.inl (g 33 (y * 2)))] [] (58, f, am_rw g s w, pr_r a b c) := by
    intro w
    iterate 2 (refine am_go rfl (by first | exact True.intro | omega | exact ⟨by decide, Nat.le_of_ble_eq_true rfl, Nat.le_of_ble_eq_true rfl⟩ | exact ⟨by decide, Nat.le_of_ble_eq_true rfl⟩) ?_)
    refine am_if rfl (fun c1 => ?_) (fun c1 => ?_)
    · omega
    · iterate 8 (refine am_go rfl (by first | exact True.intro | omega | exact ⟨by decide, Nat.le_of_ble_eq_true rfl, Nat.le_of_ble_eq_true rfl⟩ | exact ⟨by decide, Nat.le_of_ble_eq_true rfl⟩) ?_)
      rw [hr w]
      iterate 3 (refine am_go rfl (by first | exact True.intro | omega | exact ⟨by decide, Nat.le_of_ble_eq_true rfl, Nat.le_of_ble_eq_true rfl⟩ | exact ⟨by decide, Nat.le_of_ble_eq_true rfl⟩) ?_)
      refine am_if rfl (fun c2 => ?_) (fun c2 => ?_)
      · have e : zOff1 w ch cost (g 33 (y * 2 + 1)) 1 = w := if_pos c2
        rw [e]
        iterate 2 (refine am_go rfl (by first | exact True.intro | omega | exact ⟨by decide, Nat.le_of_ble_eq_true rfl, Nat.le_of_ble_eq_true rfl⟩ | exact ⟨by decide, Nat.le_of_ble_eq_true rfl⟩) ?_)
        exact last w
      · have e : zOff1 w ch cost (g 33 (y * 2 + 1)) 1 = zKeep w (cost + g 33 (y * 2 + 1)) ch 1 := if_neg c2
        rw [e]
        iterate 7 (refine am_go rfl (by first | exact True.intro | omega | exact ⟨by decide, Nat.le_of_ble_eq_true rfl, Nat.le_of_ble_eq_true rfl⟩ | exact ⟨by decide, Nat.le_of_ble_eq_true rfl⟩) ?_)
        refine am_calln rfl (ct_keep _ _ _ _ hs) (by decide) (Nat.le_of_ble_eq_true rfl) (Nat.le_of_ble_eq_true rfl) ?_
        rw [am_rw_row, am_rw_rw]
        iterate 2 (refine am_go rfl (by first | exact True.intro | omega | exact ⟨by decide, Nat.le_of_ble_eq_true rfl, Nat.le_of_ble_eq_true rfl⟩ | exact ⟨by decide, Nat.le_of_ble_eq_true rfl⟩) ?_)
        exact last _
  refine am_enter ok_4_offer rfl (by decide) (Nat.le_of_ble_eq_true rfl) rfl ?_
  (refine am_go rfl (by first | exact True.intro | omega | exact ⟨by decide, Nat.le_of_ble_eq_true rfl, Nat.le_of_ble_eq_true rfl⟩ | exact ⟨by decide, Nat.le_of_ble_eq_true rfl⟩) ?_)
  refine am_if rfl (fun c1 => ?_) (fun c1 => ?_)
  · omega
  · iterate 2 (refine am_go rfl (by first | exact True.intro | omega | exact ⟨by decide, Nat.le_of_ble_eq_true rfl, Nat.le_of_ble_eq_true rfl⟩ | exact ⟨by decide, Nat.le_of_ble_eq_true rfl⟩) ?_)
    refine am_if rfl (fun c2 => ?_) (fun c2 => ?_)
    · iterate 4 (refine am_go rfl (by first | exact True.intro | omega | exact ⟨by decide, Nat.le_of_ble_eq_true rfl, Nat.le_of_ble_eq_true rfl⟩ | exact ⟨by decide, Nat.le_of_ble_eq_true rfl⟩) ?_)
      refine am_if rfl (fun c3 => ?_) (fun c3 => ?_)
      · omega
      · iterate 7 (refine am_go rfl (by first | exact True.intro | omega | exact ⟨by decide, Nat.le_of_ble_eq_true rfl, Nat.le_of_ble_eq_true rfl⟩ | exact ⟨by decide, Nat.le_of_ble_eq_true rfl⟩) ?_)
        rw [show y * 2 + 0 = y * 2 by omega]
        iterate 4 (refine am_go rfl (by first | exact True.intro | omega | exact ⟨by decide, Nat.le_of_ble_eq_true rfl, Nat.le_of_ble_eq_true rfl⟩ | exact ⟨by decide, Nat.le_of_ble_eq_true rfl⟩) ?_)
        refine am_if rfl (fun c4 => ?_) (fun c4 => ?_)
        · have e : zOff1 (zRow g s) ch cost (zRow g y).1 0 = zRow g s := if_pos c4
          unfold zOff
          rw [e]
          iterate 2 (refine am_go rfl (by first | exact True.intro | omega | exact ⟨by decide, Nat.le_of_ble_eq_true rfl, Nat.le_of_ble_eq_true rfl⟩ | exact ⟨by decide, Nat.le_of_ble_eq_true rfl⟩) ?_)
          have h9 := second (zRow g s)
          rw [am_rw_id] at h9
          exact h9
        · have e : zOff1 (zRow g s) ch cost (zRow g y).1 0 = zKeep (zRow g s) (cost + g 33 (y * 2)) ch 0 := if_neg c4
          unfold zOff
          rw [e]
          iterate 7 (refine am_go rfl (by first | exact True.intro | omega | exact ⟨by decide, Nat.le_of_ble_eq_true rfl, Nat.le_of_ble_eq_true rfl⟩ | exact ⟨by decide, Nat.le_of_ble_eq_true rfl⟩) ?_)
          refine am_calln rfl (ct_keep _ _ _ _ hs) (by decide) (Nat.le_of_ble_eq_true rfl) (Nat.le_of_ble_eq_true rfl) ?_
          iterate 2 (refine am_go rfl (by first | exact True.intro | omega | exact ⟨by decide, Nat.le_of_ble_eq_true rfl, Nat.le_of_ble_eq_true rfl⟩ | exact ⟨by decide, Nat.le_of_ble_eq_true rfl⟩) ?_)
          exact second _
    · omega
set_option maxRecDepth 100000 in
set_option maxHeartbeats 4000000 in
theorem ct_isReached (x y z : Int) (hx : 0 ≤ x ∧ x ≤ 9) (hy : 0 ≤ y ∧ y ≤ 6) (hz : 0 ≤ z ∧ z ≤ 5) (hb : g 32 ((x * 7 + y) * 6 + z) = 0 ∨ g 32 ((x * 7 + y) * 6 + z) = 1) : am_Ct l dC dI tc mm4_isReached 1 58 [(.inr (.inr (some 22))), .inl x, .inl y, .inl z] (58, f, g, pr_r a b c) (fun r s => r = some (.inl (g 32 ((x * 7 + y) * 6 + z))) ∧ s = (58, f, g, pr_r a b c)) := by
  refine am_enter ok_4_isReached rfl (by decide) (Nat.le_of_ble_eq_true rfl) rfl ?_
  repeat' first
    | (refine am_callv rfl (ct_stateOf _ _ _ (by omega) (by omega) (by omega)) (by decide) (Nat.le_of_ble_eq_true rfl) (Nat.le_of_ble_eq_true rfl) ?_)
    | (refine am_id ?_; simp (config := { decide := true }) only [am_u1_s, am_u1_j, am_u1_c, am_u3_s, am_u3_c])
    | (refine am_go rfl (by first | exact True.intro | omega | exact ⟨by decide, Nat.le_of_ble_eq_true rfl, Nat.le_of_ble_eq_true rfl⟩ | exact ⟨by decide, Nat.le_of_ble_eq_true rfl⟩) ?_)
    | (refine am_if rfl (fun c1 => ?_) (fun c1 => ?_))
    | (refine am_iret rfl rfl rfl ?_)
    | (refine am_zret rfl rfl (by first | exact Or.inl rfl | exact Or.inr rfl) rfl ?_)
    | (refine am_lret rfl rfl rfl ?_)
    | (refine am_vret (x := 0) rfl rfl rfl ?_)
  all_goals first
    | omega
    | (refine ⟨?_, rfl⟩; congr 2; omega)
/-- the state behind a part -/
def zBeh (g : Nat → Int → Int) (x y z : Int) : Int := if g 5 x = 0 ∨ z = 0 then ((x + 1) * 7 + y) * 6 + z else if z = zPl g y then ((x + 1) * 7 + (y + 1)) * 6 + 0 else -1
set_option maxRecDepth 100000 in
set_option maxHeartbeats 4000000 in
theorem ct_stateBehind (x y z : Int) (hs : f 2 0 ≤ 9) (hx : 0 ≤ x ∧ x < f 2 0) (hy : 0 ≤ y ∧ y ≤ 6) (hz : 0 ≤ z ∧ z ≤ 6) (hb : g 5 x = 0 ∨ g 5 x = 1) : am_Ct l dC dI tc mm4_stateBehind 1 58 [(.inr (.inr (some 22))), .inl x, .inl y, .inl z] (58, f, g, pr_r a b c) (fun r s => r = some (.inl (zBeh g x y z)) ∧ s = (58, f, g, pr_r a b c)) := by
  unfold zBeh
  refine am_enter ok_4_stateBehind rfl (by decide) (Nat.le_of_ble_eq_true rfl) rfl ?_
  repeat' first
    | (refine am_callv rfl (ct_stateOf _ _ _ (by omega) (by omega) (by omega)) (by decide) (Nat.le_of_ble_eq_true rfl) (Nat.le_of_ble_eq_true rfl) ?_)
    | (refine am_callv rfl (ct_endsRow _ hs hx hb) (by decide) (Nat.le_of_ble_eq_true rfl) (Nat.le_of_ble_eq_true rfl) ?_)
    | (refine am_callv rfl (ct_placesIn _) (by decide) (Nat.le_of_ble_eq_true rfl) (Nat.le_of_ble_eq_true rfl) ?_)
    | (refine am_id ?_; simp (config := { decide := true }) only [am_u1_s, am_u1_j, am_u1_c, am_u3_s, am_u3_c])
    | (refine am_go rfl (by first | exact True.intro | omega | exact ⟨by decide, Nat.le_of_ble_eq_true rfl, Nat.le_of_ble_eq_true rfl⟩ | exact ⟨by decide, Nat.le_of_ble_eq_true rfl⟩) ?_)
    | (refine am_if rfl (fun c1 => ?_) (fun c1 => ?_))
    | (refine am_iret rfl rfl rfl ?_)
    | (refine am_zret rfl rfl (by first | exact Or.inl rfl | exact Or.inr rfl) rfl ?_)
    | (refine am_lret rfl rfl rfl ?_)
    | (refine am_vret (x := 0) rfl rfl rfl ?_)
  all_goals first
    | omega
    | (rw [if_pos (by omega)]; exact ⟨rfl, rfl⟩)
    | (rw [if_neg (by omega), if_pos (by omega)]; exact ⟨rfl, rfl⟩)
    | (rw [if_neg (by omega), if_neg (by omega)]; exact ⟨rfl, rfl⟩)
set_option maxRecDepth 100000 in
set_option maxHeartbeats 4000000 in
theorem ct_reach (x : Int) (hx : x < 420) (h2 : 0 ≤ f 22 2 ∧ f 22 2 ≤ 100) : am_Ct l dC dI tc mm4_reach 1 58 [(.inr (.inr (some 22))), .inl x] (58, f, g, pr_r a b c) (fun r s => r = none ∧ s = (if x < 0 then (58, f, g, pr_r a b c) else (58, am_u1 f 22 2 (if f 22 2 < x / 6 % 7 then x / 6 % 7 else f 22 2), am_u3 g 32 x 1, pr_r a b c))) := by
  refine am_enter ok_4_reach rfl (by decide) (Nat.le_of_ble_eq_true rfl) rfl ?_
  repeat' first
    | (refine am_id ?_; simp (config := { decide := true }) only [am_u1_s, am_u1_j, am_u1_c, am_u3_s, am_u3_c])
    | (refine am_go rfl (by first | exact True.intro | omega | exact ⟨by decide, Nat.le_of_ble_eq_true rfl, Nat.le_of_ble_eq_true rfl⟩ | exact ⟨by decide, Nat.le_of_ble_eq_true rfl⟩) ?_)
    | (refine am_if rfl (fun c1 => ?_) (fun c1 => ?_))
    | (refine am_iret rfl rfl rfl ?_)
    | (refine am_zret rfl rfl (by first | exact Or.inl rfl | exact Or.inr rfl) rfl ?_)
    | (refine am_lret rfl rfl rfl ?_)
    | (refine am_vret (x := 0) rfl rfl rfl ?_)
  all_goals first
    | omega
    | (refine ⟨rfl, ?_⟩; rw [if_pos (show x < 0 by omega)])
    | (refine ⟨rfl, ?_⟩; rw [if_neg (show ¬ x < 0 by omega)])
set_option maxRecDepth 100000 in
set_option maxHeartbeats 4000000 in
theorem ct_misfitCost (k v : Int) (hc : 0 ≤ f 18 0 ∧ f 18 0 ≤ 60) : am_Ct l dC dI tc mm4_misfitCost 1 58 [(.inr (.inr (some 22))), .inl k, .inl v] (58, f, g, pr_r a b c) (fun r s => s = (58, f, g, pr_r a b c) ∧ ((r = some (.inl 100) ∧ f 22 14 ≠ -1 ∧ (k = 2 ∨ k = 6) ∧ ¬ zFit f g k v (f 22 14)) ∨ (r = some (.inl 0) ∧ ¬ (f 22 14 ≠ -1 ∧ (k = 2 ∨ k = 6) ∧ ¬ zFit f g k v (f 22 14))))) := by
  refine am_enter ok_4_misfitCost rfl (by decide) (Nat.le_of_ble_eq_true rfl) rfl ?_
  repeat' first
    | (refine am_call rfl (ct_holds k v (f 22 14) hc) (by decide) (Nat.le_of_ble_eq_true rfl) (Nat.le_of_ble_eq_true rfl) (Nat.le_of_ble_eq_true rfl) (fun rv s q => ?_); obtain ⟨rfl, ⟨rfl, hz⟩ | ⟨rfl, hz⟩⟩ := q)
    | (refine am_go rfl (by first | exact True.intro | omega | exact ⟨by decide, Nat.le_of_ble_eq_true rfl, Nat.le_of_ble_eq_true rfl⟩ | exact ⟨by decide, Nat.le_of_ble_eq_true rfl⟩) ?_)
    | (refine am_if rfl (fun c1 => ?_) (fun c1 => ?_))
    | (refine am_iret rfl rfl rfl ?_)
  all_goals first
    | omega
    | exact ⟨rfl, Or.inr ⟨rfl, fun q => q.2.2 hz⟩⟩
    | exact ⟨rfl, Or.inl ⟨rfl, by omega, by omega, hz⟩⟩
    | exact ⟨rfl, Or.inr ⟨rfl, fun q => by omega⟩⟩
end Leaf4

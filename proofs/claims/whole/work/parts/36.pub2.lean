theorem zRS_le {g0 : Nat → Int → Int} {N : Nat} {f : Nat → Nat → Int} {g : Nat → Int → Int} {a b : Nat} {T : List (Int × List Int)} (h : zRS g0 N f g a b T) : (-1 ≤ f a 0 ∧ f a 0 ≤ N) ∧ (-1 ≤ f b 0 ∧ f b 0 ≤ N) := by
  match T, h with
  | [], h => have h1 := h.1.1; have h2 := h.2.1; omega
  | [d], h => have h1 := zHd_0 h.1; have h2 := h.2.1; omega
  | [d, e], h => have h1 := zHd_0 h.1; have h2 := zHd_0 h.2; omega
theorem zRes_le {f : Nat → Nat → Int} {g : Nat → Int → Int} {a b : Nat} (hI : zI f g) (h : zRes f g a b) : (-1 ≤ f a 0 ∧ f a 0 ≤ 9) ∧ (-1 ≤ f b 0 ∧ f b 0 ≤ 9) := by
  have h1 := hI.1
  rcases h with ⟨_, h2, h3⟩ | ⟨_, _, _, n, _, _, _, h4⟩
  · have h21 := h2.1
    have h31 := h3.1
    omega
  · have h5 := zRS_le h4
    omega
theorem zPm_q {a b c : Nat} (h : zPm a b c) (x : Int) : (if x = 0 then a else b) = 23 ∨ (if x = 0 then a else b) = 26 ∨ (if x = 0 then a else b) = 29 := by
  split
  · rcases h with ⟨rfl, rfl, rfl⟩ | ⟨rfl, rfl, rfl⟩ | ⟨rfl, rfl, rfl⟩ | ⟨rfl, rfl, rfl⟩ | ⟨rfl, rfl, rfl⟩ | ⟨rfl, rfl, rfl⟩ <;> decide
  · rcases h with ⟨rfl, rfl, rfl⟩ | ⟨rfl, rfl, rfl⟩ | ⟨rfl, rfl, rfl⟩ | ⟨rfl, rfl, rfl⟩ | ⟨rfl, rfl, rfl⟩ | ⟨rfl, rfl, rfl⟩ <;> decide
section Pub2
variable {l : Launch} {dC : Nat → ClassId} {dI : Nat → Nat → Nat} {tc : Nat → ClassId} {f : Nat → Nat → Int} {g : Nat → Int → Int} {a b c : Nat}
set_option maxRecDepth 100000 in
set_option maxHeartbeats 4000000 in
theorem ct_word (x k v w : Int) (hI : zI f g) : am_Ct l dC dI tc mm0_word 2 58 [(.inr (.inr (some 0))), .inl x, .inl k, .inl v, .inr (.inl w)] (58, f, g, pr_r a b c) (fun r s => (((x < 0 ∨ 6 ≤ x) ∨ (k < 0 ∨ 9 ≤ k) ∨ (v < 0 ∨ 5000 ≤ v) ∨ w < 0 ∨ 1000 < w) ∧ r = some (.inl (-12)) ∧ s = (58, f, g, pr_r a b c)) ∨ (¬ ((x < 0 ∨ 6 ≤ x) ∨ (k < 0 ∨ 9 ≤ k) ∨ (v < 0 ∨ 5000 ≤ v) ∨ w < 0 ∨ 1000 < w) ∧ (f 12 0 < x ∨ zPl g x < v / 1000) ∧ r = some (.inl (-13)) ∧ s = (58, f, g, pr_r a b c)) ∨ (¬ ((x < 0 ∨ 6 ≤ x) ∨ (k < 0 ∨ 9 ≤ k) ∨ (v < 0 ∨ 5000 ≤ v) ∨ w < 0 ∨ 1000 < w) ∧ ¬ (f 12 0 < x ∨ zPl g x < v / 1000) ∧ r = some (.inl (if g 14 (x * 5 + (v / 1000)) = 4 then -14 else g 14 (x * 5 + (v / 1000)))) ∧ s = (if g 14 (x * 5 + (v / 1000)) = 4 then (58, (am_u1 f 22 4 0), g, pr_r a b c) else (58, am_u1 (am_u1 f 22 4 0) 12 0 (if (am_u1 f 22 4 0) 12 0 < x + 1 then x + 1 else (am_u1 f 22 4 0) 12 0), am_u3 (am_u3 (am_u3 (am_u3 (am_u3 g 15 ((x * 5 + (v / 1000)) * 4 + g 14 (x * 5 + (v / 1000))) k) 16 ((x * 5 + (v / 1000)) * 4 + g 14 (x * 5 + (v / 1000))) (v % 1000)) 17 ((x * 5 + (v / 1000)) * 4 + g 14 (x * 5 + (v / 1000))) w) 13 x (if g 13 x < (v / 1000) + 1 then (v / 1000) + 1 else g 13 x)) 14 (x * 5 + (v / 1000)) (g 14 (x * 5 + (v / 1000)) + 1), pr_r a b c)))) := by
  have q1 := @am_cmp_lt w 0
  have q2 := @am_cmp_le w 1000
  refine am_enter ok_0_word rfl (by decide) (Nat.le_of_ble_eq_true rfl) rfl ?_
  by_cases hb : (f 12 0 < x ∨ zPl g x < v / 1000)
  · have e : (if (f 12 0 < x ∨ zPl g x < v / 1000) then (1 : Int) else 0) = 1 := if_pos hb
    repeat' first
      | (refine am_callv rfl (ct_isBehindNext _ _) (by decide) (Nat.le_of_ble_eq_true rfl) (Nat.le_of_ble_eq_true rfl) ?_; rw [e])
      | (refine am_go rfl (by first | exact True.intro | omega | exact ⟨by decide, Nat.le_of_ble_eq_true rfl, Nat.le_of_ble_eq_true rfl⟩ | exact ⟨by decide, Nat.le_of_ble_eq_true rfl⟩) ?_)
      | (refine am_if rfl (fun c1 => ?_) (fun c1 => ?_))
      | (refine am_iret rfl rfl rfl ?_)
      | (refine am_zret rfl rfl (by first | exact Or.inl rfl | exact Or.inr rfl) rfl ?_)
      | (refine am_lret rfl rfl rfl ?_)
      | (refine am_vret (x := 0) rfl rfl rfl ?_)
    all_goals first | (exact Or.inl ⟨by omega, rfl, rfl⟩) | (exact Or.inr (Or.inl ⟨by omega, hb, rfl, rfl⟩)) | omega
  · have e : (if (f 12 0 < x ∨ zPl g x < v / 1000) then (1 : Int) else 0) = 0 := if_neg hb
    repeat' first
      | (refine am_callv rfl (ct_isBehindNext _ _) (by decide) (Nat.le_of_ble_eq_true rfl) (Nat.le_of_ble_eq_true rfl) ?_; rw [e])
      | (refine am_calln rfl (ct_forget) (by decide) (Nat.le_of_ble_eq_true rfl) (Nat.le_of_ble_eq_true rfl) ?_)
      | (refine am_callv rfl (ct_ladd x (v / 1000) k (v % 1000) w (by omega) (by omega) (hI.2.2.2.2.1 x (v / 1000) (by omega) (by omega) (by omega) (by omega)).1) (by decide) (Nat.le_of_ble_eq_true rfl) (Nat.le_of_ble_eq_true rfl) ?_)
      | (refine am_go rfl (by first | exact True.intro | omega | exact ⟨by decide, Nat.le_of_ble_eq_true rfl, Nat.le_of_ble_eq_true rfl⟩ | exact ⟨by decide, Nat.le_of_ble_eq_true rfl⟩) ?_)
      | (refine am_if rfl (fun c1 => ?_) (fun c1 => ?_))
      | (refine am_iret rfl rfl rfl ?_)
      | (refine am_zret rfl rfl (by first | exact Or.inl rfl | exact Or.inr rfl) rfl ?_)
      | (refine am_lret rfl rfl rfl ?_)
      | (refine am_vret (x := 0) rfl rfl rfl ?_)
    all_goals first | (exact Or.inl ⟨by omega, rfl, rfl⟩) | omega | skip
    by_cases h4 : g 14 (x * 5 + (v / 1000)) = 4
    · rw [if_pos h4, if_pos h4]
      exact am_iret rfl rfl rfl (Or.inr (Or.inr ⟨by omega, hb, rfl, rfl⟩))
    · rw [if_neg h4, if_neg h4]
      exact am_iret rfl rfl rfl (Or.inr (Or.inr ⟨by omega, hb, rfl, rfl⟩))
set_option maxRecDepth 100000 in
set_option maxHeartbeats 4000000 in
theorem ct_fits (k v w : Int) (hc : 0 ≤ f 18 0 ∧ f 18 0 ≤ 60) : am_Ct l dC dI tc mm0_fits 2 58 [(.inr (.inr (some 0))), .inl k, .inl v, .inl w] (58, f, g, pr_r a b c) (fun r s => ((((k ≠ 2 ∧ k ≠ 6) ∨ (v < 0 ∨ 1000 ≤ v) ∨ w < 0 ∨ 1000 ≤ w) ∨ 60 ≤ f 18 0 ∨ zFit f g k v w) ∧ r = some (.inl 0) ∧ s = (58, f, g, pr_r a b c)) ∨ (¬ (((k ≠ 2 ∧ k ≠ 6) ∨ (v < 0 ∨ 1000 ≤ v) ∨ w < 0 ∨ 1000 ≤ w) ∨ 60 ≤ f 18 0 ∨ zFit f g k v w) ∧ r = some (.inl 1) ∧ s = (58, am_u1 (am_u1 f 18 0 (f 18 0 + 1)) 22 4 0, am_u3 (am_u3 (am_u3 g 19 (f 18 0) k) 20 (f 18 0) v) 21 (f 18 0) w, pr_r a b c))) := by
  refine am_enter ok_0_fits rfl (by decide) (Nat.le_of_ble_eq_true rfl) rfl ?_
  repeat' first
    | (refine am_go rfl (by first | exact True.intro | omega | exact ⟨by decide, Nat.le_of_ble_eq_true rfl, Nat.le_of_ble_eq_true rfl⟩ | exact ⟨by decide, Nat.le_of_ble_eq_true rfl⟩) ?_)
    | (refine am_if rfl (fun c1 => ?_) (fun c1 => ?_))
    | (refine am_iret rfl rfl rfl ?_)
    | (refine am_zret rfl rfl (by first | exact Or.inl rfl | exact Or.inr rfl) rfl ?_)
    | (refine am_lret rfl rfl rfl ?_)
    | (refine am_vret (x := 0) rfl rfl rfl ?_)
  all_goals first | (exact Or.inl ⟨Or.inl (by omega), rfl, rfl⟩) | skip
  all_goals (refine am_call rfl (ct_padd k v w hc) (by decide) (Nat.le_of_ble_eq_true rfl) (Nat.le_of_ble_eq_true rfl) (Nat.le_of_ble_eq_true rfl) (fun rv s q => ?_); rcases q with ⟨rfl, q1, rfl⟩ | ⟨rfl, q1, rfl⟩)
  all_goals (repeat' first | (refine am_calln rfl (ct_forget) (by decide) (Nat.le_of_ble_eq_true rfl) (Nat.le_of_ble_eq_true rfl) ?_) | (refine am_go rfl (by first | exact True.intro | omega | exact ⟨by decide, Nat.le_of_ble_eq_true rfl, Nat.le_of_ble_eq_true rfl⟩ | exact ⟨by decide, Nat.le_of_ble_eq_true rfl⟩) ?_) | (refine am_if rfl (fun c1 => ?_) (fun c1 => ?_)) | (refine am_zret rfl rfl (by first | exact Or.inl rfl | exact Or.inr rfl) rfl ?_))
  all_goals first | (exact Or.inl ⟨Or.inr q1, rfl, rfl⟩) | (refine Or.inr ⟨fun u => u.elim (fun u => by omega) q1, rfl, rfl⟩) | omega
set_option maxRecDepth 100000 in
set_option maxHeartbeats 4000000 in
theorem ct_part (x y z : Int) (h : zSS f g a b c) : am_Ct l dC dI tc mm0_part 6 58 [(.inr (.inr (some 0))), .inl x, .inl y, .inl z] (58, f, g, pr_r a b c) (fun r s => (((x < 0 ∨ 2 ≤ x) ∨ z < 0 ∨ 5 ≤ z) ∧ r = some (.inl (-12)) ∧ s = (58, f, g, pr_r a b c)) ∨ (¬ ((x < 0 ∨ 2 ≤ x) ∨ z < 0 ∨ 5 ≤ z) ∧ ∃ F G a' b' c', r = some (.inl (if (0 ≤ y ∧ y < F (if x = 0 then a' else b') 0) ∧ 0 ≤ z ∧ z < 5 then G ((if x = 0 then a' else b') + 2) (y * 5 + z) else -1)) ∧ zAft f g s F G a' b' c')) := by
  refine am_enter ok_0_part rfl (by decide) (Nat.le_of_ble_eq_true rfl) rfl ?_
  (refine am_go rfl (by first | exact True.intro | omega | exact ⟨by decide, Nat.le_of_ble_eq_true rfl, Nat.le_of_ble_eq_true rfl⟩ | exact ⟨by decide, Nat.le_of_ble_eq_true rfl⟩) ?_)
  (refine am_callv rfl (ct_isNoRank _) (by decide) (Nat.le_of_ble_eq_true rfl) (Nat.le_of_ble_eq_true rfl) ?_)
  by_cases hx : x < 0 ∨ 2 ≤ x
  · rw [if_pos hx]
    refine am_if rfl (fun c1 => ?_) (fun c1 => ?_)
    · (refine am_go rfl (by first | exact True.intro | omega | exact ⟨by decide, Nat.le_of_ble_eq_true rfl, Nat.le_of_ble_eq_true rfl⟩ | exact ⟨by decide, Nat.le_of_ble_eq_true rfl⟩) ?_)
      exact am_iret rfl rfl rfl (Or.inl ⟨Or.inl hx, rfl, rfl⟩)
    · omega
  · rw [if_neg hx]
    have key : ∀ (hz : ¬ (z < 0 ∨ 5 ≤ z)), am_wp l dC dI tc mm0_part 6 58 58 (fun r s => (((x < 0 ∨ 2 ≤ x) ∨ z < 0 ∨ 5 ≤ z) ∧ r = some (.inl (-12)) ∧ s = (58, f, g, pr_r a b c)) ∨ (¬ ((x < 0 ∨ 2 ≤ x) ∨ z < 0 ∨ 5 ≤ z) ∧ ∃ F G a' b' c', r = some (.inl (if (0 ≤ y ∧ y < F (if x = 0 then a' else b') 0) ∧ 0 ≤ z ∧ z < 5 then G ((if x = 0 then a' else b') + 2) (y * 5 + z) else -1)) ∧ zAft f g s F G a' b' c')) 10 [some (.inr (.inr (some 0))), some (.inl x), some (.inl y), some (.inl z)] [] (58, f, g, pr_r a b c) := by
      intro hz
      iterate 2 (refine am_go rfl (by first | exact True.intro | omega | exact ⟨by decide, Nat.le_of_ble_eq_true rfl, Nat.le_of_ble_eq_true rfl⟩ | exact ⟨by decide, Nat.le_of_ble_eq_true rfl⟩) ?_)
      refine am_call rfl (ct_readingOf x h) (by decide) (Nat.le_of_ble_eq_true rfl) (Nat.le_of_ble_eq_true rfl) (Nat.le_of_ble_eq_true rfl) (fun rv s q => ?_)
      obtain ⟨F, G, a', b', c', rfl, q1, q2, q3, q4, q5⟩ := q
      subst q1
      have hq := zPm_q q2.1 x
      have hle := zRes_le q2.2.1 q4
      have hl9 : F (if x = 0 then a' else b') 0 ≤ 9 := by
        split
        · omega
        · omega
      generalize e : (if x = 0 then a' else b') = q at hq hl9
      rcases hq with rfl | rfl | rfl
      all_goals
        iterate 2 (refine am_go rfl (by first | exact True.intro | omega | exact ⟨by decide, Nat.le_of_ble_eq_true rfl, Nat.le_of_ble_eq_true rfl⟩ | exact ⟨by decide, Nat.le_of_ble_eq_true rfl⟩) ?_)
        refine am_callv rfl (ct_fact _ (by decide) y z hl9) (by decide) (Nat.le_of_ble_eq_true rfl) (Nat.le_of_ble_eq_true rfl) ?_
        exact am_iret rfl rfl rfl (Or.inr ⟨fun u => u.elim hx hz, F, G, a', b', c', by rw [e], rfl, q2, q3, q4, q5⟩)
    refine am_if rfl (fun c1 => ?_) (fun c1 => ?_)
    · omega
    · (refine am_go rfl (by first | exact True.intro | omega | exact ⟨by decide, Nat.le_of_ble_eq_true rfl, Nat.le_of_ble_eq_true rfl⟩ | exact ⟨by decide, Nat.le_of_ble_eq_true rfl⟩) ?_)
      refine am_if rfl (fun c2 => ?_) (fun c2 => ?_)
      · (refine am_go rfl (by first | exact True.intro | omega | exact ⟨by decide, Nat.le_of_ble_eq_true rfl, Nat.le_of_ble_eq_true rfl⟩ | exact ⟨by decide, Nat.le_of_ble_eq_true rfl⟩) ?_)
        exact am_iret rfl rfl rfl (Or.inl ⟨Or.inr (Or.inl c2), rfl, rfl⟩)
      · iterate 2 (refine am_go rfl (by first | exact True.intro | omega | exact ⟨by decide, Nat.le_of_ble_eq_true rfl, Nat.le_of_ble_eq_true rfl⟩ | exact ⟨by decide, Nat.le_of_ble_eq_true rfl⟩) ?_)
        refine am_if rfl (fun c3 => ?_) (fun c3 => ?_)
        · exact key (by omega)
        · (refine am_go rfl (by first | exact True.intro | omega | exact ⟨by decide, Nat.le_of_ble_eq_true rfl, Nat.le_of_ble_eq_true rfl⟩ | exact ⟨by decide, Nat.le_of_ble_eq_true rfl⟩) ?_)
          exact am_iret rfl rfl rfl (Or.inl ⟨Or.inr (Or.inr (by omega)), rfl, rfl⟩)
end Pub2

/-! what the search has found, if it has looked -/
def zRes (f : Nat → Nat → Int) (g : Nat → Int → Int) (a b : Nat) : Prop := (f 2 0 = 0 ∧ zNil f a ∧ zNil f b) ∨ (0 < f 2 0 ∧ zLr f g ∧ zRchd f g ∧ ∃ n : Nat, (zVs g n).Nodup ∧ (∀ v ∈ zVs g n, 0 ≤ v) ∧ ((n = 0 ∧ ∀ x, 0 ≤ x → x < f 2 0 → g 3 x ≠ 7) ∨ ∃ x, 0 ≤ x ∧ x < f 2 0 ∧ g 3 x = 7 ∧ ∀ v, zCov g x (f 12 0) 0 v → v ∈ zVs g n) ∧ zRS g (f 2 0).toNat f g a b ((-1 :: zVs g n).foldl (zOne f g) []))
def zSS (f : Nat → Nat → Int) (g : Nat → Int → Int) (a b c : Nat) : Prop := zPm a b c ∧ zI f g ∧ zAok g ∧ (f 22 4 = 0 ∨ (f 22 4 = 1 ∧ zRes f g a b))
/-- after a look -/
def zAft (f : Nat → Nat → Int) (g : Nat → Int → Int) (s : am_H) (F : Nat → Nat → Int) (G : Nat → Int → Int) (a b c : Nat) : Prop := s = (58, F, G, pr_r a b c) ∧ zSS F G a b c ∧ F 22 4 = 1 ∧ zRes F G a b ∧ zFrF F f G g
section Look
variable {l : Launch} {dC : Nat → ClassId} {dI : Nat → Nat → Nat} {tc : Nat → ClassId} {f : Nat → Nat → Int} {g : Nat → Int → Int} {a b c : Nat}
set_option maxRecDepth 100000 in
set_option maxHeartbeats 4000000 in
theorem ct_find (h : zSS f g a b c) : am_Ct l dC dI tc mm4_find 4 58 [(.inr (.inr (some 22)))] (58, f, g, pr_r a b c) (fun r s => r = none ∧ ∃ F G a' b' c', zAft f g s F G a' b' c') := by
  obtain ⟨h1, h2, h3, h4 | ⟨h4, h5⟩⟩ := h
  · refine am_Ct_mono (fun r s q => ?_) (ct_find0 h1 h2 h3 h4)
    obtain ⟨q0, F, G, a', b', c', q1, q2, q3, q4, q5, q6⟩ := q
    have hB : zFrB G g := fun x j hx => q3.2 x j (Or.inl hx.1)
    have k2 := q3.1 2 0 (by decide)
    have k12 := q3.1 12 0 (by decide)
    have k18 := q3.1 18 0 (by decide)
    have hR : zRes F G a' b' := by
      rcases q6 with ⟨u1, u2⟩ | ⟨u1, u2, u3, n, u4, u5, u6, u7⟩
      · exact Or.inl ⟨by rw [k2]; exact u1, u2⟩
      · refine Or.inr ⟨by rw [k2]; exact u1, u2, ?_, n, u4, u5, ?_, ?_⟩
        · unfold zRchd at u3 ⊢
          rw [k2]
          exact u3
        · rw [k2, k12]
          simp only [hB 3 _ (by decide)]
          exact u6
        · have e9 : ∀ (L : List Int) (T : List (Int × List Int)), L.foldl (zOne F G) T = L.foldl (zOne f g) T := by
            intro L
            induction L with
            | nil => intro T; rfl
            | cons u L ih => intro T; simp only [List.foldl, hB.One k2 k12 k18, ih]
          rw [e9, hB.RS, k2]
          exact u7
    exact ⟨q0, F, G, a', b', c', q1, ⟨q2, hB.I k2 k12 k18 h2, q4, Or.inr ⟨q5, hR⟩⟩, q5, hR, q3⟩
  · refine am_Ct_mono (fun r s q => ?_) (ct_find1 h4)
    exact ⟨q.1, f, g, a, b, c, q.2, ⟨h1, h2, h3, Or.inr ⟨h4, h5⟩⟩, h4, h5, fun _ _ _ => rfl, fun _ _ _ => rfl⟩
set_option maxRecDepth 100000 in
set_option maxHeartbeats 4000000 in
theorem ct_readingOf (x : Int) (h : zSS f g a b c) : am_Ct l dC dI tc mm0_readingOf 5 58 [(.inr (.inr (some 0))), .inl x] (58, f, g, pr_r a b c) (fun r s => ∃ F G a' b' c', r = some (.inr (.inr (some (if x = 0 then a' else b')))) ∧ zAft f g s F G a' b' c') := by
  refine am_enter ok_0_readingOf rfl (by decide) (Nat.le_of_ble_eq_true rfl) rfl ?_
  iterate 2 (refine am_go rfl (by first | exact True.intro | omega | exact ⟨by decide, Nat.le_of_ble_eq_true rfl, Nat.le_of_ble_eq_true rfl⟩ | exact ⟨by decide, Nat.le_of_ble_eq_true rfl⟩) ?_)
  refine am_call rfl (ct_find h) (by decide) (Nat.le_of_ble_eq_true rfl) (Nat.le_of_ble_eq_true rfl) (Nat.le_of_ble_eq_true rfl) (fun rv s q => ?_)
  obtain ⟨rfl, F, G, a', b', c', q1, q2, q3, q4, q5⟩ := q
  subst q1
  (refine am_go rfl (by first | exact True.intro | omega | exact ⟨by decide, Nat.le_of_ble_eq_true rfl, Nat.le_of_ble_eq_true rfl⟩ | exact ⟨by decide, Nat.le_of_ble_eq_true rfl⟩) ?_)
  refine am_if rfl (fun c1 => ?_) (fun c1 => ?_)
  · iterate 3 (refine am_go rfl (by first | exact True.intro | omega | exact ⟨by decide, Nat.le_of_ble_eq_true rfl, Nat.le_of_ble_eq_true rfl⟩ | exact ⟨by decide, Nat.le_of_ble_eq_true rfl⟩) ?_)
    refine am_aret rfl rfl rfl ⟨F, G, a', b', c', ?_, rfl, q2, q3, q4, q5⟩
    rw [if_neg c1]
  · iterate 4 (refine am_go rfl (by first | exact True.intro | omega | exact ⟨by decide, Nat.le_of_ble_eq_true rfl, Nat.le_of_ble_eq_true rfl⟩ | exact ⟨by decide, Nat.le_of_ble_eq_true rfl⟩) ?_)
    refine am_aret rfl rfl rfl ⟨F, G, a', b', c', ?_, rfl, q2, q3, q4, q5⟩
    rw [if_pos (by omega)]
set_option maxRecDepth 100000 in
set_option maxHeartbeats 4000000 in
theorem ct_furthest (h : zSS f g a b c) : am_Ct l dC dI tc mm0_furthest 5 58 [(.inr (.inr (some 0)))] (58, f, g, pr_r a b c) (fun r s => (f 2 0 = 0 ∧ r = some (.inl (-1)) ∧ s = (58, f, g, pr_r a b c)) ∨ (f 2 0 ≠ 0 ∧ ∃ F G a' b' c', r = some (.inl (F 22 2)) ∧ zAft f g s F G a' b' c')) := by
  refine am_enter ok_0_furthest rfl (by decide) (Nat.le_of_ble_eq_true rfl) rfl ?_
  iterate 3 (refine am_go rfl (by first | exact True.intro | omega | exact ⟨by decide, Nat.le_of_ble_eq_true rfl, Nat.le_of_ble_eq_true rfl⟩ | exact ⟨by decide, Nat.le_of_ble_eq_true rfl⟩) ?_)
  refine am_if rfl (fun c1 => ?_) (fun c1 => ?_)
  · iterate 2 (refine am_go rfl (by first | exact True.intro | omega | exact ⟨by decide, Nat.le_of_ble_eq_true rfl, Nat.le_of_ble_eq_true rfl⟩ | exact ⟨by decide, Nat.le_of_ble_eq_true rfl⟩) ?_)
    refine am_call rfl (ct_find h) (by decide) (Nat.le_of_ble_eq_true rfl) (Nat.le_of_ble_eq_true rfl) (Nat.le_of_ble_eq_true rfl) (fun rv s q => ?_)
    obtain ⟨rfl, F, G, a', b', c', q1, q2, q3, q4, q5⟩ := q
    subst q1
    iterate 3 (refine am_go rfl (by first | exact True.intro | omega | exact ⟨by decide, Nat.le_of_ble_eq_true rfl, Nat.le_of_ble_eq_true rfl⟩ | exact ⟨by decide, Nat.le_of_ble_eq_true rfl⟩) ?_)
    exact am_iret rfl rfl rfl (Or.inr ⟨c1, F, G, a', b', c', rfl, rfl, q2, q3, q4, q5⟩)
  · (refine am_go rfl (by first | exact True.intro | omega | exact ⟨by decide, Nat.le_of_ble_eq_true rfl, Nat.le_of_ble_eq_true rfl⟩ | exact ⟨by decide, Nat.le_of_ble_eq_true rfl⟩) ?_)
    exact am_iret rfl rfl rfl (Or.inl ⟨by omega, rfl, rfl⟩)
set_option maxRecDepth 100000 in
set_option maxHeartbeats 4000000 in
theorem ct_derive (x : Int) (h : zSS f g a b c) : am_Ct l dC dI tc mm0_derive 6 58 [(.inr (.inr (some 0))), .inl x] (58, f, g, pr_r a b c) (fun r s => ((x < 0 ∨ 2 ≤ x) ∧ r = some (.inl (-12)) ∧ s = (58, f, g, pr_r a b c)) ∨ (¬ (x < 0 ∨ 2 ≤ x) ∧ ∃ F G a' b' c', r = some (.inl (F (if x = 0 then a' else b') 0)) ∧ zAft f g s F G a' b' c')) := by
  refine am_enter ok_0_derive rfl (by decide) (Nat.le_of_ble_eq_true rfl) rfl ?_
  (refine am_go rfl (by first | exact True.intro | omega | exact ⟨by decide, Nat.le_of_ble_eq_true rfl, Nat.le_of_ble_eq_true rfl⟩ | exact ⟨by decide, Nat.le_of_ble_eq_true rfl⟩) ?_)
  (refine am_callv rfl (ct_isNoRank _) (by decide) (Nat.le_of_ble_eq_true rfl) (Nat.le_of_ble_eq_true rfl) ?_)
  by_cases hx : x < 0 ∨ 2 ≤ x
  · rw [if_pos hx]
    refine am_if rfl (fun c1 => ?_) (fun c1 => ?_)
    · omega
    · (refine am_go rfl (by first | exact True.intro | omega | exact ⟨by decide, Nat.le_of_ble_eq_true rfl, Nat.le_of_ble_eq_true rfl⟩ | exact ⟨by decide, Nat.le_of_ble_eq_true rfl⟩) ?_)
      exact am_iret rfl rfl rfl (Or.inl ⟨hx, rfl, rfl⟩)
  · rw [if_neg hx]
    refine am_if rfl (fun c1 => ?_) (fun c1 => ?_)
    · iterate 2 (refine am_go rfl (by first | exact True.intro | omega | exact ⟨by decide, Nat.le_of_ble_eq_true rfl, Nat.le_of_ble_eq_true rfl⟩ | exact ⟨by decide, Nat.le_of_ble_eq_true rfl⟩) ?_)
      refine am_call rfl (ct_readingOf x h) (by decide) (Nat.le_of_ble_eq_true rfl) (Nat.le_of_ble_eq_true rfl) (Nat.le_of_ble_eq_true rfl) (fun rv s q => ?_)
      obtain ⟨F, G, a', b', c', rfl, q1, q2, q3, q4, q5⟩ := q
      subst q1
      have fin : ∀ q, (q = 23 ∨ q = 26 ∨ q = 29) → q = (if x = 0 then a' else b') → am_wp l dC dI tc mm0_derive 6 58 58 (fun r s => ((x < 0 ∨ 2 ≤ x) ∧ r = some (.inl (-12)) ∧ s = (58, f, g, pr_r a b c)) ∨ (¬ (x < 0 ∨ 2 ≤ x) ∧ ∃ F G a' b' c', r = some (.inl (F (if x = 0 then a' else b') 0)) ∧ zAft f g s F G a' b' c')) 8 [some (.inr (.inr (some 0))), some (.inl x)] [.inr (.inr (some q))] (58, F, G, pr_r a' b' c') := by
        intro q hq e
        rcases hq with rfl | rfl | rfl
        · iterate 1 (refine am_go rfl (by first | exact True.intro | omega | exact ⟨by decide, Nat.le_of_ble_eq_true rfl, Nat.le_of_ble_eq_true rfl⟩ | exact ⟨by decide, Nat.le_of_ble_eq_true rfl⟩) ?_)
          exact am_iret rfl rfl rfl (Or.inr ⟨hx, F, G, a', b', c', by rw [← e], rfl, q2, q3, q4, q5⟩)
        · iterate 1 (refine am_go rfl (by first | exact True.intro | omega | exact ⟨by decide, Nat.le_of_ble_eq_true rfl, Nat.le_of_ble_eq_true rfl⟩ | exact ⟨by decide, Nat.le_of_ble_eq_true rfl⟩) ?_)
          exact am_iret rfl rfl rfl (Or.inr ⟨hx, F, G, a', b', c', by rw [← e], rfl, q2, q3, q4, q5⟩)
        · iterate 1 (refine am_go rfl (by first | exact True.intro | omega | exact ⟨by decide, Nat.le_of_ble_eq_true rfl, Nat.le_of_ble_eq_true rfl⟩ | exact ⟨by decide, Nat.le_of_ble_eq_true rfl⟩) ?_)
          exact am_iret rfl rfl rfl (Or.inr ⟨hx, F, G, a', b', c', by rw [← e], rfl, q2, q3, q4, q5⟩)
      refine fin _ ?_ rfl
      have hp := q2.1
      split
      · rcases hp with ⟨rfl, rfl, rfl⟩ | ⟨rfl, rfl, rfl⟩ | ⟨rfl, rfl, rfl⟩ | ⟨rfl, rfl, rfl⟩ | ⟨rfl, rfl, rfl⟩ | ⟨rfl, rfl, rfl⟩ <;> decide
      · rcases hp with ⟨rfl, rfl, rfl⟩ | ⟨rfl, rfl, rfl⟩ | ⟨rfl, rfl, rfl⟩ | ⟨rfl, rfl, rfl⟩ | ⟨rfl, rfl, rfl⟩ | ⟨rfl, rfl, rfl⟩ <;> decide
    · omega
set_option maxRecDepth 100000 in
set_option maxHeartbeats 4000000 in
theorem ct_sum (x : Int) (h : zSS f g a b c) : am_Ct l dC dI tc mm0_sum 6 58 [(.inr (.inr (some 0))), .inl x] (58, f, g, pr_r a b c) (fun r s => ((x < 0 ∨ 2 ≤ x) ∧ r = some (.inr (.inl (-12))) ∧ s = (58, f, g, pr_r a b c)) ∨ (¬ (x < 0 ∨ 2 ≤ x) ∧ ∃ F G a' b' c', r = some (.inr (.inl (F (if x = 0 then a' else b') 1))) ∧ zAft f g s F G a' b' c')) := by
  refine am_enter ok_0_sum rfl (by decide) (Nat.le_of_ble_eq_true rfl) rfl ?_
  (refine am_go rfl (by first | exact True.intro | omega | exact ⟨by decide, Nat.le_of_ble_eq_true rfl, Nat.le_of_ble_eq_true rfl⟩ | exact ⟨by decide, Nat.le_of_ble_eq_true rfl⟩) ?_)
  (refine am_callv rfl (ct_isNoRank _) (by decide) (Nat.le_of_ble_eq_true rfl) (Nat.le_of_ble_eq_true rfl) ?_)
  by_cases hx : x < 0 ∨ 2 ≤ x
  · rw [if_pos hx]
    refine am_if rfl (fun c1 => ?_) (fun c1 => ?_)
    · omega
    · (refine am_go rfl (by first | exact True.intro | omega | exact ⟨by decide, Nat.le_of_ble_eq_true rfl, Nat.le_of_ble_eq_true rfl⟩ | exact ⟨by decide, Nat.le_of_ble_eq_true rfl⟩) ?_)
      exact am_lret rfl rfl rfl (Or.inl ⟨hx, rfl, rfl⟩)
  · rw [if_neg hx]
    refine am_if rfl (fun c1 => ?_) (fun c1 => ?_)
    · iterate 2 (refine am_go rfl (by first | exact True.intro | omega | exact ⟨by decide, Nat.le_of_ble_eq_true rfl, Nat.le_of_ble_eq_true rfl⟩ | exact ⟨by decide, Nat.le_of_ble_eq_true rfl⟩) ?_)
      refine am_call rfl (ct_readingOf x h) (by decide) (Nat.le_of_ble_eq_true rfl) (Nat.le_of_ble_eq_true rfl) (Nat.le_of_ble_eq_true rfl) (fun rv s q => ?_)
      obtain ⟨F, G, a', b', c', rfl, q1, q2, q3, q4, q5⟩ := q
      subst q1
      have fin : ∀ q, (q = 23 ∨ q = 26 ∨ q = 29) → q = (if x = 0 then a' else b') → am_wp l dC dI tc mm0_sum 6 58 58 (fun r s => ((x < 0 ∨ 2 ≤ x) ∧ r = some (.inr (.inl (-12))) ∧ s = (58, f, g, pr_r a b c)) ∨ (¬ (x < 0 ∨ 2 ≤ x) ∧ ∃ F G a' b' c', r = some (.inr (.inl (F (if x = 0 then a' else b') 1))) ∧ zAft f g s F G a' b' c')) 8 [some (.inr (.inr (some 0))), some (.inl x)] [.inr (.inr (some q))] (58, F, G, pr_r a' b' c') := by
        intro q hq e
        rcases hq with rfl | rfl | rfl
        · iterate 2 (refine am_go rfl (by first | exact True.intro | omega | exact ⟨by decide, Nat.le_of_ble_eq_true rfl, Nat.le_of_ble_eq_true rfl⟩ | exact ⟨by decide, Nat.le_of_ble_eq_true rfl⟩) ?_)
          exact am_lret rfl rfl rfl (Or.inr ⟨hx, F, G, a', b', c', by rw [← e], rfl, q2, q3, q4, q5⟩)
        · iterate 2 (refine am_go rfl (by first | exact True.intro | omega | exact ⟨by decide, Nat.le_of_ble_eq_true rfl, Nat.le_of_ble_eq_true rfl⟩ | exact ⟨by decide, Nat.le_of_ble_eq_true rfl⟩) ?_)
          exact am_lret rfl rfl rfl (Or.inr ⟨hx, F, G, a', b', c', by rw [← e], rfl, q2, q3, q4, q5⟩)
        · iterate 2 (refine am_go rfl (by first | exact True.intro | omega | exact ⟨by decide, Nat.le_of_ble_eq_true rfl, Nat.le_of_ble_eq_true rfl⟩ | exact ⟨by decide, Nat.le_of_ble_eq_true rfl⟩) ?_)
          exact am_lret rfl rfl rfl (Or.inr ⟨hx, F, G, a', b', c', by rw [← e], rfl, q2, q3, q4, q5⟩)
      refine fin _ ?_ rfl
      have hp := q2.1
      split
      · rcases hp with ⟨rfl, rfl, rfl⟩ | ⟨rfl, rfl, rfl⟩ | ⟨rfl, rfl, rfl⟩ | ⟨rfl, rfl, rfl⟩ | ⟨rfl, rfl, rfl⟩ | ⟨rfl, rfl, rfl⟩ <;> decide
      · rcases hp with ⟨rfl, rfl, rfl⟩ | ⟨rfl, rfl, rfl⟩ | ⟨rfl, rfl, rfl⟩ | ⟨rfl, rfl, rfl⟩ | ⟨rfl, rfl, rfl⟩ | ⟨rfl, rfl, rfl⟩ <;> decide
    · omega
end Look

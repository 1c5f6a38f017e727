/-! the values that the place can have -/
/-- the list of values: how many, apart, not below 0 -/
def zLs (f : Nat → Nat → Int) (g : Nat → Int → Int) (m : Int) : Prop := (0 ≤ f 22 13 ∧ f 22 13 ≤ m) ∧ (∀ i, 0 ≤ i → i < f 22 13 → 0 ≤ g 36 i) ∧ ∀ i j, 0 ≤ i → i < f 22 13 → 0 ≤ j → j < f 22 13 → g 36 i = g 36 j → i = j
def zHas (f : Nat → Nat → Int) (g : Nat → Int → Int) (v : Int) : Prop := ∃ i, 0 ≤ i ∧ i < f 22 13 ∧ g 36 i = v
/-- nothing has changed but the list of values -/
def zFrL (f f0 : Nat → Nat → Int) (g g0 : Nat → Int → Int) : Prop := (∀ x j, x ≠ 22 ∨ j ≠ 13 → f x j = f0 x j) ∧ ∀ x j, x ≠ 36 → g x j = g0 x j
theorem zFrL.rf (f : Nat → Nat → Int) (g : Nat → Int → Int) : zFrL f f g g := ⟨fun _ _ _ => rfl, fun _ _ _ => rfl⟩
theorem zFrL.tr {f f1 f0 : Nat → Nat → Int} {g g1 g0 : Nat → Int → Int} (h : zFrL f f1 g g1) (h0 : zFrL f1 f0 g1 g0) : zFrL f f0 g g0 := ⟨fun x j hx => (h.1 x j hx).trans (h0.1 x j hx), fun x j hx => (h.2 x j hx).trans (h0.2 x j hx)⟩
theorem zNa_fr {g g0 : Nat → Int → Int} (h : ∀ j, g 14 j = g0 14 j) (x y : Int) : zNa g x y = zNa g0 x y := by
  unfold zNa
  rw [h]
theorem zPl_fr {g g0 : Nat → Int → Int} (h : ∀ j, g 13 j = g0 13 j) (x : Int) : zPl g x = zPl g0 x := by
  unfold zPl
  rw [h]
section Lst
variable {l : Launch} {dC : Nat → ClassId} {dI : Nat → Nat → Nat} {tc : Nat → ClassId} {f : Nat → Nat → Int} {g : Nat → Int → Int} {a b c : Nat}
set_option maxRecDepth 100000 in
set_option maxHeartbeats 4000000 in
theorem ct_partOfKind (k : Int) (hs : f 2 0 ≤ 9) : am_Ct l dC dI tc mm1_partOfKind 0 58 [(.inr (.inr (some 2))), .inl k] (58, f, g, pr_r a b c) (fun r s => s = (58, f, g, pr_r a b c) ∧ ((∃ x, r = some (.inl x) ∧ 0 ≤ x ∧ x < f 2 0 ∧ g 3 x = k) ∨ (r = some (.inl (-1)) ∧ ∀ x, 0 ≤ x → x < f 2 0 → g 3 x ≠ k))) := by
  have loop : ∀ (n : Nat) (i : Int), (f 2 0 - i).toNat ≤ n → 0 ≤ i → (∀ x, 0 ≤ x → x < i → g 3 x ≠ k) → am_wp l dC dI tc mm1_partOfKind 0 58 58 (fun r s => s = (58, f, g, pr_r a b c) ∧ ((∃ x, r = some (.inl x) ∧ 0 ≤ x ∧ x < f 2 0 ∧ g 3 x = k) ∨ (r = some (.inl (-1)) ∧ ∀ x, 0 ≤ x → x < f 2 0 → g 3 x ≠ k))) 2 [some (.inr (.inr (some 2))), some (.inl k), some (.inl i)] [] (58, f, g, pr_r a b c) := by
    intro n
    induction n with
    | zero =>
      intro i hn hi hj
      iterate 3 (refine am_go rfl (by first | exact True.intro | omega | exact ⟨by decide, Nat.le_of_ble_eq_true rfl, Nat.le_of_ble_eq_true rfl⟩ | exact ⟨by decide, Nat.le_of_ble_eq_true rfl⟩) ?_)
      refine am_if rfl (fun c1 => ?_) (fun c1 => ?_)
      · (refine am_go rfl (by first | exact True.intro | omega | exact ⟨by decide, Nat.le_of_ble_eq_true rfl, Nat.le_of_ble_eq_true rfl⟩ | exact ⟨by decide, Nat.le_of_ble_eq_true rfl⟩) ?_)
        exact am_iret rfl rfl rfl ⟨rfl, Or.inr ⟨rfl, fun x h1 h2 => hj x h1 (by omega)⟩⟩
      · omega
    | succ n ih =>
      intro i hn hi hj
      iterate 3 (refine am_go rfl (by first | exact True.intro | omega | exact ⟨by decide, Nat.le_of_ble_eq_true rfl, Nat.le_of_ble_eq_true rfl⟩ | exact ⟨by decide, Nat.le_of_ble_eq_true rfl⟩) ?_)
      refine am_if rfl (fun c1 => ?_) (fun c1 => ?_)
      · (refine am_go rfl (by first | exact True.intro | omega | exact ⟨by decide, Nat.le_of_ble_eq_true rfl, Nat.le_of_ble_eq_true rfl⟩ | exact ⟨by decide, Nat.le_of_ble_eq_true rfl⟩) ?_)
        exact am_iret rfl rfl rfl ⟨rfl, Or.inr ⟨rfl, fun x h1 h2 => hj x h1 (by omega)⟩⟩
      · iterate 2 (refine am_go rfl (by first | exact True.intro | omega | exact ⟨by decide, Nat.le_of_ble_eq_true rfl, Nat.le_of_ble_eq_true rfl⟩ | exact ⟨by decide, Nat.le_of_ble_eq_true rfl⟩) ?_)
        refine am_if rfl (fun c2 => ?_) (fun c2 => ?_)
        · omega
        · iterate 5 (refine am_go rfl (by first | exact True.intro | omega | exact ⟨by decide, Nat.le_of_ble_eq_true rfl, Nat.le_of_ble_eq_true rfl⟩ | exact ⟨by decide, Nat.le_of_ble_eq_true rfl⟩) ?_)
          refine am_if rfl (fun c3 => ?_) (fun c3 => ?_)
          · iterate 2 (refine am_go rfl (by first | exact True.intro | omega | exact ⟨by decide, Nat.le_of_ble_eq_true rfl, Nat.le_of_ble_eq_true rfl⟩ | exact ⟨by decide, Nat.le_of_ble_eq_true rfl⟩) ?_)
            refine ih (i + 1) (by omega) (by omega) (fun x h1 h2 => ?_)
            by_cases e : x = i
            · subst e
              exact c3
            · exact hj x h1 (by omega)
          · (refine am_go rfl (by first | exact True.intro | omega | exact ⟨by decide, Nat.le_of_ble_eq_true rfl, Nat.le_of_ble_eq_true rfl⟩ | exact ⟨by decide, Nat.le_of_ble_eq_true rfl⟩) ?_)
            exact am_iret rfl rfl rfl ⟨rfl, Or.inl ⟨i, rfl, hi, by omega, by omega⟩⟩
  refine am_enter ok_1_partOfKind rfl (by decide) (Nat.le_of_ble_eq_true rfl) rfl ?_
  iterate 2 (refine am_go rfl (by first | exact True.intro | omega | exact ⟨by decide, Nat.le_of_ble_eq_true rfl, Nat.le_of_ble_eq_true rfl⟩ | exact ⟨by decide, Nat.le_of_ble_eq_true rfl⟩) ?_)
  exact loop _ 0 (Nat.le_refl _) (by omega) (fun x h1 h2 => by omega)
set_option maxRecDepth 100000 in
set_option maxHeartbeats 4000000 in
theorem ct_listPlaceValue (v : Int) (hs : 0 ≤ f 22 13 ∧ f 22 13 < 120) : am_Ct l dC dI tc mm4_listPlaceValue 0 58 [(.inr (.inr (some 22))), .inl v] (58, f, g, pr_r a b c) (fun r s => r = none ∧ ((zHas f g v ∧ s = (58, f, g, pr_r a b c)) ∨ (¬ zHas f g v ∧ s = (58, am_u1 f 22 13 (f 22 13 + 1), am_u3 g 36 (f 22 13) v, pr_r a b c)))) := by
  have loop : ∀ (n : Nat) (i : Int), (f 22 13 - i).toNat ≤ n → 0 ≤ i → (∀ x, 0 ≤ x → x < i → g 36 x ≠ v) → am_wp l dC dI tc mm4_listPlaceValue 0 58 58 (fun r s => r = none ∧ ((zHas f g v ∧ s = (58, f, g, pr_r a b c)) ∨ (¬ zHas f g v ∧ s = (58, am_u1 f 22 13 (f 22 13 + 1), am_u3 g 36 (f 22 13) v, pr_r a b c)))) 2 [some (.inr (.inr (some 22))), some (.inl v), some (.inl i)] [] (58, f, g, pr_r a b c) := by
    intro n
    induction n with
    | zero =>
      intro i hn hi hj
      iterate 3 (refine am_go rfl (by first | exact True.intro | omega | exact ⟨by decide, Nat.le_of_ble_eq_true rfl, Nat.le_of_ble_eq_true rfl⟩ | exact ⟨by decide, Nat.le_of_ble_eq_true rfl⟩) ?_)
      refine am_if rfl (fun c1 => ?_) (fun c1 => ?_)
      · iterate 5 (refine am_go rfl (by first | exact True.intro | omega | exact ⟨by decide, Nat.le_of_ble_eq_true rfl, Nat.le_of_ble_eq_true rfl⟩ | exact ⟨by decide, Nat.le_of_ble_eq_true rfl⟩) ?_)
        refine am_if rfl (fun c2 => ?_) (fun c2 => ?_)
        · omega
        · iterate 12 (refine am_go rfl (by first | exact True.intro | omega | exact ⟨by decide, Nat.le_of_ble_eq_true rfl, Nat.le_of_ble_eq_true rfl⟩ | exact ⟨by decide, Nat.le_of_ble_eq_true rfl⟩) ?_)
          refine am_vret (x := 0) rfl rfl rfl ⟨rfl, Or.inr ⟨?_, rfl⟩⟩
          rintro ⟨q, q1, q2, q3⟩
          exact hj q q1 (by omega) q3
      · omega
    | succ n ih =>
      intro i hn hi hj
      iterate 3 (refine am_go rfl (by first | exact True.intro | omega | exact ⟨by decide, Nat.le_of_ble_eq_true rfl, Nat.le_of_ble_eq_true rfl⟩ | exact ⟨by decide, Nat.le_of_ble_eq_true rfl⟩) ?_)
      refine am_if rfl (fun c1 => ?_) (fun c1 => ?_)
      · iterate 5 (refine am_go rfl (by first | exact True.intro | omega | exact ⟨by decide, Nat.le_of_ble_eq_true rfl, Nat.le_of_ble_eq_true rfl⟩ | exact ⟨by decide, Nat.le_of_ble_eq_true rfl⟩) ?_)
        refine am_if rfl (fun c2 => ?_) (fun c2 => ?_)
        · omega
        · iterate 12 (refine am_go rfl (by first | exact True.intro | omega | exact ⟨by decide, Nat.le_of_ble_eq_true rfl, Nat.le_of_ble_eq_true rfl⟩ | exact ⟨by decide, Nat.le_of_ble_eq_true rfl⟩) ?_)
          refine am_vret (x := 0) rfl rfl rfl ⟨rfl, Or.inr ⟨?_, rfl⟩⟩
          rintro ⟨q, q1, q2, q3⟩
          exact hj q q1 (by omega) q3
      · iterate 4 (refine am_go rfl (by first | exact True.intro | omega | exact ⟨by decide, Nat.le_of_ble_eq_true rfl, Nat.le_of_ble_eq_true rfl⟩ | exact ⟨by decide, Nat.le_of_ble_eq_true rfl⟩) ?_)
        refine am_if rfl (fun c2 => ?_) (fun c2 => ?_)
        · omega
        · iterate 5 (refine am_go rfl (by first | exact True.intro | omega | exact ⟨by decide, Nat.le_of_ble_eq_true rfl, Nat.le_of_ble_eq_true rfl⟩ | exact ⟨by decide, Nat.le_of_ble_eq_true rfl⟩) ?_)
          refine am_if rfl (fun c3 => ?_) (fun c3 => ?_)
          · iterate 2 (refine am_go rfl (by first | exact True.intro | omega | exact ⟨by decide, Nat.le_of_ble_eq_true rfl, Nat.le_of_ble_eq_true rfl⟩ | exact ⟨by decide, Nat.le_of_ble_eq_true rfl⟩) ?_)
            refine ih (i + 1) (by omega) (by omega) (fun x h1 h2 => ?_)
            by_cases e : x = i
            · subst e
              exact c3
            · exact hj x h1 (by omega)
          · exact am_vret (x := 0) rfl rfl rfl ⟨rfl, Or.inl ⟨⟨i, hi, by omega, by omega⟩, rfl⟩⟩
  refine am_enter ok_4_listPlaceValue rfl (by decide) (Nat.le_of_ble_eq_true rfl) rfl ?_
  iterate 2 (refine am_go rfl (by first | exact True.intro | omega | exact ⟨by decide, Nat.le_of_ble_eq_true rfl, Nat.le_of_ble_eq_true rfl⟩ | exact ⟨by decide, Nat.le_of_ble_eq_true rfl⟩) ?_)
  exact loop _ 0 (Nat.le_refl _) (by omega) (fun x h1 h2 => by omega)
theorem zLs_add {m v : Int} (h : zLs f g m) (hv : 0 ≤ v) (hn : ¬ zHas f g v) : zLs (am_u1 f 22 13 (f 22 13 + 1)) (am_u3 g 36 (f 22 13) v) (m + 1) ∧ zHas (am_u1 f 22 13 (f 22 13 + 1)) (am_u3 g 36 (f 22 13) v) v ∧ ∀ u, zHas f g u → zHas (am_u1 f 22 13 (f 22 13 + 1)) (am_u3 g 36 (f 22 13) v) u := by
  obtain ⟨h1, h2, h3⟩ := h
  have e : am_u1 f 22 13 (f 22 13 + 1) 22 13 = f 22 13 + 1 := am_u1_s
  have eg : ∀ i, am_u3 g 36 (f 22 13) v 36 i = if i = f 22 13 then v else g 36 i := fun i => by
    by_cases u : i = f 22 13
    · rw [if_pos u, u, am_u3_s]
    · rw [if_neg u, am_u3_j u]
  refine ⟨⟨by rw [e]; omega, fun i i1 i2 => ?_, fun i j i1 i2 j1 j2 hij => ?_⟩, ⟨f 22 13, by omega, by rw [e]; omega, by rw [eg, if_pos rfl]⟩, fun u hu => ?_⟩
  · rw [e] at i2
    rw [eg]
    split
    · exact hv
    · exact h2 i i1 (by omega)
  · rw [e] at i2 j2
    rw [eg, eg] at hij
    by_cases u1 : i = f 22 13
    · by_cases u2 : j = f 22 13
      · omega
      · rw [if_pos u1, if_neg u2] at hij
        exact absurd ⟨j, j1, by omega, hij.symm⟩ hn
    · by_cases u2 : j = f 22 13
      · rw [if_neg u1, if_pos u2] at hij
        exact absurd ⟨i, i1, by omega, hij⟩ hn
      · rw [if_neg u1, if_neg u2] at hij
        exact h3 i j i1 (by omega) j1 (by omega) hij
  · obtain ⟨i, i1, i2, i3⟩ := hu
    exact ⟨i, i1, by rw [e]; omega, by rw [eg, if_neg (by omega)]; exact i3⟩
set_option maxRecDepth 100000 in
set_option maxHeartbeats 4000000 in
theorem ct_listAt (y z : Int) (hI : zI f g) (hy : 0 ≤ y ∧ y < 6) (hz : 0 ≤ z ∧ z < 5) (hl : zLs f g ((y * 5 + z) * 4)) : am_Ct l dC dI tc mm4_listPlaceValuesAt 2 58 [(.inr (.inr (some 22))), .inl y, .inl z] (58, f, g, pr_r a b c) (fun r s => r = none ∧ ∃ f' g', s = (58, f', g', pr_r a b c) ∧ zFrL f' f g' g ∧ zLs f' g' ((y * 5 + z) * 4 + 4) ∧ (∀ u, zHas f g u → zHas f' g' u) ∧ ∀ i, 0 ≤ i → i < zNa g y z → g 15 (zAlt y z i) = 7 → zHas f' g' (g 16 (zAlt y z i))) := by
  have hna := zNa_r hI y z
  have e14 : zNa g y z = g 14 (y * 5 + z) := if_pos ⟨hy, hz⟩
  have loop : ∀ (n : Nat) (i : Int) (F : Nat → Nat → Int) (G : Nat → Int → Int), (zNa g y z - i).toNat ≤ n → 0 ≤ i → i ≤ zNa g y z → zFrL F f G g → zLs F G ((y * 5 + z) * 4 + i) → (∀ u, zHas f g u → zHas F G u) → (∀ j, 0 ≤ j → j < i → g 15 (zAlt y z j) = 7 → zHas F G (g 16 (zAlt y z j))) → am_wp l dC dI tc mm4_listPlaceValuesAt 2 58 58 (fun r s => r = none ∧ ∃ f' g', s = (58, f', g', pr_r a b c) ∧ zFrL f' f g' g ∧ zLs f' g' ((y * 5 + z) * 4 + 4) ∧ (∀ u, zHas f g u → zHas f' g' u) ∧ ∀ i, 0 ≤ i → i < zNa g y z → g 15 (zAlt y z i) = 7 → zHas f' g' (g 16 (zAlt y z i))) 8 [some (.inr (.inr (some 22))), some (.inl y), some (.inl z), some (.inl (zNa g y z)), some (.inl i)] [] (58, F, G, pr_r a b c) := by
    intro n
    induction n with
    | zero =>
      intro i F G hn hi hi2 hF hL hk hj
      iterate 2 (refine am_go rfl (by first | exact True.intro | omega | exact ⟨by decide, Nat.le_of_ble_eq_true rfl, Nat.le_of_ble_eq_true rfl⟩ | exact ⟨by decide, Nat.le_of_ble_eq_true rfl⟩) ?_)
      refine am_if rfl (fun c1 => ?_) (fun c1 => ?_)
      · refine am_vret (x := 0) rfl rfl rfl ⟨rfl, F, G, rfl, hF, ⟨⟨hL.1.1, by have := hL.1.2; omega⟩, hL.2⟩, hk, fun j j1 j2 => hj j j1 (by omega)⟩
      · omega
    | succ n ih =>
      intro i F G hn hi hi2 hF hL hk hj
      iterate 2 (refine am_go rfl (by first | exact True.intro | omega | exact ⟨by decide, Nat.le_of_ble_eq_true rfl, Nat.le_of_ble_eq_true rfl⟩ | exact ⟨by decide, Nat.le_of_ble_eq_true rfl⟩) ?_)
      refine am_if rfl (fun c1 => ?_) (fun c1 => ?_)
      · refine am_vret (x := 0) rfl rfl rfl ⟨rfl, F, G, rfl, hF, ⟨⟨hL.1.1, by have := hL.1.2; omega⟩, hL.2⟩, hk, fun j j1 j2 => hj j j1 (by omega)⟩
      · have hal := hI.2.2.2.2.2.1 y z i hy.1 hy.2 hz.1 hz.2 hi (by omega)
        iterate 5 (refine am_go rfl (by first | exact True.intro | omega | exact ⟨by decide, Nat.le_of_ble_eq_true rfl, Nat.le_of_ble_eq_true rfl⟩ | exact ⟨by decide, Nat.le_of_ble_eq_true rfl⟩) ?_)
        refine am_callv rfl (ct_lk _ _ _ ⟨⟨hy, hz⟩, by omega⟩) (by decide) (Nat.le_of_ble_eq_true rfl) (Nat.le_of_ble_eq_true rfl) ?_
        rw [hF.2 15 _ (by decide)]
        (refine am_go rfl (by first | exact True.intro | omega | exact ⟨by decide, Nat.le_of_ble_eq_true rfl, Nat.le_of_ble_eq_true rfl⟩ | exact ⟨by decide, Nat.le_of_ble_eq_true rfl⟩) ?_)
        refine am_if rfl (fun c2 => ?_) (fun c2 => ?_)
        · iterate 2 (refine am_go rfl (by first | exact True.intro | omega | exact ⟨by decide, Nat.le_of_ble_eq_true rfl, Nat.le_of_ble_eq_true rfl⟩ | exact ⟨by decide, Nat.le_of_ble_eq_true rfl⟩) ?_)
          refine ih (i + 1) F G (by omega) (by omega) (by omega) hF ⟨⟨hL.1.1, by have := hL.1.2; omega⟩, hL.2⟩ hk (fun j j1 j2 j3 => ?_)
          by_cases e : j = i
          · subst e
            exact absurd j3 c2
          · exact hj j j1 (by omega) j3
        · iterate 6 (refine am_go rfl (by first | exact True.intro | omega | exact ⟨by decide, Nat.le_of_ble_eq_true rfl, Nat.le_of_ble_eq_true rfl⟩ | exact ⟨by decide, Nat.le_of_ble_eq_true rfl⟩) ?_)
          refine am_callv rfl (ct_lv _ _ _ ⟨⟨hy, hz⟩, by omega⟩) (by decide) (Nat.le_of_ble_eq_true rfl) (Nat.le_of_ble_eq_true rfl) ?_
          rw [hF.2 16 _ (by decide)]
          refine am_call rfl (ct_listPlaceValue _ ⟨hL.1.1, by have := hL.1.2; omega⟩) (by decide) (Nat.le_of_ble_eq_true rfl) (Nat.le_of_ble_eq_true rfl) (Nat.le_of_ble_eq_true rfl) (fun rv s q => ?_)
          obtain ⟨rfl, ⟨hh, rfl⟩ | ⟨hh, rfl⟩⟩ := q
          · iterate 2 (refine am_go rfl (by first | exact True.intro | omega | exact ⟨by decide, Nat.le_of_ble_eq_true rfl, Nat.le_of_ble_eq_true rfl⟩ | exact ⟨by decide, Nat.le_of_ble_eq_true rfl⟩) ?_)
            refine ih (i + 1) F G (by omega) (by omega) (by omega) hF ⟨⟨hL.1.1, by have := hL.1.2; omega⟩, hL.2⟩ hk (fun j j1 j2 j3 => ?_)
            by_cases e : j = i
            · subst e
              exact hh
            · exact hj j j1 (by omega) j3
          · obtain ⟨a1, a2, a3⟩ := zLs_add hL hal.1.1 hh
            iterate 2 (refine am_go rfl (by first | exact True.intro | omega | exact ⟨by decide, Nat.le_of_ble_eq_true rfl, Nat.le_of_ble_eq_true rfl⟩ | exact ⟨by decide, Nat.le_of_ble_eq_true rfl⟩) ?_)
            refine ih (i + 1) _ _ (by omega) (by omega) (by omega) ⟨fun x j hx => ?_, fun x j hx => ?_⟩ ?_ (fun u hu => a3 u (hk u hu)) (fun j j1 j2 j3 => ?_)
            · rw [am_u1_ne hx]
              exact hF.1 x j hx
            · rw [am_u3_c hx]
              exact hF.2 x j hx
            · rw [show (y * 5 + z) * 4 + (i + 1) = (y * 5 + z) * 4 + i + 1 by omega]
              exact a1
            · by_cases e : j = i
              · subst e
                exact a2
              · exact a3 _ (hj j j1 (by omega) j3)
  refine am_enter ok_4_listPlaceValuesAt rfl (by decide) (Nat.le_of_ble_eq_true rfl) rfl ?_
  iterate 4 (refine am_go rfl (by first | exact True.intro | omega | exact ⟨by decide, Nat.le_of_ble_eq_true rfl, Nat.le_of_ble_eq_true rfl⟩ | exact ⟨by decide, Nat.le_of_ble_eq_true rfl⟩) ?_)
  refine am_callv rfl (ct_alternativesAt _ _) (by decide) (Nat.le_of_ble_eq_true rfl) (Nat.le_of_ble_eq_true rfl) ?_
  iterate 3 (refine am_go rfl (by first | exact True.intro | omega | exact ⟨by decide, Nat.le_of_ble_eq_true rfl, Nat.le_of_ble_eq_true rfl⟩ | exact ⟨by decide, Nat.le_of_ble_eq_true rfl⟩) ?_)
  refine loop _ 0 f g (Nat.le_refl _) (by omega) (by omega) (zFrL.rf f g) ?_ (fun u hu => hu) (fun j j1 j2 => by omega)
  rw [show (y * 5 + z) * 4 + 0 = (y * 5 + z) * 4 by omega]
  exact hl
end Lst

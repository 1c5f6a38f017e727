section Lst2
variable {l : Launch} {dC : Nat → ClassId} {dI : Nat → Nat → Nat} {tc : Nat → ClassId} {f : Nat → Nat → Int} {g : Nat → Int → Int} {a b c : Nat}
theorem zFrL.I {f f0 : Nat → Nat → Int} {g g0 : Nat → Int → Int} (h : zFrL f f0 g g0) (hI : zI f0 g0) : zI f g := by
  unfold zI at hI ⊢
  simp only [h.1 2 0 (Or.inl (by decide)), h.1 12 0 (Or.inl (by decide)), h.1 18 0 (Or.inl (by decide)), h.2 3 _ (by decide), h.2 4 _ (by decide), h.2 5 _ (by decide), h.2 13 _ (by decide), h.2 14 _ (by decide), h.2 16 _ (by decide), h.2 17 _ (by decide)]
  exact hI
/-- what the list must have: the values of the place at the states that are reached, of the lines before y, and in it of the places before z -/
def zCov (g : Nat → Int → Int) (x y z : Int) (v : Int) : Prop := ∃ y' z' i, 0 ≤ y' ∧ 0 ≤ z' ∧ z' < zPl g y' ∧ (y' < y ∨ (y' = y ∧ z' < z)) ∧ g 32 (zSt x y' z') = 1 ∧ 0 ≤ i ∧ i < zNa g y' z' ∧ g 15 (zAlt y' z' i) = 7 ∧ v = g 16 (zAlt y' z' i)
set_option maxRecDepth 100000 in
set_option maxHeartbeats 4000000 in
theorem ct_listPlaceValues (hI : zI f g) (h32 : ∀ j, 0 ≤ j → j < 420 → g 32 j = 0 ∨ g 32 j = 1) : am_Ct l dC dI tc mm4_listPlaceValues 3 58 [(.inr (.inr (some 22)))] (58, f, g, pr_r a b c) (fun r s => r = none ∧ ∃ f' g', s = (58, f', g', pr_r a b c) ∧ zFrL f' f g' g ∧ zLs f' g' 120 ∧ ((f' 22 13 = 0 ∧ ∀ x, 0 ≤ x → x < f 2 0 → g 3 x ≠ 7) ∨ ∃ x, 0 ≤ x ∧ x < f 2 0 ∧ g 3 x = 7 ∧ ∀ v, zCov g x (f 12 0) 0 v → zHas f' g' v)) := by
  have hI2 := hI
  obtain ⟨i1, i2, i3, i4, i5, i6, i7⟩ := hI2
  have outer : ∀ x, 0 ≤ x → x < f 2 0 → g 3 x = 7 → ∀ (n : Nat) (y : Int) (o3 : Option Int) (F : Nat → Nat → Int) (G : Nat → Int → Int), (f 12 0 - y).toNat ≤ n → 0 ≤ y → y ≤ f 12 0 → zFrL F f G g → zLs F G (y * 20) → (∀ v, zCov g x y 0 v → zHas F G v) → am_wp l dC dI tc mm4_listPlaceValues 3 58 58 (fun r s => r = none ∧ ∃ f' g', s = (58, f', g', pr_r a b c) ∧ zFrL f' f g' g ∧ zLs f' g' 120 ∧ ((f' 22 13 = 0 ∧ ∀ x, 0 ≤ x → x < f 2 0 → g 3 x ≠ 7) ∨ ∃ x, 0 ≤ x ∧ x < f 2 0 ∧ g 3 x = 7 ∧ ∀ v, zCov g x (f 12 0) 0 v → zHas f' g' v)) 14 [some (.inr (.inr (some 22))), some (.inl x), some (.inl y), o3.map Sum.inl] [] (58, F, G, pr_r a b c) := by
    intro x hx1 hx2 hx3 n
    induction n with
    | zero =>
      intro y o3 F G hn hy hy2 hF hL hC
      have e12 : F 12 0 = f 12 0 := hF.1 12 0 (Or.inl (by decide))
      iterate 4 (refine am_go rfl (by first | exact True.intro | omega | exact ⟨by decide, Nat.le_of_ble_eq_true rfl, Nat.le_of_ble_eq_true rfl⟩ | exact ⟨by decide, Nat.le_of_ble_eq_true rfl⟩) ?_)
      rw [e12]
      refine am_if rfl (fun c1 => ?_) (fun c1 => ?_)
      · have e : y = f 12 0 := by omega
        subst e
        exact am_vret (x := 0) rfl rfl rfl ⟨rfl, F, G, rfl, hF, ⟨⟨hL.1.1, by have := hL.1.2; omega⟩, hL.2⟩, Or.inr ⟨x, hx1, hx2, hx3, hC⟩⟩
      · omega
    | succ n ih =>
      intro y o3 F G hn hy hy2 hF hL hC
      have e12 : F 12 0 = f 12 0 := hF.1 12 0 (Or.inl (by decide))
      have inner : y < f 12 0 → ∀ (m : Nat) (z : Int) (F : Nat → Nat → Int) (G : Nat → Int → Int), (zPl g y - z).toNat ≤ m → 0 ≤ z → z ≤ zPl g y → zFrL F f G g → zLs F G ((y * 5 + z) * 4) → (∀ v, zCov g x y z v → zHas F G v) → am_wp l dC dI tc mm4_listPlaceValues 3 58 58 (fun r s => r = none ∧ ∃ f' g', s = (58, f', g', pr_r a b c) ∧ zFrL f' f g' g ∧ zLs f' g' 120 ∧ ((f' 22 13 = 0 ∧ ∀ x, 0 ≤ x → x < f 2 0 → g 3 x ≠ 7) ∨ ∃ x, 0 ≤ x ∧ x < f 2 0 ∧ g 3 x = 7 ∧ ∀ v, zCov g x (f 12 0) 0 v → zHas f' g' v)) 21 [some (.inr (.inr (some 22))), some (.inl x), some (.inl y), some (.inl z)] [] (58, F, G, pr_r a b c) := by
        intro hyl
        have e13 : zPl g y = g 13 y := if_pos ⟨hy, by omega⟩
        have h13 := (i4 y hy (by omega)).1
        have done : ∀ (z : Int) (F : Nat → Nat → Int) (G : Nat → Int → Int), z = zPl g y → zFrL F f G g → zLs F G ((y * 5 + z) * 4) → (∀ v, zCov g x y z v → zHas F G v) → am_wp l dC dI tc mm4_listPlaceValues 3 58 58 (fun r s => r = none ∧ ∃ f' g', s = (58, f', g', pr_r a b c) ∧ zFrL f' f g' g ∧ zLs f' g' 120 ∧ ((f' 22 13 = 0 ∧ ∀ x, 0 ≤ x → x < f 2 0 → g 3 x ≠ 7) ∨ ∃ x, 0 ≤ x ∧ x < f 2 0 ∧ g 3 x = 7 ∧ ∀ v, zCov g x (f 12 0) 0 v → zHas f' g' v)) 39 [some (.inr (.inr (some 22))), some (.inl x), some (.inl y), some (.inl z)] [] (58, F, G, pr_r a b c) := by
          intro z F G hz hF hL hC
          iterate 2 (refine am_go rfl (by first | exact True.intro | omega | exact ⟨by decide, Nat.le_of_ble_eq_true rfl, Nat.le_of_ble_eq_true rfl⟩ | exact ⟨by decide, Nat.le_of_ble_eq_true rfl⟩) ?_)
          refine ih (y + 1) (some z) F G (by omega) (by omega) (by omega) hF ⟨⟨hL.1.1, by have := hL.1.2; omega⟩, hL.2⟩ (fun v hv => hC v ?_)
          obtain ⟨y', z', i, b1, b2, b3, b4, b5⟩ := hv
          refine ⟨y', z', i, b1, b2, b3, ?_, b5⟩
          rcases b4 with b4 | b4
          · by_cases e : y' = y
            · subst e
              exact Or.inr ⟨rfl, by omega⟩
            · exact Or.inl (by omega)
          · omega
        intro m
        induction m with
        | zero =>
          intro z F G hm hz hz2 hF hL hC
          iterate 4 (refine am_go rfl (by first | exact True.intro | omega | exact ⟨by decide, Nat.le_of_ble_eq_true rfl, Nat.le_of_ble_eq_true rfl⟩ | exact ⟨by decide, Nat.le_of_ble_eq_true rfl⟩) ?_)
          refine am_callv rfl (ct_placesIn _) (by decide) (Nat.le_of_ble_eq_true rfl) (Nat.le_of_ble_eq_true rfl) ?_
          rw [zPl_fr (fun j => hF.2 13 j (by decide))]
          refine am_if rfl (fun c1 => ?_) (fun c1 => ?_)
          · exact done z F G (by omega) hF hL hC
          · omega
        | succ m ihm =>
          intro z F G hm hz hz2 hF hL hC
          iterate 4 (refine am_go rfl (by first | exact True.intro | omega | exact ⟨by decide, Nat.le_of_ble_eq_true rfl, Nat.le_of_ble_eq_true rfl⟩ | exact ⟨by decide, Nat.le_of_ble_eq_true rfl⟩) ?_)
          refine am_callv rfl (ct_placesIn _) (by decide) (Nat.le_of_ble_eq_true rfl) (Nat.le_of_ble_eq_true rfl) ?_
          rw [zPl_fr (fun j => hF.2 13 j (by decide))]
          refine am_if rfl (fun c1 => ?_) (fun c1 => ?_)
          · exact done z F G (by omega) hF hL hC
          · have h32' := h32 (zSt x y z) (by unfold zSt; omega) (by unfold zSt; omega)
            iterate 4 (refine am_go rfl (by first | exact True.intro | omega | exact ⟨by decide, Nat.le_of_ble_eq_true rfl, Nat.le_of_ble_eq_true rfl⟩ | exact ⟨by decide, Nat.le_of_ble_eq_true rfl⟩) ?_)
            refine am_callv rfl (ct_isReached _ _ _ (by omega) (by omega) (by omega) (by rw [hF.2 32 _ (by decide)]; exact h32')) (by decide) (Nat.le_of_ble_eq_true rfl) (Nat.le_of_ble_eq_true rfl) ?_
            rw [hF.2 32 _ (by decide)]
            refine am_if rfl (fun c2 => ?_) (fun c2 => ?_)
            · iterate 2 (refine am_go rfl (by first | exact True.intro | omega | exact ⟨by decide, Nat.le_of_ble_eq_true rfl, Nat.le_of_ble_eq_true rfl⟩ | exact ⟨by decide, Nat.le_of_ble_eq_true rfl⟩) ?_)
              refine ihm (z + 1) F G (by omega) (by omega) (by omega) hF ⟨⟨hL.1.1, by have := hL.1.2; omega⟩, hL.2⟩ (fun v hv => hC v ?_)
              obtain ⟨y', z', i, b1, b2, b3, b4, b5, b6⟩ := hv
              refine ⟨y', z', i, b1, b2, b3, ?_, b5, b6⟩
              rcases b4 with b4 | b4
              · exact Or.inl b4
              · obtain ⟨rfl, b7⟩ := b4
                by_cases e : z' = z
                · subst e
                  have c2 : g 32 (zSt x y' z') = 0 := c2
                  omega
                · exact Or.inr ⟨rfl, by omega⟩
            · iterate 3 (refine am_go rfl (by first | exact True.intro | omega | exact ⟨by decide, Nat.le_of_ble_eq_true rfl, Nat.le_of_ble_eq_true rfl⟩ | exact ⟨by decide, Nat.le_of_ble_eq_true rfl⟩) ?_)
              refine am_call rfl (ct_listAt y z (hF.I hI) (by omega) (by omega) hL) (by decide) (Nat.le_of_ble_eq_true rfl) (Nat.le_of_ble_eq_true rfl) (Nat.le_of_ble_eq_true rfl) (fun rv s q => ?_)
              obtain ⟨rfl, F2, G2, rfl, hF2, hL2, hk2, hn2⟩ := q
              iterate 2 (refine am_go rfl (by first | exact True.intro | omega | exact ⟨by decide, Nat.le_of_ble_eq_true rfl, Nat.le_of_ble_eq_true rfl⟩ | exact ⟨by decide, Nat.le_of_ble_eq_true rfl⟩) ?_)
              refine ihm (z + 1) F2 G2 (by omega) (by omega) (by omega) (hF2.tr hF) ⟨⟨hL2.1.1, by have := hL2.1.2; omega⟩, hL2.2⟩ (fun v hv => ?_)
              obtain ⟨y', z', i, b1, b2, b3, b4, b5, b6, b7, b8, b9⟩ := hv
              by_cases e : y' = y ∧ z' = z
              · obtain ⟨rfl, rfl⟩ := e
                have hq := hn2 i b6 (by rw [zNa_fr (fun j => hF.2 14 j (by decide))]; exact b7) (by rw [hF.2 15 _ (by decide)]; exact b8)
                rw [hF.2 16 _ (by decide)] at hq
                rw [b9]
                exact hq
              · exact hk2 v (hC v ⟨y', z', i, b1, b2, b3, by omega, b5, b6, b7, b8, b9⟩)
      iterate 4 (refine am_go rfl (by first | exact True.intro | omega | exact ⟨by decide, Nat.le_of_ble_eq_true rfl, Nat.le_of_ble_eq_true rfl⟩ | exact ⟨by decide, Nat.le_of_ble_eq_true rfl⟩) ?_)
      rw [e12]
      refine am_if rfl (fun c1 => ?_) (fun c1 => ?_)
      · have e : y = f 12 0 := by omega
        subst e
        exact am_vret (x := 0) rfl rfl rfl ⟨rfl, F, G, rfl, hF, ⟨⟨hL.1.1, by have := hL.1.2; omega⟩, hL.2⟩, Or.inr ⟨x, hx1, hx2, hx3, hC⟩⟩
      · iterate 2 (refine am_go rfl (by first | exact True.intro | omega | exact ⟨by decide, Nat.le_of_ble_eq_true rfl, Nat.le_of_ble_eq_true rfl⟩ | exact ⟨by decide, Nat.le_of_ble_eq_true rfl⟩) ?_)
        refine inner (by omega) _ 0 F G (Nat.le_refl _) (by omega) ?_ hF ?_ hC
        · have := (i4 y hy (by omega)).1
          have e13 : zPl g y = g 13 y := if_pos ⟨hy, by omega⟩
          omega
        · rw [show (y * 5 + 0) * 4 = y * 20 by omega]
          exact hL
  have hL0 : zLs (am_u1 f 22 13 0) g (0 * 20) := by
    have e : am_u1 f 22 13 0 22 13 = 0 := am_u1_s
    refine ⟨by rw [e]; omega, fun i h1 h2 => ?_, fun i j h1 h2 => ?_⟩
    · rw [e] at h2; omega
    · rw [e] at h2; omega
  have hF0 : zFrL (am_u1 f 22 13 0) f g g := ⟨fun x j hx => am_u1_ne hx, fun _ _ _ => rfl⟩
  have e2 : am_u1 f 22 13 0 2 0 = f 2 0 := am_u1_c (by decide)
  refine am_enter ok_4_listPlaceValues rfl (by decide) (Nat.le_of_ble_eq_true rfl) rfl ?_
  iterate 6 (refine am_go rfl (by first | exact True.intro | omega | exact ⟨by decide, Nat.le_of_ble_eq_true rfl, Nat.le_of_ble_eq_true rfl⟩ | exact ⟨by decide, Nat.le_of_ble_eq_true rfl⟩) ?_)
  refine am_call rfl (ct_partOfKind 7 (by rw [e2]; omega)) (by decide) (Nat.le_of_ble_eq_true rfl) (Nat.le_of_ble_eq_true rfl) (Nat.le_of_ble_eq_true rfl) (fun rv s q => ?_)
  obtain ⟨rfl, ⟨x, rfl, q1, q2, q3⟩ | ⟨rfl, q1⟩⟩ := q
  · rw [e2] at q2
    iterate 3 (refine am_go rfl (by first | exact True.intro | omega | exact ⟨by decide, Nat.le_of_ble_eq_true rfl, Nat.le_of_ble_eq_true rfl⟩ | exact ⟨by decide, Nat.le_of_ble_eq_true rfl⟩) ?_)
    refine am_if rfl (fun c1 => ?_) (fun c1 => ?_)
    · iterate 2 (refine am_go rfl (by first | exact True.intro | omega | exact ⟨by decide, Nat.le_of_ble_eq_true rfl, Nat.le_of_ble_eq_true rfl⟩ | exact ⟨by decide, Nat.le_of_ble_eq_true rfl⟩) ?_)
      refine outer x q1 q2 q3 _ 0 none _ g (Nat.le_refl _) (by omega) (by omega) hF0 hL0 (fun v hv => ?_)
      obtain ⟨y', z', i, b1, b2, b3, b4, b5⟩ := hv
      omega
    · omega
  · rw [e2] at q1
    iterate 3 (refine am_go rfl (by first | exact True.intro | omega | exact ⟨by decide, Nat.le_of_ble_eq_true rfl, Nat.le_of_ble_eq_true rfl⟩ | exact ⟨by decide, Nat.le_of_ble_eq_true rfl⟩) ?_)
    refine am_if rfl (fun c1 => ?_) (fun c1 => ?_)
    · omega
    · exact am_vret (x := 0) rfl rfl rfl ⟨rfl, _, g, rfl, hF0, ⟨⟨hL0.1.1, by have := hL0.1.2; omega⟩, hL0.2⟩, Or.inl ⟨am_u1_s, q1⟩⟩
end Lst2

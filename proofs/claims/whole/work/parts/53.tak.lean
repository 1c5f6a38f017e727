/-! sets as bits; the reference's mayMiss and takes -/
def zBit (w i : Int) : Prop := am_and (am_shr w i) 1 = 1
theorem bi_or : ∀ a b : Fin 128, am_or (a.val : Int) (b.val : Int) = ((a.val ||| b.val : Nat) : Int) := by decide +kernel
theorem bi_tb : ∀ (a : Fin 128) (i : Fin 8), am_and (am_shr (a.val : Int) (i.val : Int)) 1 = 1 ↔ a.val.testBit i.val = true := by decide +kernel
theorem bi_sh : ∀ p : Fin 6, am_shl 2 (p.val : Int) = ((2 ^ (p.val + 1) : Nat) : Int) ∧ 2 ^ (p.val + 1) < 128 := by decide +kernel
theorem bi_2 : ∀ (p : Fin 6) (i : Fin 8), (2 ^ (p.val + 1)).testBit i.val = true ↔ i.val = p.val + 1 := by decide +kernel
theorem zBit_tb {w i : Nat} (hw : w < 128) (hi : i < 8) : zBit (w : Int) (i : Int) ↔ w.testBit i = true := bi_tb ⟨w, hw⟩ ⟨i, hi⟩
theorem zBit_or {w u : Int} (hw : 0 ≤ w ∧ w < 128) (hu : 0 ≤ u ∧ u < 128) : (0 ≤ am_or w u ∧ am_or w u < 128) ∧ ∀ i, 0 ≤ i → i < 8 → (zBit (am_or w u) i ↔ zBit w i ∨ zBit u i) := by
  obtain ⟨a, rfl⟩ := Int.eq_ofNat_of_zero_le hw.1
  obtain ⟨b, rfl⟩ := Int.eq_ofNat_of_zero_le hu.1
  have h : am_or (a : Int) (b : Int) = ((a ||| b : Nat) : Int) := bi_or ⟨a, by omega⟩ ⟨b, by omega⟩
  have hlt : a ||| b < 128 := Nat.or_lt_two_pow (n := 7) (by omega) (by omega)
  rw [h]
  refine ⟨by omega, fun i i1 i2 => ?_⟩
  obtain ⟨j, rfl⟩ := Int.eq_ofNat_of_zero_le i1
  rw [zBit_tb hlt (by omega), zBit_tb (by omega) (by omega), zBit_tb (by omega) (by omega), Nat.testBit_or, Bool.or_eq_true]
theorem zBit_sh {p : Int} (hp : 0 ≤ p ∧ p < 6) : (0 ≤ am_shl 2 p ∧ am_shl 2 p < 128) ∧ ∀ i, 0 ≤ i → i < 8 → (zBit (am_shl 2 p) i ↔ i = p + 1) := by
  obtain ⟨a, rfl⟩ := Int.eq_ofNat_of_zero_le hp.1
  have h := bi_sh ⟨a, by omega⟩
  have h1 : am_shl 2 (a : Int) = ((2 ^ (a + 1) : Nat) : Int) := h.1
  have h2 : 2 ^ (a + 1) < 128 := h.2
  rw [h1]
  refine ⟨⟨Int.natCast_nonneg _, Int.ofNat_lt.mpr h2⟩, fun i i1 i2 => ?_⟩
  obtain ⟨j, rfl⟩ := Int.eq_ofNat_of_zero_le i1
  have h3 : (2 ^ (a + 1)).testBit j = true ↔ j = a + 1 := bi_2 ⟨a, by omega⟩ ⟨j, by omega⟩
  rw [zBit_tb h2 (by omega), h3]
  omega
theorem bi_01 : ∀ i : Fin 8, (am_and (am_shr 1 (i.val : Int)) 1 = 1 ↔ i.val = 0) ∧ ¬ am_and (am_shr 0 (i.val : Int)) 1 = 1 := by decide +kernel
theorem zBit_1 {i : Int} (h : 0 ≤ i ∧ i < 8) : zBit 1 i ↔ i = 0 := by
  obtain ⟨j, rfl⟩ := Int.eq_ofNat_of_zero_le h.1
  have h3 : am_and (am_shr 1 (j : Int)) 1 = 1 ↔ j = 0 := (bi_01 ⟨j, by omega⟩).1
  unfold zBit
  rw [h3]
  omega
theorem zBit_0 {i : Int} (h : 0 ≤ i ∧ i < 8) : ¬ zBit 0 i := by
  obtain ⟨j, rfl⟩ := Int.eq_ofNat_of_zero_le h.1
  exact (bi_01 ⟨j, by omega⟩).2
/-- within a row, from the row's begin on -/
def zWt (g : Nat → Int → Int) (r y : Int) : Nat → Int → Prop
  | 0, z => z = 0
  | k + 1, z => (g 41 k = r ∧ ((zWt g r y k z ∧ g 4 k ≠ -1) ∨ (zWt g r y k (z - 1) ∧ zKd g y (z - 1) (g 3 k)))) ∨ (g 41 k ≠ r ∧ zWt g r y k z)
def zMm (g : Nat → Int → Int) (r : Int) (N : Nat) : Prop := ∀ k : Nat, k < N → g 41 k = r → g 4 k ≠ -1
theorem zKd_r {f : Nat → Nat → Int} {g : Nat → Int → Int} (hI : zI f g) {y z k : Int} (h : zKd g y z k) : 0 ≤ z ∧ z < zPl g y ∧ 0 ≤ y ∧ y < f 12 0 := by
  obtain ⟨i, h1, h2, h3⟩ := h
  have h4 := zNa_in (show 0 < zNa g y z by omega)
  have h5 := zNa_lt hI (show 0 < zNa g y z by omega)
  exact ⟨h4.2.1, h5, h4.1.1, zPl_lt hI h4.1.1 (by omega)⟩
theorem zWt_r {f : Nat → Nat → Int} {g : Nat → Int → Int} (hI : zI f g) (r y : Int) : ∀ (k : Nat) (z : Int), zWt g r y k z → 0 ≤ z ∧ z ≤ zPl g y := by
  intro k
  induction k with
  | zero =>
    intro z h
    have h : z = 0 := h
    have := (zPl_r hI y).1
    omega
  | succ k ih =>
    rintro z (⟨_, ⟨h, _⟩ | ⟨h, h2⟩⟩ | ⟨_, h⟩)
    · exact ih z h
    · have := zKd_r hI h2
      omega
    · exact ih z h
section Tak
variable {l : Launch} {dC : Nat → ClassId} {dI : Nat → Nat → Nat} {tc : Nat → ClassId} {f : Nat → Nat → Int} {g : Nat → Int → Int} {a b c : Nat}
set_option maxRecDepth 100000 in
set_option maxHeartbeats 4000000 in
theorem cm_mayMiss (x : Int) (hI : zI f g) (hD : zD f g) : am_Ct l dC dI tc mm6_mayMiss 0 58 [(.inr (.inr (some 38))), .inl x] (58, f, g, pr_r a b c) (fun r s => s = (58, f, g, pr_r a b c) ∧ ((r = some (.inl 1) ∧ zMm g x (f 2 0).toNat) ∨ (r = some (.inl 0) ∧ ¬ zMm g x (f 2 0).toNat))) := by
  have i1 := hI.1
  have e5 := hD.pn
  refine am_enter ok_6_mayMiss rfl (by decide) (Nat.le_of_ble_eq_true rfl) rfl ?_
  have loop : ∀ (m k : Nat) (t : Int), k + m = (f 2 0).toNat → ((t = 1 ∧ zMm g x k) ∨ (t = 0 ∧ ¬ zMm g x k)) → am_wp l dC dI tc mm6_mayMiss 0 58 58 (fun r s => s = (58, f, g, pr_r a b c) ∧ ((r = some (.inl 1) ∧ zMm g x (f 2 0).toNat) ∨ (r = some (.inl 0) ∧ ¬ zMm g x (f 2 0).toNat))) 4 [some (.inr (.inr (some 38))), some (.inl x), some (.inl t), some (.inl (k : Int))] [] (58, f, g, pr_r a b c) := by
    intro m
    induction m with
    | zero =>
      intro k t hk ht
      iterate 3 (refine am_go rfl (by first | exact True.intro | omega | exact ⟨by decide, Nat.le_of_ble_eq_true rfl, Nat.le_of_ble_eq_true rfl⟩ | exact ⟨by decide, Nat.le_of_ble_eq_true rfl⟩) ?_)
      refine am_if rfl (fun c1 => ?_) (fun c1 => by omega)
      rw [show k = (f 2 0).toNat by omega] at ht
      (refine am_go rfl (by first | exact True.intro | omega | exact ⟨by decide, Nat.le_of_ble_eq_true rfl, Nat.le_of_ble_eq_true rfl⟩ | exact ⟨by decide, Nat.le_of_ble_eq_true rfl⟩) ?_)
      rcases ht with ⟨rfl, ht⟩ | ⟨rfl, ht⟩
      · exact am_zret rfl rfl (by first | exact Or.inl rfl | exact Or.inr rfl) rfl ⟨rfl, Or.inl ⟨rfl, ht⟩⟩
      · exact am_zret rfl rfl (by first | exact Or.inl rfl | exact Or.inr rfl) rfl ⟨rfl, Or.inr ⟨rfl, ht⟩⟩
    | succ m ih =>
      intro k t hk ht
      have e42 := hD.ms k (by omega) (by omega)
      iterate 3 (refine am_go rfl (by first | exact True.intro | omega | exact ⟨by decide, Nat.le_of_ble_eq_true rfl, Nat.le_of_ble_eq_true rfl⟩ | exact ⟨by decide, Nat.le_of_ble_eq_true rfl⟩) ?_)
      refine am_if rfl (fun c1 => by omega) (fun c1 => ?_)
      (refine am_go rfl (by first | exact True.intro | omega | exact ⟨by decide, Nat.le_of_ble_eq_true rfl, Nat.le_of_ble_eq_true rfl⟩ | exact ⟨by decide, Nat.le_of_ble_eq_true rfl⟩) ?_)
      rcases ht with ⟨rfl, ht⟩ | ⟨rfl, ht⟩
      · refine am_if rfl (fun c1 => by omega) (fun c1 => ?_)
        iterate 5 (refine am_go rfl (by first | exact True.intro | omega | exact ⟨by decide, Nat.le_of_ble_eq_true rfl, Nat.le_of_ble_eq_true rfl⟩ | exact ⟨by decide, Nat.le_of_ble_eq_true rfl⟩) ?_)
        refine am_if rfl (fun c2 => ?_) (fun c2 => ?_)
        · iterate 5 (refine am_go rfl (by first | exact True.intro | omega | exact ⟨by decide, Nat.le_of_ble_eq_true rfl, Nat.le_of_ble_eq_true rfl⟩ | exact ⟨by decide, Nat.le_of_ble_eq_true rfl⟩) ?_)
          refine ih (k + 1) 1 (by omega) (Or.inl ⟨rfl, fun j hj u => ?_⟩)
          by_cases c : j = k
          · rw [c] at u
            exact absurd u c2
          · exact ht j (by omega) u
        · iterate 5 (refine am_go rfl (by first | exact True.intro | omega | exact ⟨by decide, Nat.le_of_ble_eq_true rfl, Nat.le_of_ble_eq_true rfl⟩ | exact ⟨by decide, Nat.le_of_ble_eq_true rfl⟩) ?_)
          rw [e42]
          refine am_if rfl (fun c3 => ?_) (fun c3 => ?_)
          · iterate 4 (refine am_go rfl (by first | exact True.intro | omega | exact ⟨by decide, Nat.le_of_ble_eq_true rfl, Nat.le_of_ble_eq_true rfl⟩ | exact ⟨by decide, Nat.le_of_ble_eq_true rfl⟩) ?_)
            exact ih (k + 1) 0 (by omega) (Or.inr ⟨rfl, fun u => u k (by omega) (by omega) c3⟩)
          · iterate 5 (refine am_go rfl (by first | exact True.intro | omega | exact ⟨by decide, Nat.le_of_ble_eq_true rfl, Nat.le_of_ble_eq_true rfl⟩ | exact ⟨by decide, Nat.le_of_ble_eq_true rfl⟩) ?_)
            refine ih (k + 1) 1 (by omega) (Or.inl ⟨rfl, fun j hj u => ?_⟩)
            by_cases c : j = k
            · rw [c]
              exact c3
            · exact ht j (by omega) u
      · refine am_if rfl (fun c1 => ?_) (fun c1 => by omega)
        iterate 4 (refine am_go rfl (by first | exact True.intro | omega | exact ⟨by decide, Nat.le_of_ble_eq_true rfl, Nat.le_of_ble_eq_true rfl⟩ | exact ⟨by decide, Nat.le_of_ble_eq_true rfl⟩) ?_)
        exact ih (k + 1) 0 (by omega) (Or.inr ⟨rfl, fun u => ht (fun j hj w => u j (by omega) w)⟩)
  iterate 4 (refine am_go rfl (by first | exact True.intro | omega | exact ⟨by decide, Nat.le_of_ble_eq_true rfl, Nat.le_of_ble_eq_true rfl⟩ | exact ⟨by decide, Nat.le_of_ble_eq_true rfl⟩) ?_)
  exact loop (f 2 0).toNat 0 1 (by omega) (Or.inl ⟨rfl, fun j hj => by omega⟩)
set_option maxRecDepth 100000 in
set_option maxHeartbeats 4000000 in
theorem cm_takes (x y : Int) (hI : zI f g) (hD : zD f g) (hy : 0 ≤ y ∧ y < f 12 0) : am_Ct l dC dI tc mm6_takes 0 58 [(.inr (.inr (some 38))), .inl x, .inl y] (58, f, g, pr_r a b c) (fun r s => s = (58, f, g, pr_r a b c) ∧ ((r = some (.inl 1) ∧ zWt g x y (f 2 0).toNat (zPl g y)) ∨ (r = some (.inl 0) ∧ ¬ zWt g x y (f 2 0).toNat (zPl g y)))) := by
  have i1 := hI.1
  have i3 := hI.2.2.1
  have e5 := hD.pn
  have e46 := hD.pl y hy.1 hy.2
  have i4 := hI.2.2.2.1 y hy.1 (by omega)
  have epl : zPl g y = g 13 y := if_pos ⟨hy.1, by omega⟩
  refine am_enter ok_6_takes rfl (by decide) (Nat.le_of_ble_eq_true rfl) rfl ?_
  have loop : ∀ (m k : Nat) (w : Int) (o5 o6 o7 o8 : Option am_V), k + m = (f 2 0).toNat → (0 ≤ w ∧ w < 128) → (∀ z, 0 ≤ z → z < 8 → (zBit w z ↔ zWt g x y k z)) → am_wp l dC dI tc mm6_takes 0 58 58 (fun r s => s = (58, f, g, pr_r a b c) ∧ ((r = some (.inl 1) ∧ zWt g x y (f 2 0).toNat (zPl g y)) ∨ (r = some (.inl 0) ∧ ¬ zWt g x y (f 2 0).toNat (zPl g y)))) 4 [some (.inr (.inr (some 38))), some (.inl x), some (.inl y), some (.inl w), some (.inl (k : Int)), o5, o6, o7, o8] [] (58, f, g, pr_r a b c) := by
    intro m
    induction m with
    | zero =>
      intro k w o5 o6 o7 o8 hk hw hb
      iterate 3 (refine am_go rfl (by first | exact True.intro | omega | exact ⟨by decide, Nat.le_of_ble_eq_true rfl, Nat.le_of_ble_eq_true rfl⟩ | exact ⟨by decide, Nat.le_of_ble_eq_true rfl⟩) ?_)
      refine am_if rfl (fun c1 => ?_) (fun c1 => by omega)
      rw [show k = (f 2 0).toNat by omega] at hb
      iterate 5 (refine am_go rfl (by first | exact True.intro | omega | exact ⟨by decide, Nat.le_of_ble_eq_true rfl, Nat.le_of_ble_eq_true rfl⟩ | exact ⟨by decide, Nat.le_of_ble_eq_true rfl⟩) ?_)
      rw [e46, ← epl]
      iterate 4 (refine am_go rfl (by first | exact True.intro | omega | exact ⟨by decide, Nat.le_of_ble_eq_true rfl, Nat.le_of_ble_eq_true rfl⟩ | exact ⟨by decide, Nat.le_of_ble_eq_true rfl⟩) ?_)
      have hb1 := hb (zPl g y) (by omega) (by omega)
      refine am_if rfl (fun c2 => ?_) (fun c2 => ?_)
      · (refine am_go rfl (by first | exact True.intro | omega | exact ⟨by decide, Nat.le_of_ble_eq_true rfl, Nat.le_of_ble_eq_true rfl⟩ | exact ⟨by decide, Nat.le_of_ble_eq_true rfl⟩) ?_)
        exact am_zret rfl rfl (by first | exact Or.inl rfl | exact Or.inr rfl) rfl ⟨rfl, Or.inr ⟨rfl, fun u => c2 (hb1.mpr u)⟩⟩
      · iterate 2 (refine am_go rfl (by first | exact True.intro | omega | exact ⟨by decide, Nat.le_of_ble_eq_true rfl, Nat.le_of_ble_eq_true rfl⟩ | exact ⟨by decide, Nat.le_of_ble_eq_true rfl⟩) ?_)
        exact am_zret rfl rfl (by first | exact Or.inl rfl | exact Or.inr rfl) rfl ⟨rfl, Or.inl ⟨rfl, hb1.mp (Classical.byContradiction c2)⟩⟩
    | succ m ih =>
      intro k w o5 o6 o7 o8 hk hw hb
      have e42 := hD.ms k (by omega) (by omega)
      have e40 := hD.kd k (by omega) (by omega)
      iterate 3 (refine am_go rfl (by first | exact True.intro | omega | exact ⟨by decide, Nat.le_of_ble_eq_true rfl, Nat.le_of_ble_eq_true rfl⟩ | exact ⟨by decide, Nat.le_of_ble_eq_true rfl⟩) ?_)
      refine am_if rfl (fun c1 => by omega) (fun c1 => ?_)
      iterate 5 (refine am_go rfl (by first | exact True.intro | omega | exact ⟨by decide, Nat.le_of_ble_eq_true rfl, Nat.le_of_ble_eq_true rfl⟩ | exact ⟨by decide, Nat.le_of_ble_eq_true rfl⟩) ?_)
      refine am_if rfl (fun c2 => ?_) (fun c2 => ?_)
      · iterate 2 (refine am_go rfl (by first | exact True.intro | omega | exact ⟨by decide, Nat.le_of_ble_eq_true rfl, Nat.le_of_ble_eq_true rfl⟩ | exact ⟨by decide, Nat.le_of_ble_eq_true rfl⟩) ?_)
        exact ih (k + 1) w o5 o6 o7 o8 (by omega) hw (fun z z1 z2 => (hb z z1 z2).trans ⟨fun u => Or.inr ⟨c2, u⟩, fun u => u.elim (fun v => absurd v.1 c2) (fun v => v.2)⟩)
      · have c2 : g 41 k = x := Classical.byContradiction c2
        have ploop : ∀ (n : Nat) (p : Nat) (v : Int) (o7 o8 : Option am_V), (p : Int) + n = g 13 y → (0 ≤ v ∧ v < 128) → (∀ z, 0 ≤ z → z < 8 → (zBit v z ↔ (zWt g x y k z ∧ g 4 k ≠ -1) ∨ (z ≤ p ∧ zWt g x y k (z - 1) ∧ zKd g y (z - 1) (g 3 k)))) → am_wp l dC dI tc mm6_takes 0 58 58 (fun r s => s = (58, f, g, pr_r a b c) ∧ ((r = some (.inl 1) ∧ zWt g x y (f 2 0).toNat (zPl g y)) ∨ (r = some (.inl 0) ∧ ¬ zWt g x y (f 2 0).toNat (zPl g y)))) 26 [some (.inr (.inr (some 38))), some (.inl x), some (.inl y), some (.inl w), some (.inl (k : Int)), some (.inl v), some (.inl (p : Int)), o7, o8] [] (58, f, g, pr_r a b c) := by
          intro n
          induction n with
          | zero =>
            intro p v o7 o8 hp hv hvb
            iterate 5 (refine am_go rfl (by first | exact True.intro | omega | exact ⟨by decide, Nat.le_of_ble_eq_true rfl, Nat.le_of_ble_eq_true rfl⟩ | exact ⟨by decide, Nat.le_of_ble_eq_true rfl⟩) ?_)
            rw [e46]
            refine am_if rfl (fun c3 => ?_) (fun c3 => by omega)
            iterate 4 (refine am_go rfl (by first | exact True.intro | omega | exact ⟨by decide, Nat.le_of_ble_eq_true rfl, Nat.le_of_ble_eq_true rfl⟩ | exact ⟨by decide, Nat.le_of_ble_eq_true rfl⟩) ?_)
            refine ih (k + 1) v _ _ o7 o8 (by omega) hv (fun z z1 z2 => (hvb z z1 z2).trans ⟨fun u => Or.inl ⟨c2, u.elim Or.inl (fun u => Or.inr u.2)⟩, fun u => ?_⟩)
            rcases u with ⟨_, u | u⟩ | u
            · exact Or.inl u
            · have := zKd_r hI u.2
              exact Or.inr ⟨by omega, u⟩
            · exact absurd c2 u.1
          | succ n ihp =>
            intro p v o7 o8 hp hv hvb
            have i5 := hI.2.2.2.2.1 y p hy.1 (by omega) (by omega) (by omega)
            have e47 := hD.na y p hy.1 hy.2 (by omega) (by omega)
            have ena : zNa g y p = g 14 (y * 5 + p) := if_pos ⟨⟨hy.1, by omega⟩, by omega, by omega⟩
            iterate 5 (refine am_go rfl (by first | exact True.intro | omega | exact ⟨by decide, Nat.le_of_ble_eq_true rfl, Nat.le_of_ble_eq_true rfl⟩ | exact ⟨by decide, Nat.le_of_ble_eq_true rfl⟩) ?_)
            rw [e46]
            refine am_if rfl (fun c3 => by omega) (fun c3 => ?_)
            have next : ∀ (t : Int) (o8 : Option am_V), ((t = 1 ∧ zKd g y p (g 3 k)) ∨ (t = 0 ∧ ¬ zKd g y p (g 3 k))) → am_wp l dC dI tc mm6_takes 0 58 58 (fun r s => s = (58, f, g, pr_r a b c) ∧ ((r = some (.inl 1) ∧ zWt g x y (f 2 0).toNat (zPl g y)) ∨ (r = some (.inl 0) ∧ ¬ zWt g x y (f 2 0).toNat (zPl g y)))) 71 [some (.inr (.inr (some 38))), some (.inl x), some (.inl y), some (.inl w), some (.inl (k : Int)), some (.inl v), some (.inl (p : Int)), some (.inl t), o8] [] (58, f, g, pr_r a b c) := by
              intro t o8 ht
              have hbp := hb p (by omega) (by omega)
              have stay : ¬ (zWt g x y k p ∧ zKd g y p (g 3 k)) → ∀ z, 0 ≤ z → z < 8 → (zBit v z ↔ (zWt g x y k z ∧ g 4 k ≠ -1) ∨ (z ≤ ((p + 1 : Nat) : Int) ∧ zWt g x y k (z - 1) ∧ zKd g y (z - 1) (g 3 k))) := by
                intro hno z z1 z2
                rw [hvb z z1 z2]
                refine or_congr Iff.rfl ⟨fun u => ⟨by omega, u.2⟩, fun u => ⟨?_, u.2⟩⟩
                by_cases c : z = (p : Int) + 1
                · exfalso
                  rw [c, show (p : Int) + 1 - 1 = p by omega] at u
                  exact hno u.2
                · have := u.1
                  omega
              iterate 6 (refine am_go rfl (by first | exact True.intro | omega | exact ⟨by decide, Nat.le_of_ble_eq_true rfl, Nat.le_of_ble_eq_true rfl⟩ | exact ⟨by decide, Nat.le_of_ble_eq_true rfl⟩) ?_)
              refine am_if rfl (fun c4 => ?_) (fun c4 => ?_)
              · iterate 4 (refine am_go rfl (by first | exact True.intro | omega | exact ⟨by decide, Nat.le_of_ble_eq_true rfl, Nat.le_of_ble_eq_true rfl⟩ | exact ⟨by decide, Nat.le_of_ble_eq_true rfl⟩) ?_)
                exact ihp (p + 1) v _ o8 (by omega) hv (stay (fun u => c4 (hbp.mpr u.1)))
              · have c4 : zWt g x y k p := hbp.mp (Classical.byContradiction c4)
                (refine am_go rfl (by first | exact True.intro | omega | exact ⟨by decide, Nat.le_of_ble_eq_true rfl, Nat.le_of_ble_eq_true rfl⟩ | exact ⟨by decide, Nat.le_of_ble_eq_true rfl⟩) ?_)
                rcases ht with ⟨rfl, ht⟩ | ⟨rfl, ht⟩
                · refine am_if rfl (fun c5 => by omega) (fun c5 => ?_)
                  iterate 9 (refine am_go rfl (by first | exact True.intro | omega | exact ⟨by decide, Nat.le_of_ble_eq_true rfl, Nat.le_of_ble_eq_true rfl⟩ | exact ⟨by decide, Nat.le_of_ble_eq_true rfl⟩) ?_)
                  have hsh := zBit_sh (p := (p : Int)) (by omega)
                  have hor := zBit_or hv hsh.1
                  refine ihp (p + 1) _ _ o8 (by omega) hor.1 (fun z z1 z2 => ?_)
                  rw [hor.2 z z1 z2, hvb z z1 z2, hsh.2 z z1 z2]
                  constructor
                  · rintro ((u | u) | u)
                    · exact Or.inl u
                    · exact Or.inr ⟨by omega, u.2⟩
                    · rw [u, show (p : Int) + 1 - 1 = p by omega]
                      exact Or.inr ⟨by omega, c4, ht⟩
                  · rintro (u | u)
                    · exact Or.inl (Or.inl u)
                    · by_cases c : z = (p : Int) + 1
                      · exact Or.inr c
                      · exact Or.inl (Or.inr ⟨by omega, u.2⟩)
                · refine am_if rfl (fun c5 => ?_) (fun c5 => by omega)
                  iterate 4 (refine am_go rfl (by first | exact True.intro | omega | exact ⟨by decide, Nat.le_of_ble_eq_true rfl, Nat.le_of_ble_eq_true rfl⟩ | exact ⟨by decide, Nat.le_of_ble_eq_true rfl⟩) ?_)
                  exact ihp (p + 1) v _ o8 (by omega) hv (stay (fun u => ht u.2))
            have aloop : ∀ (q i : Nat) (t : Int), (i : Int) + q = g 14 (y * 5 + p) → ((t = 1 ∧ ∃ j, 0 ≤ j ∧ j < (i : Int) ∧ g 15 (zAlt y p j) = g 3 k) ∨ (t = 0 ∧ ¬ ∃ j, 0 ≤ j ∧ j < (i : Int) ∧ g 15 (zAlt y p j) = g 3 k)) → am_wp l dC dI tc mm6_takes 0 58 58 (fun r s => s = (58, f, g, pr_r a b c) ∧ ((r = some (.inl 1) ∧ zWt g x y (f 2 0).toNat (zPl g y)) ∨ (r = some (.inl 0) ∧ ¬ zWt g x y (f 2 0).toNat (zPl g y)))) 36 [some (.inr (.inr (some 38))), some (.inl x), some (.inl y), some (.inl w), some (.inl (k : Int)), some (.inl v), some (.inl (p : Int)), some (.inl t), some (.inl (i : Int))] [] (58, f, g, pr_r a b c) := by
              intro q
              induction q with
              | zero =>
                intro i t hi ht
                iterate 9 (refine am_go rfl (by first | exact True.intro | omega | exact ⟨by decide, Nat.le_of_ble_eq_true rfl, Nat.le_of_ble_eq_true rfl⟩ | exact ⟨by decide, Nat.le_of_ble_eq_true rfl⟩) ?_)
                rw [e47]
                refine am_if rfl (fun c4 => ?_) (fun c4 => by omega)
                refine next t _ ?_
                unfold zKd
                rw [ena, show g 14 (y * 5 + p) = (i : Int) by omega]
                exact ht
              | succ q ihq =>
                intro i t hi ht
                have e48 := (hD.al y p i hy.1 hy.2 (by omega) (by omega) (by omega) (by omega)).1
                iterate 9 (refine am_go rfl (by first | exact True.intro | omega | exact ⟨by decide, Nat.le_of_ble_eq_true rfl, Nat.le_of_ble_eq_true rfl⟩ | exact ⟨by decide, Nat.le_of_ble_eq_true rfl⟩) ?_)
                rw [e47]
                refine am_if rfl (fun c4 => by omega) (fun c4 => ?_)
                (refine am_go rfl (by first | exact True.intro | omega | exact ⟨by decide, Nat.le_of_ble_eq_true rfl, Nat.le_of_ble_eq_true rfl⟩ | exact ⟨by decide, Nat.le_of_ble_eq_true rfl⟩) ?_)
                rcases ht with ⟨rfl, ht⟩ | ⟨rfl, ht⟩
                · refine am_if rfl (fun c5 => ?_) (fun c5 => by omega)
                  iterate 5 (refine am_go rfl (by first | exact True.intro | omega | exact ⟨by decide, Nat.le_of_ble_eq_true rfl, Nat.le_of_ble_eq_true rfl⟩ | exact ⟨by decide, Nat.le_of_ble_eq_true rfl⟩) ?_)
                  refine ihq (i + 1) 1 (by omega) (Or.inl ⟨rfl, ?_⟩)
                  obtain ⟨j, j1, j2, j3⟩ := ht
                  exact ⟨j, j1, by omega, j3⟩
                · refine am_if rfl (fun c5 => by omega) (fun c5 => ?_)
                  iterate 12 (refine am_go rfl (by first | exact True.intro | omega | exact ⟨by decide, Nat.le_of_ble_eq_true rfl, Nat.le_of_ble_eq_true rfl⟩ | exact ⟨by decide, Nat.le_of_ble_eq_true rfl⟩) ?_)
                  rw [e48]
                  iterate 4 (refine am_go rfl (by first | exact True.intro | omega | exact ⟨by decide, Nat.le_of_ble_eq_true rfl, Nat.le_of_ble_eq_true rfl⟩ | exact ⟨by decide, Nat.le_of_ble_eq_true rfl⟩) ?_)
                  rw [e40]
                  refine am_if rfl (fun c6 => ?_) (fun c6 => ?_)
                  · iterate 4 (refine am_go rfl (by first | exact True.intro | omega | exact ⟨by decide, Nat.le_of_ble_eq_true rfl, Nat.le_of_ble_eq_true rfl⟩ | exact ⟨by decide, Nat.le_of_ble_eq_true rfl⟩) ?_)
                    refine ihq (i + 1) 0 (by omega) (Or.inr ⟨rfl, ?_⟩)
                    rintro ⟨j, j1, j2, j3⟩
                    by_cases c : j = (i : Int)
                    · rw [c] at j3
                      exact c6 j3
                    · exact ht ⟨j, j1, by omega, j3⟩
                  · iterate 5 (refine am_go rfl (by first | exact True.intro | omega | exact ⟨by decide, Nat.le_of_ble_eq_true rfl, Nat.le_of_ble_eq_true rfl⟩ | exact ⟨by decide, Nat.le_of_ble_eq_true rfl⟩) ?_)
                    exact ihq (i + 1) 1 (by omega) (Or.inl ⟨rfl, i, by omega, by omega, Classical.byContradiction c6⟩)
            iterate 4 (refine am_go rfl (by first | exact True.intro | omega | exact ⟨by decide, Nat.le_of_ble_eq_true rfl, Nat.le_of_ble_eq_true rfl⟩ | exact ⟨by decide, Nat.le_of_ble_eq_true rfl⟩) ?_)
            refine aloop (g 14 (y * 5 + p)).toNat 0 0 (by omega) (Or.inr ⟨rfl, ?_⟩)
            rintro ⟨j, j1, j2, j3⟩
            omega
        iterate 5 (refine am_go rfl (by first | exact True.intro | omega | exact ⟨by decide, Nat.le_of_ble_eq_true rfl, Nat.le_of_ble_eq_true rfl⟩ | exact ⟨by decide, Nat.le_of_ble_eq_true rfl⟩) ?_)
        rw [e42]
        have start : ∀ v : Int, (0 ≤ v ∧ v < 128) → (∀ z, 0 ≤ z → z < 8 → (zBit v z ↔ zWt g x y k z ∧ g 4 k ≠ -1)) → am_wp l dC dI tc mm6_takes 0 58 58 (fun r s => s = (58, f, g, pr_r a b c) ∧ ((r = some (.inl 1) ∧ zWt g x y (f 2 0).toNat (zPl g y)) ∨ (r = some (.inl 0) ∧ ¬ zWt g x y (f 2 0).toNat (zPl g y)))) 23 [some (.inr (.inr (some 38))), some (.inl x), some (.inl y), some (.inl w), some (.inl (k : Int)), o5, o6, o7, o8] [.inl v] (58, f, g, pr_r a b c) := by
          intro v hv hvb
          iterate 3 (refine am_go rfl (by first | exact True.intro | omega | exact ⟨by decide, Nat.le_of_ble_eq_true rfl, Nat.le_of_ble_eq_true rfl⟩ | exact ⟨by decide, Nat.le_of_ble_eq_true rfl⟩) ?_)
          refine ploop (g 13 y).toNat 0 v o7 o8 (by omega) hv (fun z z1 z2 => ?_)
          rw [hvb z z1 z2]
          refine ⟨Or.inl, fun u => u.elim id (fun u => ?_)⟩
          have := zKd_r hI u.2.2
          have := u.1
          omega
        refine am_if rfl (fun c3 => ?_) (fun c3 => ?_)
        · (refine am_go rfl (by first | exact True.intro | omega | exact ⟨by decide, Nat.le_of_ble_eq_true rfl, Nat.le_of_ble_eq_true rfl⟩ | exact ⟨by decide, Nat.le_of_ble_eq_true rfl⟩) ?_)
          exact start 0 (by omega) (fun z z1 z2 => ⟨fun u => absurd u (zBit_0 ⟨z1, z2⟩), fun u => absurd c3 u.2⟩)
        · iterate 2 (refine am_go rfl (by first | exact True.intro | omega | exact ⟨by decide, Nat.le_of_ble_eq_true rfl, Nat.le_of_ble_eq_true rfl⟩ | exact ⟨by decide, Nat.le_of_ble_eq_true rfl⟩) ?_)
          exact start w hw (fun z z1 z2 => ⟨fun u => ⟨(hb z z1 z2).mp u, c3⟩, fun u => (hb z z1 z2).mpr u.1⟩)
  iterate 4 (refine am_go rfl (by first | exact True.intro | omega | exact ⟨by decide, Nat.le_of_ble_eq_true rfl, Nat.le_of_ble_eq_true rfl⟩ | exact ⟨by decide, Nat.le_of_ble_eq_true rfl⟩) ?_)
  exact loop (f 2 0).toNat 0 1 none none none none (by omega) (by omega) (fun z z1 z2 => zBit_1 ⟨z1, z2⟩)
end Tak

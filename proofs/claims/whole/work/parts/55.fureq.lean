/-! the furthest line is the same -/
section FurEq
variable {f : Nat → Nat → Int} {g : Nat → Int → Int}
theorem zWt_early {r y : Int} : ∀ (k : Nat), (∀ j : Nat, j < k → g 41 j ≠ r) → ∀ z, zWt g r y k z ↔ z = 0 := by
  intro k
  induction k with
  | zero => intro _ z; exact Iff.rfl
  | succ k ih =>
    intro h z
    have hk := h k (by omega)
    refine Iff.trans ⟨fun u => ?_, fun u => Or.inr ⟨hk, u⟩⟩ (ih (fun j hj => h j (by omega)) z)
    rcases u with u | u
    · exact absurd u.1 hk
    · exact u.2
theorem zWt_late {r y : Int} {k : Nat} : ∀ (d : Nat), (∀ j : Nat, k ≤ j → j < k + d → g 41 j ≠ r) → ∀ z, zWt g r y (k + d) z ↔ zWt g r y k z := by
  intro d
  induction d with
  | zero => intro _ z; exact Iff.rfl
  | succ d ih =>
    intro h z
    have hk := h (k + d) (by omega) (by omega)
    refine Iff.trans ⟨fun u => ?_, fun u => Or.inr ⟨hk, u⟩⟩ (ih (fun j h1 h2 => h j h1 (by omega)) z)
    rcases u with u | u
    · exact absurd u.1 hk
    · exact u.2
theorem zWt_0 (hI : zI f g) {r y : Int} : ∀ (k : Nat), zWt g r y k 0 ↔ zMm g r k := by
  intro k
  induction k with
  | zero => exact ⟨fun _ j hj => by omega, fun _ => rfl⟩
  | succ k ih =>
    constructor
    · rintro (⟨h1, ⟨h, h2⟩ | ⟨h, h2⟩⟩ | ⟨h1, h⟩)
      · intro j hj u
        by_cases c : j = k
        · rw [c]
          exact h2
        · exact ih.mp h j (by omega) u
      · have := zWt_r hI r y k _ h
        omega
      · intro j hj u
        by_cases c : j = k
        · rw [c] at u
          exact absurd u h1
        · exact ih.mp h j (by omega) u
    · intro h
      have h1 := ih.mpr (fun j hj => h j (by omega))
      by_cases c : g 41 k = r
      · exact Or.inl ⟨c, Or.inl ⟨h1, h k (by omega) c⟩⟩
      · exact Or.inr ⟨c, h1⟩
theorem zD.mono (hD : zD f g) {j : Nat} : ∀ (d : Nat), ((j + d : Nat) : Int) < f 2 0 → g 41 j ≤ g 41 ((j + d : Nat) : Int) := by
  intro d
  induction d with
  | zero => intro _; exact Int.le_refl _
  | succ d ih =>
    intro h
    have h1 := ih (by omega)
    have h2 := hD.rs ((j + d : Nat) : Int) (by omega) (by omega)
    rw [show (((j + (d + 1) : Nat)) : Int) = ((j + d : Nat) : Int) + 1 by omega]
    omega
theorem zD.le (hD : zD f g) {j k : Nat} (h : j ≤ k) (hk : (k : Int) < f 2 0) : g 41 j ≤ g 41 k := by
  have := hD.mono (j := j) (k - j) (by omega)
  rw [show j + (k - j) = k by omega] at this
  exact this
/-- a step from one part to the next -/
theorem zRe_step (hI : zI f g) {k : Nat} (hk : (k : Int) < f 2 0) {P : Int → Int → Prop} (ih : ∀ y z, (0 ≤ y ∧ y ≤ f 12 0) → (0 ≤ z ∧ z ≤ zPl g y) → (zRe g k (zSt k y z) ↔ P y z)) (j : Int) : zRe g (k + 1) j ↔ ∃ y z, (0 ≤ y ∧ y ≤ f 12 0) ∧ (0 ≤ z ∧ z ≤ zPl g y) ∧ P y z ∧ zTn g k y z j := by
  have i3 := hI.2.2.1
  constructor
  · rintro ⟨y, z, h1, h2, h3, h4⟩
    obtain ⟨y', z', e, b1, b2⟩ := zRe_ok hI k _ (by omega) h3
    have hp := zPl_r hI y'
    obtain ⟨rfl, rfl⟩ := zSt_inj h1 h2 (by omega) (by omega) e
    exact ⟨y, z, b1, b2, (ih y z b1 b2).mp h3, h4⟩
  · rintro ⟨y, z, b1, b2, h3, h4⟩
    have hp := zPl_r hI y
    exact ⟨y, z, by omega, by omega, (ih y z b1 b2).mpr h3, h4⟩
theorem zSt_inj1 {k : Nat} {y z y' z' : Int} (hy : 0 ≤ y ∧ y ≤ 6) (hz : 0 ≤ z ∧ z ≤ 5) (hy' : 0 ≤ y' ∧ y' ≤ 6) (hz' : 0 ≤ z' ∧ z' ≤ 5) (h : ((k + 1 : Int) * 7 + y) * 6 + z = zSt ((k + 1 : Nat) : Int) y' z') : y = y' ∧ z = z' := by
  unfold zSt at h
  omega
/-- a part that ends no row -/
theorem zRe_mid (hI : zI f g) {k r : Nat} {N : Nat} (hk : (k : Int) < f 2 0) (h5 : g 5 k = 0) (hr : g 41 k = r) (ih : ∀ y z, (0 ≤ y ∧ y ≤ f 12 0) → (0 ≤ z ∧ z ≤ zPl g y) → (zRe g k (zSt k y z) ↔ zCr f g N r y ∧ zWt g r y k z)) : ∀ y z, (0 ≤ y ∧ y ≤ f 12 0) → (0 ≤ z ∧ z ≤ zPl g y) → (zRe g (k + 1) (zSt ((k + 1 : Nat) : Int) y z) ↔ zCr f g N r y ∧ zWt g r y (k + 1) z) := by
  have i3 := hI.2.2.1
  intro y' z' b1 b2
  have hp' := zPl_r hI y'
  rw [zRe_step hI hk ih]
  have hbe : ∀ y z, zBeh g k y z = ((k + 1 : Int) * 7 + y) * 6 + z := fun y z => if_pos (Or.inl h5)
  constructor
  · rintro ⟨y, z, c1, c2, ⟨c3, c4⟩, c5, ⟨c6, c7⟩ | ⟨c6, c7⟩⟩
    · have hp := zPl_r hI y
      rw [hbe] at c7
      obtain ⟨rfl, rfl⟩ := zSt_inj1 (by omega) (by omega) (by omega) (by omega) c7
      exact ⟨c3, Or.inl ⟨hr, Or.inl ⟨c4, c6⟩⟩⟩
    · have hp := zPl_r hI y
      have hkd := zKd_r hI c6
      rw [hbe] at c7
      obtain ⟨rfl, e⟩ := zSt_inj1 (by omega) (by omega) (by omega) (by omega) c7
      refine ⟨c3, Or.inl ⟨hr, Or.inr ?_⟩⟩
      rw [← e, show z + 1 - 1 = z by omega]
      exact ⟨c4, c6⟩
  · rintro ⟨c3, ⟨_, ⟨c4, c6⟩ | ⟨c4, c6⟩⟩ | ⟨c4, _⟩⟩
    · refine ⟨y', z', b1, b2, ⟨c3, c4⟩, by unfold zSt; omega, Or.inl ⟨c6, ?_⟩⟩
      rw [hbe]
      unfold zSt
      omega
    · have hkd := zKd_r hI c6
      refine ⟨y', z' - 1, b1, by omega, ⟨c3, c4⟩, by unfold zSt; omega, Or.inr ⟨c6, ?_⟩⟩
      rw [hbe]
      unfold zSt
      omega
    · exact absurd hr c4
/-- a part that ends its row -/
theorem zRe_end (hI : zI f g) {k r : Nat} {N : Nat} (hk : (k : Int) < f 2 0) (h5 : g 5 k = 1) (hr : g 41 k = r) (hN : k < N) (hl : ∀ j : Nat, k + 1 ≤ j → j < N → g 41 j ≠ r) (ih : ∀ y z, (0 ≤ y ∧ y ≤ f 12 0) → (0 ≤ z ∧ z ≤ zPl g y) → (zRe g k (zSt k y z) ↔ zCr f g N r y ∧ zWt g r y k z)) : ∀ y z, (0 ≤ y ∧ y ≤ f 12 0) → (0 ≤ z ∧ z ≤ zPl g y) → (zRe g (k + 1) (zSt ((k + 1 : Nat) : Int) y z) ↔ zCr f g N (r + 1) y ∧ z = 0) := by
  have i3 := hI.2.2.1
  intro y' z' b1 b2
  have hp' := zPl_r hI y'
  rw [zRe_step hI hk ih]
  have hlate : ∀ y z, zWt g r y N z ↔ zWt g r y (k + 1) z := by
    intro y z
    have := zWt_late (g := g) (r := r) (y := y) (k := k + 1) (N - (k + 1)) (fun j j1 j2 => hl j j1 (by omega)) z
    rw [show k + 1 + (N - (k + 1)) = N by omega] at this
    exact this
  have hmm : zMm g r N ↔ zMm g r (k + 1) := by
    constructor
    · intro u j hj w
      exact u j (by omega) w
    · intro u j hj w
      by_cases c : j < k + 1
      · exact u j c w
      · exact absurd w (hl j (by omega) hj)
  have hbe0 : ∀ y, zBeh g k y 0 = ((k + 1 : Int) * 7 + y) * 6 + 0 := fun y => if_pos (Or.inr rfl)
  have hbe1 : ∀ y z, z ≠ 0 → z = zPl g y → zBeh g k y z = ((k + 1 : Int) * 7 + (y + 1)) * 6 + 0 := fun y z h1 h2 => by
    unfold zBeh
    rw [if_neg (by omega), if_pos h2]
  have hbe2 : ∀ y z, z ≠ 0 → z ≠ zPl g y → zBeh g k y z = -1 := fun y z h1 h2 => by
    unfold zBeh
    rw [if_neg (by omega), if_neg h2]
  constructor
  · rintro ⟨y, z, c1, c2, ⟨c3, c4⟩, c5, hcase⟩
    have hp := zPl_r hI y
    -- the last step within the row
    have hw : ∃ z1, 0 ≤ z1 ∧ z1 ≤ zPl g y ∧ zBeh g k y z1 = zSt ((k + 1 : Nat) : Int) y' z' ∧ zWt g r y (k + 1) z1 := by
      rcases hcase with ⟨c6, c7⟩ | ⟨c6, c7⟩
      · exact ⟨z, c2.1, c2.2, c7, Or.inl ⟨hr, Or.inl ⟨c4, c6⟩⟩⟩
      · have hkd := zKd_r hI c6
        refine ⟨z + 1, by omega, by omega, c7, Or.inl ⟨hr, Or.inr ?_⟩⟩
        rw [show z + 1 - 1 = z by omega]
        exact ⟨c4, c6⟩
    obtain ⟨z1, w1, w2, w3, w4⟩ := hw
    by_cases z0 : z1 = 0
    · subst z0
      rw [hbe0] at w3
      obtain ⟨rfl, rfl⟩ := zSt_inj1 (by omega) (by omega) (by omega) (by omega) w3
      exact ⟨Or.inl ⟨c3, hmm.mpr ((zWt_0 hI (k + 1)).mp w4)⟩, rfl⟩
    · by_cases zp : z1 = zPl g y
      · have hy := zPl_lt hI c1.1 (show 0 < zPl g y by omega)
        rw [hbe1 y z1 z0 zp] at w3
        obtain ⟨e1, rfl⟩ := zSt_inj1 (by omega) (by omega) (by omega) (by omega) w3
        refine ⟨Or.inr ⟨by omega, ?_⟩, rfl⟩
        rw [← e1, show y + 1 - 1 = y by omega]
        exact ⟨c3, (hlate y _).mpr (by rw [← zp]; exact w4)⟩
      · rw [hbe2 y z1 z0 zp] at w3
        unfold zSt at w3
        omega
  · rintro ⟨⟨c3, c4⟩ | ⟨c1, c3, c4⟩, rfl⟩
    · have h0 := (zWt_0 hI (y := y') (k + 1)).mpr (hmm.mp c4)
      have h1 : zWt g r y' k 0 := (zWt_0 hI k).mpr (fun j hj w => c4 j (by omega) w)
      refine ⟨y', 0, b1, by omega, ⟨c3, h1⟩, by unfold zSt; omega, Or.inl ⟨c4 k hN hr, ?_⟩⟩
      rw [hbe0]
      unfold zSt
      omega
    · have hy0 := (zCr_r hI r _ c3).1
      have i4 := hI.2.2.2.1 (y' - 1) hy0 (by omega)
      have epl : zPl g (y' - 1) = g 13 (y' - 1) := if_pos ⟨hy0, by omega⟩
      have hpos : 0 < zPl g (y' - 1) := by omega
      rw [hlate] at c4
      rcases c4 with ⟨_, ⟨c4, c6⟩ | ⟨c4, c6⟩⟩ | ⟨c4, _⟩
      · refine ⟨y' - 1, zPl g (y' - 1), by omega, by omega, ⟨c3, c4⟩, by unfold zSt; omega, Or.inl ⟨c6, ?_⟩⟩
        rw [hbe1 _ _ (by omega) rfl]
        unfold zSt
        omega
      · refine ⟨y' - 1, zPl g (y' - 1) - 1, by omega, by omega, ⟨c3, c4⟩, by unfold zSt; omega, Or.inr ⟨c6, ?_⟩⟩
        rw [show zPl g (y' - 1) - 1 + 1 = zPl g (y' - 1) by omega, hbe1 _ _ (by omega) rfl]
        unfold zSt
        omega
      · exact absurd hr c4
/-- all parts -/
theorem zRe_all (hI : zI f g) (hD : zD f g) : ∀ (k r : Nat), (k : Int) < f 2 0 → g 41 k = r → ∀ y z, (0 ≤ y ∧ y ≤ f 12 0) → (0 ≤ z ∧ z ≤ zPl g y) → (zRe g k (zSt k y z) ↔ zCr f g (f 2 0).toNat r y ∧ zWt g r y k z) := by
  have i3 := hI.2.2.1
  intro k
  induction k with
  | zero =>
    intro r hk hr y z b1 b2
    have h0 := hD.r0 (by omega)
    have hr : g 41 0 = r := hr
    obtain rfl : r = 0 := by omega
    have e : zSt ((0 : Nat) : Int) y z = y * 6 + z := by unfold zSt; omega
    rw [e]
    constructor
    · intro h
      have h : y * 6 + z = 0 := h
      exact ⟨show y = 0 by omega, show z = 0 by omega⟩
    · rintro ⟨h1, h2⟩
      have h1 : y = 0 := h1
      have h2 : z = 0 := h2
      show y * 6 + z = 0
      omega
  | succ k ih =>
    intro r hk hr
    have hrk := hD.rk k (by omega)
    obtain ⟨r0, hr0⟩ := Int.eq_ofNat_of_zero_le hrk.1
    have ih := ih r0 (by omega) hr0
    have hen := hD.en k (by omega) (by omega)
    have hrs := hD.rs k (by omega) (by omega)
    have i5 := (hI.2.1 k (by omega) (by omega)).2.2
    rw [show ((k + 1 : Nat) : Int) = (k : Int) + 1 by omega] at hr
    by_cases c : g 5 k = 0
    · obtain rfl : r = r0 := by omega
      exact zRe_mid hI (by omega) c hr0 ih
    · have c1 : g 5 k = 1 := by omega
      obtain rfl : r = r0 + 1 := by omega
      have hl : ∀ j : Nat, k + 1 ≤ j → j < (f 2 0).toNat → g 41 j ≠ r0 := by
        intro j j1 j2
        have := hD.le j1 (by omega)
        rw [show ((k + 1 : Nat) : Int) = (k : Int) + 1 by omega] at this
        omega
      intro y z b1 b2
      rw [zRe_end hI (by omega) c1 hr0 (by omega) hl ih y z b1 b2]
      refine and_congr_right (fun _ => (zWt_early (k + 1) (fun j hj => ?_) z).symm)
      have := hD.le (show j ≤ k by omega) (by omega)
      omega
theorem zRe_last (hI : zI f g) (hD : zD f g) (h0 : 0 < f 2 0) : ∀ y z, (0 ≤ y ∧ y ≤ f 12 0) → (0 ≤ z ∧ z ≤ zPl g y) → (zRe g (f 2 0).toNat (zSt ((f 2 0).toNat : Int) y z) ↔ zCr f g (f 2 0).toNat (f 38 4).toNat y ∧ z = 0) := by
  have i1 := hI.1
  have hrk := hD.rk ((f 2 0).toNat - 1) (by omega)
  obtain ⟨r0, hr0⟩ := Int.eq_ofNat_of_zero_le hrk.1
  have hrn := hD.rn h0
  have hen := hD.en (((f 2 0).toNat - 1 : Nat) : Int) (by omega) (by omega)
  have ih := zRe_all hI hD ((f 2 0).toNat - 1) r0 (by omega) hr0
  rw [show f 2 0 - 1 = (((f 2 0).toNat - 1 : Nat) : Int) by omega] at hrn
  have hl : ∀ j : Nat, (f 2 0).toNat - 1 + 1 ≤ j → j < (f 2 0).toNat → g 41 j ≠ r0 := fun j j1 j2 => by omega
  have key := zRe_end hI (by omega) (hen.mpr (Or.inl (by omega))) hr0 (show (f 2 0).toNat - 1 < (f 2 0).toNat by omega) hl ih
  rw [show (f 2 0).toNat - 1 + 1 = (f 2 0).toNat by omega] at key
  rw [show (f 38 4).toNat = r0 + 1 by omega]
  exact key
theorem zRow_ex (hD : zD f g) : ∀ (n : Nat), (n : Int) < f 2 0 → ∀ r : Nat, (r : Int) ≤ g 41 n → ∃ k : Nat, k ≤ n ∧ g 41 k = r := by
  intro n
  induction n with
  | zero =>
    intro h r hr
    have h0 := hD.r0 (by omega)
    have hr : (r : Int) ≤ g 41 0 := hr
    exact ⟨0, by omega, show g 41 0 = r by omega⟩
  | succ n ih =>
    intro h r hr
    have hrs := hD.rs n (by omega) (by omega)
    by_cases c : (r : Int) ≤ g 41 n
    · obtain ⟨k, k1, k2⟩ := ih (by omega) r c
      exact ⟨k, by omega, k2⟩
    · refine ⟨n + 1, by omega, ?_⟩
      rw [show ((n + 1 : Nat) : Int) = (n : Int) + 1 by omega] at hr ⊢
      omega
theorem zMo_lr {L : Int} (hI : zI f g) (hD : zD f g) (h0 : 0 < f 2 0) (h1 : zLr f g) (h2 : zRchd f g) (hL : zMo f g (f 2 0).toNat L) : f 22 2 = L := by
  have i1 := hI.1
  have i3 := hI.2.2.1
  obtain ⟨a1, a2, a3, j, a4, a5, a6, a7⟩ := h1
  obtain ⟨⟨r, r1, r2⟩, r3⟩ := hL
  have hrw := hD.rw hI h0
  have hrn := hD.rn h0
  have up : f 22 2 ≤ L := by
    obtain ⟨k, k1, k2⟩ := (h2 j a4 a5).2.mp a6
    obtain ⟨y, z, e, b1, b2⟩ := zRe_ok hI k j k1 k2
    have hp := zPl_r hI y
    have ey : y = f 22 2 := by
      rw [e] at a7
      unfold zSt at a7
      omega
    rw [e] at k2
    by_cases c : (k : Int) < f 2 0
    · have hrk := hD.rk k c
      obtain ⟨q, hq⟩ := Int.eq_ofNat_of_zero_le hrk.1
      have := (zRe_all hI hD k q c hq y z b1 b2).mp k2
      have hle := hD.le (show k ≤ (f 2 0).toNat - 1 by omega) (by omega)
      rw [show (((f 2 0).toNat - 1 : Nat) : Int) = f 2 0 - 1 by omega] at hle
      have := r3 q y (by omega) this.1
      omega
    · obtain rfl : k = (f 2 0).toNat := by omega
      have := (zRe_last hI hD h0 y z b1 b2).mp k2
      have := r3 _ y (by omega) this.1
      omega
  have down : L ≤ f 22 2 := by
    have hLr := zCr_r hI r L r2
    have hp := zPl_r hI L
    have hst : ∀ k : Nat, (k : Int) ≤ f 2 0 → zRe g k (zSt k L 0) → L ≤ f 22 2 := by
      intro k hk h
      have hb : 0 ≤ zSt k L 0 ∧ zSt k L 0 < 420 ∧ zSt k L 0 / 6 % 7 = L := by
        unfold zSt
        omega
      have := a3 _ hb.1 hb.2.1 ((h2 _ hb.1 hb.2.1).2.mpr ⟨k, hk, h⟩)
      omega
    by_cases c : (r : Int) < f 38 4
    · obtain ⟨n, n1, n2⟩ := zRow_ex hD ((f 2 0).toNat - 1) (by omega) r (by rw [show (((f 2 0).toNat - 1 : Nat) : Int) = f 2 0 - 1 by omega]; omega)
      obtain ⟨k, k1, k2, k3⟩ := zLeast (P := fun k : Nat => g 41 k = r) n n2
      refine hst k (by omega) ((zRe_all hI hD k r (by omega) k2 L 0 hLr (by omega)).mpr ⟨r2, (zWt_early k k3 0).mpr rfl⟩)
    · refine hst (f 2 0).toNat (by omega) ((zRe_last hI hD h0 L 0 hLr (by omega)).mpr ⟨?_, rfl⟩)
      rw [show (f 38 4).toNat = r by omega]
      exact r2
  omega
end FurEq

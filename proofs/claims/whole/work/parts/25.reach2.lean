/-! all states that are reached -/
def zRe (g : Nat → Int → Int) : Nat → Int → Prop
  | 0, j => j = 0
  | k + 1, j => ∃ y z, (0 ≤ y ∧ y ≤ 6) ∧ (0 ≤ z ∧ z ≤ 5) ∧ zRe g k (zSt k y z) ∧ zTn g k y z j
theorem zPl_r {f : Nat → Nat → Int} {g : Nat → Int → Int} (hI : zI f g) (y : Int) : 0 ≤ zPl g y ∧ zPl g y ≤ 5 := by
  unfold zPl
  split
  · rename_i q
    exact (hI.2.2.2.1 y q.1 q.2).1
  · omega
theorem zPl_lt {f : Nat → Nat → Int} {g : Nat → Int → Int} (hI : zI f g) {y : Int} (hy : 0 ≤ y) (h : 0 < zPl g y) : y < f 12 0 := by
  unfold zPl at h
  split at h
  · rename_i q
    exact (hI.2.2.2.1 y q.1 q.2).2.mpr h
  · omega
theorem zNa_lt {f : Nat → Nat → Int} {g : Nat → Int → Int} (hI : zI f g) {y z : Int} (h : 0 < zNa g y z) : z < zPl g y := by
  obtain ⟨h1, h2⟩ := zNa_in h
  have e : zNa g y z = g 14 (y * 5 + z) := if_pos ⟨h1, h2⟩
  have e2 : zPl g y = g 13 y := if_pos h1
  rw [e2]
  exact (hI.2.2.2.2.1 y z h1.1 h1.2 h2.1 h2.2).2.mpr (by omega)
/-- from a sound state to a sound state -/
theorem zTn_ok {f : Nat → Nat → Int} {g : Nat → Int → Int} (hI : zI f g) {x y z q : Int} (hx : 0 ≤ x ∧ x < f 2 0) (hy : 0 ≤ y ∧ y ≤ f 12 0) (hz : 0 ≤ z ∧ z ≤ zPl g y) (h : zTn g x y z q) : ∃ y' z', q = zSt (x + 1) y' z' ∧ (0 ≤ y' ∧ y' ≤ f 12 0) ∧ 0 ≤ z' ∧ z' ≤ zPl g y' := by
  have key : ∀ z1, 0 ≤ z1 → z1 ≤ zPl g y → zBeh g x y z1 = q → 0 ≤ q → ∃ y' z', q = zSt (x + 1) y' z' ∧ (0 ≤ y' ∧ y' ≤ f 12 0) ∧ 0 ≤ z' ∧ z' ≤ zPl g y' := by
    intro z1 h1 h2 h3 h4
    unfold zBeh at h3
    split at h3
    · exact ⟨y, z1, by unfold zSt; omega, hy, h1, h2⟩
    · split at h3
      · rename_i u1 u2
        have h5 := zPl_lt hI hy.1 (show 0 < zPl g y by omega)
        exact ⟨y + 1, 0, by unfold zSt; omega, by omega, by omega, (zPl_r hI _).1⟩
      · omega
  obtain ⟨h0, ⟨h1, h2⟩ | ⟨⟨i, a1, a2, a3⟩, h2⟩⟩ := h
  · exact key z hz.1 hz.2 h2 h0
  · have := zNa_lt hI (show 0 < zNa g y z by omega)
    exact key (z + 1) (by omega) (by omega) h2 h0
theorem zSt_inj {k : Nat} {y z y' z' : Int} (hy : 0 ≤ y ∧ y ≤ 6) (hz : 0 ≤ z ∧ z ≤ 5) (hy' : 0 ≤ y' ∧ y' ≤ 6) (hz' : 0 ≤ z' ∧ z' ≤ 5) (h : zSt k y z = zSt k y' z') : y = y' ∧ z = z' := by
  unfold zSt at h
  omega
theorem zRe_ok {f : Nat → Nat → Int} {g : Nat → Int → Int} (hI : zI f g) : ∀ (k : Nat) (j : Int), (k : Int) ≤ f 2 0 → zRe g k j → ∃ y z, j = zSt k y z ∧ (0 ≤ y ∧ y ≤ f 12 0) ∧ 0 ≤ z ∧ z ≤ zPl g y := by
  have i3 := hI.2.2.1
  intro k
  induction k with
  | zero =>
    intro j hk h
    exact ⟨0, 0, by have : j = 0 := h; rw [this]; rfl, by omega, by omega, (zPl_r hI 0).1⟩
  | succ k ih =>
    intro j hk h
    obtain ⟨y, z, hy, hz, h1, h2⟩ := h
    obtain ⟨y1, z1, e, b1, b2⟩ := ih _ (by omega) h1
    have hp := zPl_r hI y1
    obtain ⟨rfl, rfl⟩ := zSt_inj hy hz (by omega) (by omega) e
    exact zTn_ok hI ⟨by omega, by omega⟩ b1 b2 h2
theorem zRe_lv {f : Nat → Nat → Int} {g : Nat → Int → Int} (hI : zI f g) {k : Nat} {j : Int} (hk : (k : Int) ≤ f 2 0) (h : zRe g k j) : 0 ≤ j ∧ j < 420 ∧ j / 42 = k := by
  have i1 := hI.1
  have i3 := hI.2.2.1
  obtain ⟨y, z, rfl, b1, b2⟩ := zRe_ok hI k j hk h
  have hp := zPl_r hI y
  unfold zSt
  omega
def zBe (k' : Nat) (y' z' : Int) (k : Nat) (y z : Int) : Prop := k' < k ∨ (k' = k ∧ (y' < y ∨ (y' = y ∧ z' < z)))
def zInv (f : Nat → Nat → Int) (g : Nat → Int → Int) (F : Nat → Nat → Int) (G : Nat → Int → Int) (k : Nat) (y z : Int) : Prop :=
  zFrS F f G g ∧ zLr F G ∧ G 32 0 = 1 ∧ (∀ j, 0 ≤ j → j < 420 → G 32 j = 1 → ∃ k' : Nat, (k' : Int) ≤ f 2 0 ∧ zRe g k' j) ∧
  ∀ (k' : Nat) (y' z' : Int), (k' : Int) < f 2 0 → (0 ≤ y' ∧ y' ≤ f 12 0) → (0 ≤ z' ∧ z' ≤ zPl g y') → zBe k' y' z' k y z → G 32 (zSt k' y' z') = 1 → ∀ q, zTn g k' y' z' q → G 32 q = 1
theorem zInv_end {f F : Nat → Nat → Int} {g G : Nat → Int → Int} (hI : zI f g) {k : Nat} (hk : (k : Int) = f 2 0) (h : zInv f g F G k 0 0) : ∀ j, 0 ≤ j → j < 420 → (G 32 j = 1 ↔ ∃ k' : Nat, (k' : Int) ≤ f 2 0 ∧ zRe g k' j) := by
  have i3 := hI.2.2.1
  obtain ⟨h1, h2, h3, h4, h5⟩ := h
  have key : ∀ (n : Nat) (j : Int), (n : Int) ≤ f 2 0 → zRe g n j → G 32 j = 1 := by
    intro n
    induction n with
    | zero =>
      intro j _ hj
      have : j = 0 := hj
      rw [this]
      exact h3
    | succ n ih =>
      intro j hn hj
      obtain ⟨y, z, hy, hz, a1, a2⟩ := hj
      obtain ⟨y1, z1, e, b1, b2⟩ := zRe_ok hI n _ (by omega) a1
      have hp := zPl_r hI y1
      obtain ⟨rfl, rfl⟩ := zSt_inj hy hz (by omega) (by omega) e
      exact h5 n y z (by omega) b1 b2 (Or.inl (by omega)) (ih _ (by omega) a1) j a2
  intro j j1 j2
  exact ⟨h4 j j1 j2, fun ⟨k', a1, a2⟩ => key k' j a1 a2⟩
theorem zInv_skip {f F : Nat → Nat → Int} {g G : Nat → Int → Int} {k : Nat} {y z : Int} (h : zInv f g F G k y z) (hn : ¬ G 32 (zSt k y z) = 1) : zInv f g F G k y (z + 1) := by
  obtain ⟨h1, h2, h3, h4, h5⟩ := h
  refine ⟨h1, h2, h3, h4, fun k' y' z' a1 a2 a3 a4 a5 q a6 => ?_⟩
  by_cases e : k' = k ∧ y' = y ∧ z' = z
  · obtain ⟨rfl, rfl, rfl⟩ := e
    exact absurd a5 hn
  · refine h5 k' y' z' a1 a2 a3 ?_ a5 q a6
    unfold zBe at a4 ⊢
    omega
theorem zInv_step {f F F2 : Nat → Nat → Int} {g G G2 : Nat → Int → Int} (hI : zI f g) {k : Nat} {y z : Int} (hk : (k : Int) < f 2 0) (hy : 0 ≤ y ∧ y ≤ f 12 0) (hz : 0 ≤ z ∧ z ≤ zPl g y) (h : zInv f g F G k y z) (hn : G 32 (zSt k y z) = 1)
    (hF2 : zFrS F2 F G2 G) (hL2 : zLr F2 G2) (hS : ∀ j, 0 ≤ j → j < 420 → (G2 32 j = 1 ↔ G 32 j = 1 ∨ zTn G k y z j)) : zInv f g F2 G2 k y (z + 1) := by
  have i1 := hI.1
  have i3 := hI.2.2.1
  have hp := zPl_r hI y
  obtain ⟨h1, h2, h3, h4, h5⟩ := h
  have hT : ∀ j, zTn G k y z j ↔ zTn g k y z j := fun j => h1.Tn k y z j
  have hlev : ∀ j, zTn g k y z j → 0 ≤ j ∧ j < 420 ∧ j / 42 = k + 1 := by
    intro j hj
    obtain ⟨y1, z1, rfl, b1, b2⟩ := zTn_ok hI ⟨by omega, hk⟩ hy hz hj
    have hp1 := zPl_r hI y1
    unfold zSt
    omega
  refine ⟨hF2.tr h1, hL2, (hS 0 (by omega) (by omega)).mpr (Or.inl h3), fun j j1 j2 j3 => ?_, fun k' y' z' a1 a2 a3 a4 a5 q a6 => ?_⟩
  · rcases (hS j j1 j2).mp j3 with u | u
    · exact h4 j j1 j2 u
    · obtain ⟨k1, b1, b2⟩ := h4 (zSt k y z) (by unfold zSt; omega) (by unfold zSt; omega) hn
      have hl := (zRe_lv hI b1 b2).2.2
      have e : k1 = k := by unfold zSt at hl; omega
      subst e
      exact ⟨k1 + 1, by omega, y, z, by omega, by omega, b2, (hT j).mp u⟩
  · have hp' := zPl_r hI y'
    obtain ⟨y1, z1, e1, b1, b2⟩ := zTn_ok hI ⟨by omega, a1⟩ a2 a3 a6
    have hp1 := zPl_r hI y1
    have hq : 0 ≤ q ∧ q < 420 := by rw [e1]; unfold zSt; omega
    by_cases e : k' = k ∧ y' = y ∧ z' = z
    · obtain ⟨rfl, rfl, rfl⟩ := e
      exact (hS q hq.1 hq.2).mpr (Or.inr ((hT q).mpr a6))
    · have a5' : G 32 (zSt k' y' z') = 1 := by
        rcases (hS (zSt k' y' z') (by unfold zSt; omega) (by unfold zSt; omega)).mp a5 with u | u
        · exact u
        · have := (hlev _ ((hT _).mp u)).2.2
          unfold zBe at a4
          unfold zSt at this
          omega
      refine (hS q hq.1 hq.2).mpr (Or.inl (h5 k' y' z' a1 a2 a3 ?_ a5' q a6))
      unfold zBe at a4 ⊢
      omega
theorem zInv_line {f F : Nat → Nat → Int} {g G : Nat → Int → Int} {k : Nat} {y z : Int} (h : zInv f g F G k y z) (hz : zPl g y < z) : zInv f g F G k (y + 1) 0 := by
  obtain ⟨h1, h2, h3, h4, h5⟩ := h
  refine ⟨h1, h2, h3, h4, fun k' y' z' a1 a2 a3 a4 a5 q a6 => h5 k' y' z' a1 a2 a3 ?_ a5 q a6⟩
  unfold zBe at a4 ⊢
  by_cases e : k' = k ∧ y' = y
  · obtain ⟨rfl, rfl⟩ := e
    omega
  · omega
theorem zInv_part {f F : Nat → Nat → Int} {g G : Nat → Int → Int} {k : Nat} {y : Int} (h : zInv f g F G k y 0) (hy : f 12 0 < y) : zInv f g F G (k + 1) 0 0 := by
  obtain ⟨h1, h2, h3, h4, h5⟩ := h
  refine ⟨h1, h2, h3, h4, fun k' y' z' a1 a2 a3 a4 a5 q a6 => h5 k' y' z' a1 a2 a3 ?_ a5 q a6⟩
  unfold zBe at a4 ⊢
  omega
section Rch2
variable {l : Launch} {dC : Nat → ClassId} {dI : Nat → Nat → Nat} {tc : Nat → ClassId} {f : Nat → Nat → Int} {g : Nat → Int → Int} {a b c : Nat}
set_option maxRecDepth 100000 in
set_option maxHeartbeats 4000000 in
theorem ct_reachAll (hI : zI f g) : am_Ct l dC dI tc mm4_reachAll 3 58 [(.inr (.inr (some 22)))] (58, f, g, pr_r a b c) (fun r s => r = none ∧ ∃ f' g', s = (58, f', g', pr_r a b c) ∧ zFrS f' f g' g ∧ zLr f' g' ∧ ∀ j, 0 ≤ j → j < 420 → (g' 32 j = 1 ↔ ∃ k' : Nat, (k' : Int) ≤ f 2 0 ∧ zRe g k' j)) := by
  have hI2 := hI
  obtain ⟨i1, i2, i3, i4, i5, i6, i7⟩ := hI2
  have parts : ∀ (n k : Nat) (o2 o3 : Option Int) (F : Nat → Nat → Int) (G : Nat → Int → Int), (k : Int) ≤ f 2 0 → (f 2 0).toNat - k ≤ n → zInv f g F G k 0 0 → am_wp l dC dI tc mm4_reachAll 3 58 58 (fun r s => r = none ∧ ∃ f' g', s = (58, f', g', pr_r a b c) ∧ zFrS f' f g' g ∧ zLr f' g' ∧ ∀ j, 0 ≤ j → j < 420 → (g' 32 j = 1 ↔ ∃ k' : Nat, (k' : Int) ≤ f 2 0 ∧ zRe g k' j)) 22 [some (.inr (.inr (some 22))), some (.inl (k : Int)), o2.map Sum.inl, o3.map Sum.inl] [] (58, F, G, pr_r a b c) := by
    intro n
    induction n with
    | zero =>
      intro k o2 o3 F G hk hn hV
      have e2 : F 2 0 = f 2 0 := hV.1.1 2 0 (Or.inl (by decide))
      iterate 4 (refine am_go rfl (by first | exact True.intro | omega | exact ⟨by decide, Nat.le_of_ble_eq_true rfl, Nat.le_of_ble_eq_true rfl⟩ | exact ⟨by decide, Nat.le_of_ble_eq_true rfl⟩) ?_)
      rw [e2]
      refine am_if rfl (fun c1 => ?_) (fun c1 => ?_)
      · exact am_vret (x := 0) rfl rfl rfl ⟨rfl, F, G, rfl, hV.1, hV.2.1, zInv_end hI (by omega) hV⟩
      · omega
    | succ n ih =>
      intro k o2 o3 F G hk hn hV
      have e2 : F 2 0 = f 2 0 := hV.1.1 2 0 (Or.inl (by decide))
      have lns : (k : Int) < f 2 0 → ∀ (m : Nat) (y : Int) (o3 : Option Int) (F : Nat → Nat → Int) (G : Nat → Int → Int), 0 ≤ y → y ≤ f 12 0 + 1 → (f 12 0 + 1 - y).toNat ≤ m → zInv f g F G k y 0 → am_wp l dC dI tc mm4_reachAll 3 58 58 (fun r s => r = none ∧ ∃ f' g', s = (58, f', g', pr_r a b c) ∧ zFrS f' f g' g ∧ zLr f' g' ∧ ∀ j, 0 ≤ j → j < 420 → (g' 32 j = 1 ↔ ∃ k' : Nat, (k' : Int) ≤ f 2 0 ∧ zRe g k' j)) 29 [some (.inr (.inr (some 22))), some (.inl (k : Int)), some (.inl y), o3.map Sum.inl] [] (58, F, G, pr_r a b c) := by
        intro hkl m
        induction m with
        | zero =>
          intro y o3 F G hy hy2 hm hV
          have e12 : F 12 0 = f 12 0 := hV.1.1 12 0 (Or.inl (by decide))
          iterate 4 (refine am_go rfl (by first | exact True.intro | omega | exact ⟨by decide, Nat.le_of_ble_eq_true rfl, Nat.le_of_ble_eq_true rfl⟩ | exact ⟨by decide, Nat.le_of_ble_eq_true rfl⟩) ?_)
          rw [e12]
          refine am_if rfl (fun c1 => ?_) (fun c1 => ?_)
          · iterate 2 (refine am_go rfl (by first | exact True.intro | omega | exact ⟨by decide, Nat.le_of_ble_eq_true rfl, Nat.le_of_ble_eq_true rfl⟩ | exact ⟨by decide, Nat.le_of_ble_eq_true rfl⟩) ?_)
            exact ih (k + 1) (some y) o3 F G (by omega) (by omega) (zInv_part hV (by omega))
          · omega
        | succ m ihm =>
          intro y o3 F G hy hy2 hm hV
          have e12 : F 12 0 = f 12 0 := hV.1.1 12 0 (Or.inl (by decide))
          have pls : y ≤ f 12 0 → ∀ (w : Nat) (z : Int) (F : Nat → Nat → Int) (G : Nat → Int → Int), 0 ≤ z → z ≤ zPl g y + 1 → (zPl g y + 1 - z).toNat ≤ w → zInv f g F G k y z → am_wp l dC dI tc mm4_reachAll 3 58 58 (fun r s => r = none ∧ ∃ f' g', s = (58, f', g', pr_r a b c) ∧ zFrS f' f g' g ∧ zLr f' g' ∧ ∀ j, 0 ≤ j → j < 420 → (g' 32 j = 1 ↔ ∃ k' : Nat, (k' : Int) ≤ f 2 0 ∧ zRe g k' j)) 36 [some (.inr (.inr (some 22))), some (.inl (k : Int)), some (.inl y), some (.inl z)] [] (58, F, G, pr_r a b c) := by
            intro hyl w
            have hp := zPl_r hI y
            induction w with
            | zero =>
              intro z F G hz hz2 hw hV
              iterate 4 (refine am_go rfl (by first | exact True.intro | omega | exact ⟨by decide, Nat.le_of_ble_eq_true rfl, Nat.le_of_ble_eq_true rfl⟩ | exact ⟨by decide, Nat.le_of_ble_eq_true rfl⟩) ?_)
              refine am_callv rfl (ct_placesIn _) (by decide) (Nat.le_of_ble_eq_true rfl) (Nat.le_of_ble_eq_true rfl) ?_
              rw [zPl_fr (fun j => hV.1.2 13 j (by decide))]
              refine am_if rfl (fun c1 => ?_) (fun c1 => ?_)
              · iterate 2 (refine am_go rfl (by first | exact True.intro | omega | exact ⟨by decide, Nat.le_of_ble_eq_true rfl, Nat.le_of_ble_eq_true rfl⟩ | exact ⟨by decide, Nat.le_of_ble_eq_true rfl⟩) ?_)
                exact ihm (y + 1) (some z) F G (by omega) (by omega) (by omega) (zInv_line hV (by omega))
              · omega
            | succ w ihw =>
              intro z F G hz hz2 hw hV
              iterate 4 (refine am_go rfl (by first | exact True.intro | omega | exact ⟨by decide, Nat.le_of_ble_eq_true rfl, Nat.le_of_ble_eq_true rfl⟩ | exact ⟨by decide, Nat.le_of_ble_eq_true rfl⟩) ?_)
              refine am_callv rfl (ct_placesIn _) (by decide) (Nat.le_of_ble_eq_true rfl) (Nat.le_of_ble_eq_true rfl) ?_
              rw [zPl_fr (fun j => hV.1.2 13 j (by decide))]
              refine am_if rfl (fun c1 => ?_) (fun c1 => ?_)
              · iterate 2 (refine am_go rfl (by first | exact True.intro | omega | exact ⟨by decide, Nat.le_of_ble_eq_true rfl, Nat.le_of_ble_eq_true rfl⟩ | exact ⟨by decide, Nat.le_of_ble_eq_true rfl⟩) ?_)
                exact ihm (y + 1) (some z) F G (by omega) (by omega) (by omega) (zInv_line hV (by omega))
              · have hb := hV.2.1.2.1 (zSt k y z) (by unfold zSt; omega) (by unfold zSt; omega)
                iterate 4 (refine am_go rfl (by first | exact True.intro | omega | exact ⟨by decide, Nat.le_of_ble_eq_true rfl, Nat.le_of_ble_eq_true rfl⟩ | exact ⟨by decide, Nat.le_of_ble_eq_true rfl⟩) ?_)
                refine am_callv rfl (ct_isReached _ _ _ (by omega) (by omega) (by omega) hb) (by decide) (Nat.le_of_ble_eq_true rfl) (Nat.le_of_ble_eq_true rfl) ?_
                refine am_if rfl (fun c2 => ?_) (fun c2 => ?_)
                · have c2 : G 32 (zSt k y z) = 0 := c2
                  iterate 2 (refine am_go rfl (by first | exact True.intro | omega | exact ⟨by decide, Nat.le_of_ble_eq_true rfl, Nat.le_of_ble_eq_true rfl⟩ | exact ⟨by decide, Nat.le_of_ble_eq_true rfl⟩) ?_)
                  exact ihw (z + 1) F G (by omega) (by omega) (by omega) (zInv_skip hV (by omega))
                · have c2 : ¬ G 32 (zSt k y z) = 0 := c2
                  have e2 : F 2 0 = f 2 0 := hV.1.1 2 0 (Or.inl (by decide))
                  iterate 4 (refine am_go rfl (by first | exact True.intro | omega | exact ⟨by decide, Nat.le_of_ble_eq_true rfl, Nat.le_of_ble_eq_true rfl⟩ | exact ⟨by decide, Nat.le_of_ble_eq_true rfl⟩) ?_)
                  refine am_call rfl (ct_reachFrom _ _ _ (hV.1.I hI) hV.2.1 (by omega) (by omega) (by omega)) (by decide) (Nat.le_of_ble_eq_true rfl) (Nat.le_of_ble_eq_true rfl) (Nat.le_of_ble_eq_true rfl) (fun rv s q => ?_)
                  obtain ⟨rfl, F2, G2, rfl, hF2, hL2, hS2⟩ := q
                  iterate 2 (refine am_go rfl (by first | exact True.intro | omega | exact ⟨by decide, Nat.le_of_ble_eq_true rfl, Nat.le_of_ble_eq_true rfl⟩ | exact ⟨by decide, Nat.le_of_ble_eq_true rfl⟩) ?_)
                  exact ihw (z + 1) F2 G2 (by omega) (by omega) (by omega) (zInv_step hI hkl ⟨hy, hyl⟩ ⟨hz, by omega⟩ hV (by omega) hF2 hL2 hS2)
          iterate 4 (refine am_go rfl (by first | exact True.intro | omega | exact ⟨by decide, Nat.le_of_ble_eq_true rfl, Nat.le_of_ble_eq_true rfl⟩ | exact ⟨by decide, Nat.le_of_ble_eq_true rfl⟩) ?_)
          rw [e12]
          refine am_if rfl (fun c1 => ?_) (fun c1 => ?_)
          · iterate 2 (refine am_go rfl (by first | exact True.intro | omega | exact ⟨by decide, Nat.le_of_ble_eq_true rfl, Nat.le_of_ble_eq_true rfl⟩ | exact ⟨by decide, Nat.le_of_ble_eq_true rfl⟩) ?_)
            exact ih (k + 1) (some y) o3 F G (by omega) (by omega) (zInv_part hV (by omega))
          · iterate 2 (refine am_go rfl (by first | exact True.intro | omega | exact ⟨by decide, Nat.le_of_ble_eq_true rfl, Nat.le_of_ble_eq_true rfl⟩ | exact ⟨by decide, Nat.le_of_ble_eq_true rfl⟩) ?_)
            exact pls (by omega) _ 0 F G (by omega) (by have := zPl_r hI y; omega) (Nat.le_refl _) hV
      iterate 4 (refine am_go rfl (by first | exact True.intro | omega | exact ⟨by decide, Nat.le_of_ble_eq_true rfl, Nat.le_of_ble_eq_true rfl⟩ | exact ⟨by decide, Nat.le_of_ble_eq_true rfl⟩) ?_)
      rw [e2]
      refine am_if rfl (fun c1 => ?_) (fun c1 => ?_)
      · exact am_vret (x := 0) rfl rfl rfl ⟨rfl, F, G, rfl, hV.1, hV.2.1, zInv_end hI (by omega) hV⟩
      · iterate 2 (refine am_go rfl (by first | exact True.intro | omega | exact ⟨by decide, Nat.le_of_ble_eq_true rfl, Nat.le_of_ble_eq_true rfl⟩ | exact ⟨by decide, Nat.le_of_ble_eq_true rfl⟩) ?_)
        exact lns (by omega) _ 0 o3 F G (by omega) (by omega) (Nat.le_refl _) hV
  have start : zInv f g (am_u1 f 22 2 0) (am_u3 (am_fz g 32 420) 32 0 1) 0 0 0 := by
    have e : am_u1 f 22 2 0 22 2 = 0 := am_u1_s
    have eg : ∀ j, 0 ≤ j → j < 420 → am_u3 (am_fz g 32 420) 32 0 1 32 j = if j = 0 then 1 else 0 := by
      intro j j1 j2
      by_cases u : j = 0
      · rw [if_pos u, u, am_u3_s]
      · rw [if_neg u, am_u3_j u]
        exact if_pos ⟨rfl, j1, j2⟩
    refine ⟨⟨fun x j hx => am_u1_ne hx, fun x j hx => ?_⟩, ⟨by rw [e]; omega, fun j j1 j2 => ?_, fun j j1 j2 j3 => ?_, 0, by omega, by omega, ?_, by rw [e]; rfl⟩, ?_, fun j j1 j2 j3 => ?_, fun k' y' z' a1 a2 a3 a4 => ?_⟩
    · rw [am_u3_c hx]
      exact if_neg (fun u => hx u.1)
    · rw [eg j j1 j2]
      split
      · exact Or.inr rfl
      · exact Or.inl rfl
    · rw [eg j j1 j2] at j3
      split at j3
      · rename_i u
        rw [u, e]
        decide
      · omega
    · rw [eg 0 (by omega) (by omega)]
      rfl
    · rw [eg 0 (by omega) (by omega)]
      rfl
    · rw [eg j j1 j2] at j3
      split at j3
      · rename_i u
        exact ⟨0, by omega, u⟩
      · omega
    · unfold zBe at a4
      omega
  have zero : ∀ (n : Nat) (i : Int), (420 - i).toNat ≤ n → 0 ≤ i → i ≤ 420 → am_wp l dC dI tc mm4_reachAll 3 58 58 (fun r s => r = none ∧ ∃ f' g', s = (58, f', g', pr_r a b c) ∧ zFrS f' f g' g ∧ zLr f' g' ∧ ∀ j, 0 ≤ j → j < 420 → (g' 32 j = 1 ↔ ∃ k' : Nat, (k' : Int) ≤ f 2 0 ∧ zRe g k' j)) 2 [some (.inr (.inr (some 22))), some (.inl i), none, none] [] (58, f, am_fz g 32 i, pr_r a b c) := by
    have fin : am_wp l dC dI tc mm4_reachAll 3 58 58 (fun r s => r = none ∧ ∃ f' g', s = (58, f', g', pr_r a b c) ∧ zFrS f' f g' g ∧ zLr f' g' ∧ ∀ j, 0 ≤ j → j < 420 → (g' 32 j = 1 ↔ ∃ k' : Nat, (k' : Int) ≤ f 2 0 ∧ zRe g k' j)) 12 [some (.inr (.inr (some 22))), some (.inl 420), none, none] [] (58, f, am_fz g 32 420, pr_r a b c) := by
      iterate 10 (refine am_go rfl (by first | exact True.intro | omega | exact ⟨by decide, Nat.le_of_ble_eq_true rfl, Nat.le_of_ble_eq_true rfl⟩ | exact ⟨by decide, Nat.le_of_ble_eq_true rfl⟩) ?_)
      exact parts _ 0 none none _ _ (by omega) (Nat.le_refl _) start
    intro n
    induction n with
    | zero =>
      intro i hn hi h30
      have e : i = 420 := by omega
      subst e
      iterate 2 (refine am_go rfl (by first | exact True.intro | omega | exact ⟨by decide, Nat.le_of_ble_eq_true rfl, Nat.le_of_ble_eq_true rfl⟩ | exact ⟨by decide, Nat.le_of_ble_eq_true rfl⟩) ?_)
      refine am_if rfl (fun c1 => ?_) (fun c1 => ?_)
      · exact fin
      · omega
    | succ n ih =>
      intro i hn hi h30
      iterate 2 (refine am_go rfl (by first | exact True.intro | omega | exact ⟨by decide, Nat.le_of_ble_eq_true rfl, Nat.le_of_ble_eq_true rfl⟩ | exact ⟨by decide, Nat.le_of_ble_eq_true rfl⟩) ?_)
      refine am_if rfl (fun c1 => ?_) (fun c1 => ?_)
      · have e : i = 420 := by omega
        subst e
        exact fin
      · iterate 7 (refine am_go rfl (by first | exact True.intro | omega | exact ⟨by decide, Nat.le_of_ble_eq_true rfl, Nat.le_of_ble_eq_true rfl⟩ | exact ⟨by decide, Nat.le_of_ble_eq_true rfl⟩) ?_)
        rw [am_fz_s _ _ hi]
        exact ih (i + 1) (by omega) (by omega) (by omega)
  refine am_enter ok_4_reachAll rfl (by decide) (Nat.le_of_ble_eq_true rfl) rfl ?_
  iterate 2 (refine am_go rfl (by first | exact True.intro | omega | exact ⟨by decide, Nat.le_of_ble_eq_true rfl, Nat.le_of_ble_eq_true rfl⟩ | exact ⟨by decide, Nat.le_of_ble_eq_true rfl⟩) ?_)
  have h9 := zero _ 0 (Nat.le_refl _) (by omega) (by omega)
  rw [am_fz_0] at h9
  exact h9
end Rch2

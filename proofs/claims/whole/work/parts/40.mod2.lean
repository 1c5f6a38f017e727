/-! the reference has the class's form, lines and pairs -/
def zD (f : Nat → Nat → Int) (g : Nat → Int → Int) : Prop :=
  (f 38 5 = f 2 0) ∧
  (∀ k, 0 ≤ k → k < f 2 0 → g 40 k = g 3 k) ∧
  (∀ k, 0 ≤ k → k < f 2 0 → g 42 k = g 4 k) ∧
  (∀ k, 0 ≤ k → k < f 2 0 → (g 5 k = 1 ↔ (k + 1 = f 2 0 ∨ g 41 (k + 1) ≠ g 41 k))) ∧
  (f 38 13 = f 12 0) ∧
  (∀ y, 0 ≤ y → y < f 12 0 → g 46 y = g 13 y) ∧
  (∀ y z, 0 ≤ y → y < f 12 0 → 0 ≤ z → z < g 13 y → g 47 (5 * y + z) = g 14 (y * 5 + z)) ∧
  (∀ y z i, 0 ≤ y → y < f 12 0 → 0 ≤ z → z < g 13 y → 0 ≤ i → i < g 14 (y * 5 + z) → g 48 (4 * (5 * y + z) + i) = g 15 (zAlt y z i) ∧ g 49 (4 * (5 * y + z) + i) = g 16 (zAlt y z i) ∧ g 50 (4 * (5 * y + z) + i) = g 17 (zAlt y z i)) ∧
  (f 38 19 = f 18 0) ∧
  (∀ i, 0 ≤ i → i < f 18 0 → g 51 (3 * i) = g 19 i ∧ g 51 (3 * i + 1) = g 20 i ∧ g 51 (3 * i + 2) = g 21 i) ∧
  (0 < f 2 0 → g 41 0 = 0) ∧
  (∀ k, 0 ≤ k → k + 1 < f 2 0 → g 41 (k + 1) = g 41 k ∨ g 41 (k + 1) = g 41 k + 1) ∧
  (0 < f 2 0 → f 38 4 = g 41 (f 2 0 - 1) + 1) ∧
  (∀ j k, 0 ≤ j → j < f 2 0 → 0 ≤ k → k < f 2 0 → g 3 j = g 3 k → j = k)
theorem zD.pn {f : Nat → Nat → Int} {g : Nat → Int → Int} (h : zD f g) : f 38 5 = f 2 0 := h.1
theorem zD.kd {f : Nat → Nat → Int} {g : Nat → Int → Int} (h : zD f g) : ∀ k, 0 ≤ k → k < f 2 0 → g 40 k = g 3 k := h.2.1
theorem zD.ms {f : Nat → Nat → Int} {g : Nat → Int → Int} (h : zD f g) : ∀ k, 0 ≤ k → k < f 2 0 → g 42 k = g 4 k := h.2.2.1
theorem zD.en {f : Nat → Nat → Int} {g : Nat → Int → Int} (h : zD f g) : ∀ k, 0 ≤ k → k < f 2 0 → (g 5 k = 1 ↔ (k + 1 = f 2 0 ∨ g 41 (k + 1) ≠ g 41 k)) := h.2.2.2.1
theorem zD.ln {f : Nat → Nat → Int} {g : Nat → Int → Int} (h : zD f g) : f 38 13 = f 12 0 := h.2.2.2.2.1
theorem zD.pl {f : Nat → Nat → Int} {g : Nat → Int → Int} (h : zD f g) : ∀ y, 0 ≤ y → y < f 12 0 → g 46 y = g 13 y := h.2.2.2.2.2.1
theorem zD.na {f : Nat → Nat → Int} {g : Nat → Int → Int} (h : zD f g) : ∀ y z, 0 ≤ y → y < f 12 0 → 0 ≤ z → z < g 13 y → g 47 (5 * y + z) = g 14 (y * 5 + z) := h.2.2.2.2.2.2.1
theorem zD.al {f : Nat → Nat → Int} {g : Nat → Int → Int} (h : zD f g) : ∀ y z i, 0 ≤ y → y < f 12 0 → 0 ≤ z → z < g 13 y → 0 ≤ i → i < g 14 (y * 5 + z) → g 48 (4 * (5 * y + z) + i) = g 15 (zAlt y z i) ∧ g 49 (4 * (5 * y + z) + i) = g 16 (zAlt y z i) ∧ g 50 (4 * (5 * y + z) + i) = g 17 (zAlt y z i) := h.2.2.2.2.2.2.2.1
theorem zD.tn {f : Nat → Nat → Int} {g : Nat → Int → Int} (h : zD f g) : f 38 19 = f 18 0 := h.2.2.2.2.2.2.2.2.1
theorem zD.td {f : Nat → Nat → Int} {g : Nat → Int → Int} (h : zD f g) : ∀ i, 0 ≤ i → i < f 18 0 → g 51 (3 * i) = g 19 i ∧ g 51 (3 * i + 1) = g 20 i ∧ g 51 (3 * i + 2) = g 21 i := h.2.2.2.2.2.2.2.2.2.1
theorem zD.r0 {f : Nat → Nat → Int} {g : Nat → Int → Int} (h : zD f g) : 0 < f 2 0 → g 41 0 = 0 := h.2.2.2.2.2.2.2.2.2.2.1
theorem zD.rs {f : Nat → Nat → Int} {g : Nat → Int → Int} (h : zD f g) : ∀ k, 0 ≤ k → k + 1 < f 2 0 → g 41 (k + 1) = g 41 k ∨ g 41 (k + 1) = g 41 k + 1 := h.2.2.2.2.2.2.2.2.2.2.2.1
theorem zD.rn {f : Nat → Nat → Int} {g : Nat → Int → Int} (h : zD f g) : 0 < f 2 0 → f 38 4 = g 41 (f 2 0 - 1) + 1 := h.2.2.2.2.2.2.2.2.2.2.2.2.1
theorem zD.di {f : Nat → Nat → Int} {g : Nat → Int → Int} (h : zD f g) : ∀ j k, 0 ≤ j → j < f 2 0 → 0 ≤ k → k < f 2 0 → g 3 j = g 3 k → j = k := h.2.2.2.2.2.2.2.2.2.2.2.2.2
/-- the cells that the form, the lines and the pairs lie in -/
def zDf (c : Nat) (j : Nat) : Prop := (c = 2 ∧ j = 0) ∨ (c = 12 ∧ j = 0) ∨ (c = 18 ∧ j = 0) ∨ (c = 38 ∧ (j = 4 ∨ j = 5 ∨ j = 13 ∨ j = 19))
def zDg (c : Nat) : Prop := (3 ≤ c ∧ c ≤ 5) ∨ (13 ≤ c ∧ c ≤ 21) ∨ (40 ≤ c ∧ c ≤ 42) ∨ (46 ≤ c ∧ c ≤ 51)
def zFrD (F f : Nat → Nat → Int) (G g : Nat → Int → Int) : Prop := (∀ c j, zDf c j → F c j = f c j) ∧ ∀ c j, zDg c → G c j = g c j
theorem zFrD.D {F f : Nat → Nat → Int} {G g : Nat → Int → Int} (h : zFrD F f G g) (hD : zD f g) : zD F G := by
  have a1 : F 2 0 = f 2 0 := h.1 2 0 (by unfold zDf; omega)
  have a2 : F 12 0 = f 12 0 := h.1 12 0 (by unfold zDf; omega)
  have a3 : F 18 0 = f 18 0 := h.1 18 0 (by unfold zDf; omega)
  have a4 : F 38 4 = f 38 4 := h.1 38 4 (by unfold zDf; omega)
  have a5 : F 38 5 = f 38 5 := h.1 38 5 (by unfold zDf; omega)
  have a6 : F 38 13 = f 38 13 := h.1 38 13 (by unfold zDf; omega)
  have a7 : F 38 19 = f 38 19 := h.1 38 19 (by unfold zDf; omega)
  have b : ∀ c, zDg c → ∀ j, G c j = g c j := fun c hc j => h.2 c j hc
  have b3 := b 3 (by unfold zDg; omega)
  have b4 := b 4 (by unfold zDg; omega)
  have b5 := b 5 (by unfold zDg; omega)
  have b13 := b 13 (by unfold zDg; omega)
  have b14 := b 14 (by unfold zDg; omega)
  have b15 := b 15 (by unfold zDg; omega)
  have b16 := b 16 (by unfold zDg; omega)
  have b17 := b 17 (by unfold zDg; omega)
  have b19 := b 19 (by unfold zDg; omega)
  have b20 := b 20 (by unfold zDg; omega)
  have b21 := b 21 (by unfold zDg; omega)
  have b40 := b 40 (by unfold zDg; omega)
  have b41 := b 41 (by unfold zDg; omega)
  have b42 := b 42 (by unfold zDg; omega)
  have b46 := b 46 (by unfold zDg; omega)
  have b47 := b 47 (by unfold zDg; omega)
  have b48 := b 48 (by unfold zDg; omega)
  have b49 := b 49 (by unfold zDg; omega)
  have b50 := b 50 (by unfold zDg; omega)
  have b51 := b 51 (by unfold zDg; omega)
  unfold zD at hD ⊢
  simp only [a1, a2, a3, a4, a5, a6, a7, b3, b4, b5, b13, b14, b15, b16, b17, b19, b20, b21, b40, b41, b42, b46, b47, b48, b49, b50, b51]
  exact hD
theorem zFrD.I {F f : Nat → Nat → Int} {G g : Nat → Int → Int} (h : zFrD F f G g) (hI : zI f g) : zI F G := by
  unfold zI at hI ⊢
  simp only [h.1 2 0 (by unfold zDf; omega), h.1 12 0 (by unfold zDf; omega), h.1 18 0 (by unfold zDf; omega), h.2 3 _ (show zDg 3 by unfold zDg; omega), h.2 4 _ (show zDg 4 by unfold zDg; omega), h.2 5 _ (show zDg 5 by unfold zDg; omega), h.2 13 _ (show zDg 13 by unfold zDg; omega), h.2 14 _ (show zDg 14 by unfold zDg; omega), h.2 16 _ (show zDg 16 by unfold zDg; omega), h.2 17 _ (show zDg 17 by unfold zDg; omega)]
  exact hI
theorem zD.fit {f : Nat → Nat → Int} {g : Nat → Int → Int} (hD : zD f g) (k v w : Int) : mFit f g k v w ↔ zFit f g k v w := by
  unfold mFit zFit
  rw [hD.tn]
  refine exists_congr (fun i => ?_)
  constructor
  · rintro ⟨h1, h2, h3, h4, h5⟩
    obtain ⟨t1, t2, t3⟩ := hD.td i h1 h2
    exact ⟨h1, h2, by omega, by omega, by omega⟩
  · rintro ⟨h1, h2, h3, h4, h5⟩
    obtain ⟨t1, t2, t3⟩ := hD.td i h1 h2
    exact ⟨h1, h2, by omega, by omega, by omega⟩
theorem zNa_iff {f : Nat → Nat → Int} {g : Nat → Int → Int} (hI : zI f g) {y z c : Int} (hy : 0 ≤ y ∧ y ≤ 6) (hz : 0 ≤ z ∧ z ≤ 5) (hc : 0 ≤ c) : c < zNa g y z ↔ (y < f 12 0 ∧ z < g 13 y ∧ c < g 14 (y * 5 + z)) := by
  obtain ⟨i1, i2, i3, i4, i5, i6, i7⟩ := hI
  unfold zNa
  by_cases h : (0 ≤ y ∧ y < 6) ∧ 0 ≤ z ∧ z < 5
  · rw [if_pos h]
    have j4 := i4 y h.1.1 h.1.2
    have j5 := i5 y z h.1.1 h.1.2 h.2.1 h.2.2
    constructor
    · intro u
      have u1 := j5.2.mpr (by omega)
      exact ⟨j4.2.mpr (by omega), u1, u⟩
    · intro u
      exact u.2.2
  · rw [if_neg h]
    constructor
    · intro u
      omega
    · intro u
      have : y < 6 := by omega
      have j4 := i4 y hy.1 this
      exfalso
      omega
section Mod2
variable {l : Launch} {dC : Nat → ClassId} {dI : Nat → Nat → Nat} {tc : Nat → ClassId} {f : Nat → Nat → Int} {g : Nat → Int → Int} {a b c : Nat}
set_option maxRecDepth 100000 in
set_option maxHeartbeats 4000000 in
theorem cm_word (x k v w pl n nl np : Int) (hl : 0 ≤ f 38 13 ∧ f 38 13 ≤ 6) (hpl : pl = if x < f 38 13 then g 46 x else 0) (hn : n = if v / 1000 < pl then g 47 (5 * x + v / 1000) else 0) (hnl : nl = if x = f 38 13 then f 38 13 + 1 else f 38 13) (hnp : np = if v / 1000 = pl then pl + 1 else pl) (hp5 : 0 ≤ pl ∧ pl ≤ 5) (hn4 : 0 ≤ n ∧ n ≤ 4) : am_Ct l dC dI tc mm6_word 0 58 [(.inr (.inr (some 38))), .inl x, .inl k, .inl v, .inr (.inl w)] (58, f, g, pr_r a b c) (fun r s => (((x < 0 ∨ 6 ≤ x) ∨ (k < 0 ∨ 9 ≤ k) ∨ (v < 0 ∨ 5000 ≤ v) ∨ w < 0 ∨ 1000 < w) ∧ r = some (.inl (-12)) ∧ s = (58, (am_u1 f 38 0 0), g, pr_r a b c)) ∨ (¬ ((x < 0 ∨ 6 ≤ x) ∨ (k < 0 ∨ 9 ≤ k) ∨ (v < 0 ∨ 5000 ≤ v) ∨ w < 0 ∨ 1000 < w) ∧ (f 38 13 < x ∨ pl < v / 1000) ∧ r = some (.inl (-13)) ∧ s = (58, (am_u1 f 38 0 0), g, pr_r a b c)) ∨ (¬ ((x < 0 ∨ 6 ≤ x) ∨ (k < 0 ∨ 9 ≤ k) ∨ (v < 0 ∨ 5000 ≤ v) ∨ w < 0 ∨ 1000 < w) ∧ ¬ (f 38 13 < x ∨ pl < v / 1000) ∧ n = 4 ∧ r = some (.inl (-14)) ∧ s = (58, (am_u1 f 38 0 0), g, pr_r a b c)) ∨ (¬ ((x < 0 ∨ 6 ≤ x) ∨ (k < 0 ∨ 9 ≤ k) ∨ (v < 0 ∨ 5000 ≤ v) ∨ w < 0 ∨ 1000 < w) ∧ ¬ (f 38 13 < x ∨ pl < v / 1000) ∧ n ≠ 4 ∧ r = some (.inl n) ∧ s = (58, am_u1 (am_u1 (am_u1 f 38 0 0) 38 13 nl) 38 21 0, am_u3 (am_u3 (am_u3 (am_u3 (am_u3 g 46 x np) 48 (4 * (5 * x + v / 1000) + n) k) 49 (4 * (5 * x + v / 1000) + n) (v % 1000)) 50 (4 * (5 * x + v / 1000) + n) w) 47 (5 * x + v / 1000) (n + 1), pr_r a b c))) := by
  have q1 := @am_cmp_lt w 0
  have q2 := @am_cmp_le w 1000
  have hf0 : (am_u1 f 38 0 0) 38 13 = f 38 13 := am_u1_j (by decide)
  have key : ¬ ((x < 0 ∨ 6 ≤ x) ∨ (k < 0 ∨ 9 ≤ k) ∨ (v < 0 ∨ 5000 ≤ v) ∨ w < 0 ∨ 1000 < w) → am_wp l dC dI tc mm6_word 0 58 58 (fun r s => (((x < 0 ∨ 6 ≤ x) ∨ (k < 0 ∨ 9 ≤ k) ∨ (v < 0 ∨ 5000 ≤ v) ∨ w < 0 ∨ 1000 < w) ∧ r = some (.inl (-12)) ∧ s = (58, (am_u1 f 38 0 0), g, pr_r a b c)) ∨ (¬ ((x < 0 ∨ 6 ≤ x) ∨ (k < 0 ∨ 9 ≤ k) ∨ (v < 0 ∨ 5000 ≤ v) ∨ w < 0 ∨ 1000 < w) ∧ (f 38 13 < x ∨ pl < v / 1000) ∧ r = some (.inl (-13)) ∧ s = (58, (am_u1 f 38 0 0), g, pr_r a b c)) ∨ (¬ ((x < 0 ∨ 6 ≤ x) ∨ (k < 0 ∨ 9 ≤ k) ∨ (v < 0 ∨ 5000 ≤ v) ∨ w < 0 ∨ 1000 < w) ∧ ¬ (f 38 13 < x ∨ pl < v / 1000) ∧ n = 4 ∧ r = some (.inl (-14)) ∧ s = (58, (am_u1 f 38 0 0), g, pr_r a b c)) ∨ (¬ ((x < 0 ∨ 6 ≤ x) ∨ (k < 0 ∨ 9 ≤ k) ∨ (v < 0 ∨ 5000 ≤ v) ∨ w < 0 ∨ 1000 < w) ∧ ¬ (f 38 13 < x ∨ pl < v / 1000) ∧ n ≠ 4 ∧ r = some (.inl n) ∧ s = (58, am_u1 (am_u1 (am_u1 f 38 0 0) 38 13 nl) 38 21 0, am_u3 (am_u3 (am_u3 (am_u3 (am_u3 g 46 x np) 48 (4 * (5 * x + v / 1000) + n) k) 49 (4 * (5 * x + v / 1000) + n) (v % 1000)) 50 (4 * (5 * x + v / 1000) + n) w) 47 (5 * x + v / 1000) (n + 1), pr_r a b c))) 28 [some (.inr (.inr (some 38))), some (.inl x), some (.inl k), some (.inl v), some (.inr (.inl w)), none, none, none, none, none] [] (58, (am_u1 f 38 0 0), g, pr_r a b c) := by
    intro hO
    by_cases h1 : x < f 38 13
    · rw [if_pos h1] at hpl
      rw [if_neg (by omega)] at hnl
      subst hpl hnl
      by_cases h2 : v / 1000 < g 46 x
      · rw [if_pos h2] at hn
        rw [if_neg (by omega)] at hnp
        subst hn hnp
        repeat' first
          | (refine am_id ?_; simp (config := { decide := true }) only [am_u1_s, am_u1_j, am_u1_c, am_u3_s, am_u3_c])
          | (refine am_go rfl (by first | exact True.intro | omega | exact ⟨by decide, Nat.le_of_ble_eq_true rfl, Nat.le_of_ble_eq_true rfl⟩ | exact ⟨by decide, Nat.le_of_ble_eq_true rfl⟩) ?_)
          | ((refine am_if rfl (fun c1 => ?_) (fun c1 => ?_)) <;> first | (exfalso; omega) | refine am_id ?_)
          | (refine am_iret rfl rfl rfl ?_)
          | (refine am_zret rfl rfl (by first | exact Or.inl rfl | exact Or.inr rfl) rfl ?_)
          | (refine am_lret rfl rfl rfl ?_)
          | (refine am_vret (x := 0) rfl rfl rfl ?_)
        all_goals (first | (exact Or.inr (Or.inl ⟨hO, by omega, rfl, rfl⟩)) | (exact Or.inr (Or.inr (Or.inl ⟨hO, by omega, by omega, rfl, rfl⟩))) | (exact Or.inr (Or.inr (Or.inr ⟨hO, by omega, by first | omega | trivial, rfl, rfl⟩))) | omega)
      · rw [if_neg h2] at hn
        subst hn
        by_cases h3 : v / 1000 = g 46 x
        · rw [if_pos h3] at hnp
          subst hnp
          repeat' first
            | (refine am_id ?_; simp (config := { decide := true }) only [am_u1_s, am_u1_j, am_u1_c, am_u3_s, am_u3_c])
            | (refine am_go rfl (by first | exact True.intro | omega | exact ⟨by decide, Nat.le_of_ble_eq_true rfl, Nat.le_of_ble_eq_true rfl⟩ | exact ⟨by decide, Nat.le_of_ble_eq_true rfl⟩) ?_)
            | ((refine am_if rfl (fun c1 => ?_) (fun c1 => ?_)) <;> first | (exfalso; omega) | refine am_id ?_)
            | (refine am_iret rfl rfl rfl ?_)
            | (refine am_zret rfl rfl (by first | exact Or.inl rfl | exact Or.inr rfl) rfl ?_)
            | (refine am_lret rfl rfl rfl ?_)
            | (refine am_vret (x := 0) rfl rfl rfl ?_)
          all_goals (first | (exact Or.inr (Or.inl ⟨hO, by omega, rfl, rfl⟩)) | (exact Or.inr (Or.inr (Or.inl ⟨hO, by omega, by omega, rfl, rfl⟩))) | (exact Or.inr (Or.inr (Or.inr ⟨hO, by omega, by first | omega | trivial, rfl, rfl⟩))) | omega)
        · rw [if_neg h3] at hnp
          subst hnp
          repeat' first
            | (refine am_id ?_; simp (config := { decide := true }) only [am_u1_s, am_u1_j, am_u1_c, am_u3_s, am_u3_c])
            | (refine am_go rfl (by first | exact True.intro | omega | exact ⟨by decide, Nat.le_of_ble_eq_true rfl, Nat.le_of_ble_eq_true rfl⟩ | exact ⟨by decide, Nat.le_of_ble_eq_true rfl⟩) ?_)
            | ((refine am_if rfl (fun c1 => ?_) (fun c1 => ?_)) <;> first | (exfalso; omega) | refine am_id ?_)
            | (refine am_iret rfl rfl rfl ?_)
            | (refine am_zret rfl rfl (by first | exact Or.inl rfl | exact Or.inr rfl) rfl ?_)
            | (refine am_lret rfl rfl rfl ?_)
            | (refine am_vret (x := 0) rfl rfl rfl ?_)
          all_goals (first | (exact Or.inr (Or.inl ⟨hO, by omega, rfl, rfl⟩)) | (exact Or.inr (Or.inr (Or.inl ⟨hO, by omega, by omega, rfl, rfl⟩))) | (exact Or.inr (Or.inr (Or.inr ⟨hO, by omega, by first | omega | trivial, rfl, rfl⟩))) | omega)
    · rw [if_neg h1] at hpl
      subst hpl
      rw [if_neg (by omega)] at hn
      subst hn
      by_cases h3 : v / 1000 = 0
      · rw [if_pos h3] at hnp
        subst hnp
        by_cases h4 : x = f 38 13
        · rw [if_pos h4] at hnl
          subst hnl
          repeat' first
            | (refine am_id ?_; simp (config := { decide := true }) only [am_u1_s, am_u1_j, am_u1_c, am_u3_s, am_u3_c])
            | (refine am_go rfl (by first | exact True.intro | omega | exact ⟨by decide, Nat.le_of_ble_eq_true rfl, Nat.le_of_ble_eq_true rfl⟩ | exact ⟨by decide, Nat.le_of_ble_eq_true rfl⟩) ?_)
            | ((refine am_if rfl (fun c1 => ?_) (fun c1 => ?_)) <;> first | (exfalso; omega) | refine am_id ?_)
            | (refine am_iret rfl rfl rfl ?_)
            | (refine am_zret rfl rfl (by first | exact Or.inl rfl | exact Or.inr rfl) rfl ?_)
            | (refine am_lret rfl rfl rfl ?_)
            | (refine am_vret (x := 0) rfl rfl rfl ?_)
          all_goals (first | (exact Or.inr (Or.inl ⟨hO, by omega, rfl, rfl⟩)) | (exact Or.inr (Or.inr (Or.inl ⟨hO, by omega, by omega, rfl, rfl⟩))) | (exact Or.inr (Or.inr (Or.inr ⟨hO, by omega, by first | omega | trivial, rfl, rfl⟩))) | omega)
        · rw [if_neg h4] at hnl
          subst hnl
          repeat' first
            | (refine am_id ?_; simp (config := { decide := true }) only [am_u1_s, am_u1_j, am_u1_c, am_u3_s, am_u3_c])
            | (refine am_go rfl (by first | exact True.intro | omega | exact ⟨by decide, Nat.le_of_ble_eq_true rfl, Nat.le_of_ble_eq_true rfl⟩ | exact ⟨by decide, Nat.le_of_ble_eq_true rfl⟩) ?_)
            | ((refine am_if rfl (fun c1 => ?_) (fun c1 => ?_)) <;> first | (exfalso; omega) | refine am_id ?_)
            | (refine am_iret rfl rfl rfl ?_)
            | (refine am_zret rfl rfl (by first | exact Or.inl rfl | exact Or.inr rfl) rfl ?_)
            | (refine am_lret rfl rfl rfl ?_)
            | (refine am_vret (x := 0) rfl rfl rfl ?_)
          all_goals (first | (exact Or.inr (Or.inl ⟨hO, by omega, rfl, rfl⟩)) | (exact Or.inr (Or.inr (Or.inl ⟨hO, by omega, by omega, rfl, rfl⟩))) | (exact Or.inr (Or.inr (Or.inr ⟨hO, by omega, by first | omega | trivial, rfl, rfl⟩))) | omega)
      · rw [if_neg h3] at hnp
        subst hnp
        by_cases h4 : x = f 38 13
        · rw [if_pos h4] at hnl
          subst hnl
          repeat' first
            | (refine am_id ?_; simp (config := { decide := true }) only [am_u1_s, am_u1_j, am_u1_c, am_u3_s, am_u3_c])
            | (refine am_go rfl (by first | exact True.intro | omega | exact ⟨by decide, Nat.le_of_ble_eq_true rfl, Nat.le_of_ble_eq_true rfl⟩ | exact ⟨by decide, Nat.le_of_ble_eq_true rfl⟩) ?_)
            | ((refine am_if rfl (fun c1 => ?_) (fun c1 => ?_)) <;> first | (exfalso; omega) | refine am_id ?_)
            | (refine am_iret rfl rfl rfl ?_)
            | (refine am_zret rfl rfl (by first | exact Or.inl rfl | exact Or.inr rfl) rfl ?_)
            | (refine am_lret rfl rfl rfl ?_)
            | (refine am_vret (x := 0) rfl rfl rfl ?_)
          all_goals (first | (exact Or.inr (Or.inl ⟨hO, by omega, rfl, rfl⟩)) | (exact Or.inr (Or.inr (Or.inl ⟨hO, by omega, by omega, rfl, rfl⟩))) | (exact Or.inr (Or.inr (Or.inr ⟨hO, by omega, by first | omega | trivial, rfl, rfl⟩))) | omega)
        · rw [if_neg h4] at hnl
          subst hnl
          repeat' first
            | (refine am_id ?_; simp (config := { decide := true }) only [am_u1_s, am_u1_j, am_u1_c, am_u3_s, am_u3_c])
            | (refine am_go rfl (by first | exact True.intro | omega | exact ⟨by decide, Nat.le_of_ble_eq_true rfl, Nat.le_of_ble_eq_true rfl⟩ | exact ⟨by decide, Nat.le_of_ble_eq_true rfl⟩) ?_)
            | ((refine am_if rfl (fun c1 => ?_) (fun c1 => ?_)) <;> first | (exfalso; omega) | refine am_id ?_)
            | (refine am_iret rfl rfl rfl ?_)
            | (refine am_zret rfl rfl (by first | exact Or.inl rfl | exact Or.inr rfl) rfl ?_)
            | (refine am_lret rfl rfl rfl ?_)
            | (refine am_vret (x := 0) rfl rfl rfl ?_)
          all_goals (first | (exact Or.inr (Or.inl ⟨hO, by omega, rfl, rfl⟩)) | (exact Or.inr (Or.inr (Or.inl ⟨hO, by omega, by omega, rfl, rfl⟩))) | (exact Or.inr (Or.inr (Or.inr ⟨hO, by omega, by first | omega | trivial, rfl, rfl⟩))) | omega)
  refine am_enter ok_6_word rfl (by decide) (Nat.le_of_ble_eq_true rfl) rfl ?_
  repeat' first
    | (refine key (by omega))
    | (refine am_go rfl (by first | exact True.intro | omega | exact ⟨by decide, Nat.le_of_ble_eq_true rfl, Nat.le_of_ble_eq_true rfl⟩ | exact ⟨by decide, Nat.le_of_ble_eq_true rfl⟩) ?_)
    | (refine am_if rfl (fun c1 => ?_) (fun c1 => ?_))
    | (refine am_iret rfl rfl rfl ?_)
  all_goals first | (exact Or.inl ⟨by omega, rfl, rfl⟩) | omega
set_option maxRecDepth 100000 in
set_option maxHeartbeats 4000000 in
theorem cm_can (k : Int) (hI : zI f g) (hD : zD f g) (hk : 0 ≤ k ∧ k < f 2 0) (hc : 0 ≤ g 54 k ∧ g 54 k ≤ 4) (hy : 0 ≤ g 55 k ∧ g 55 k ≤ 6) (hz : 0 ≤ g 56 k ∧ g 56 k ≤ 5) : am_Ct l dC dI tc mm6_can 1 58 [(.inr (.inr (some 38))), .inl k] (58, f, g, pr_r a b c) (fun r s => s = (58, f, g, pr_r a b c) ∧ ((r = some (.inl 1) ∧ ((g 54 k = 4 ∧ g 4 k ≠ -1) ∨ (g 54 k ≠ 4 ∧ g 54 k < zNa g (g 55 k) (g 56 k) ∧ g 15 (zAlt (g 55 k) (g 56 k) (g 54 k)) = g 3 k))) ∨ (r = some (.inl 0) ∧ ¬ ((g 54 k = 4 ∧ g 4 k ≠ -1) ∨ (g 54 k ≠ 4 ∧ g 54 k < zNa g (g 55 k) (g 56 k) ∧ g 15 (zAlt (g 55 k) (g 56 k) (g 54 k)) = g 3 k))))) := by
  have i1 := hI.1
  have i3 := hI.2.2.1
  have e1 := hD.kd k hk.1 hk.2
  have e2 := hD.ms k hk.1 hk.2
  have e3 := hD.ln
  have e4 := hD.pl (g 55 k) hy.1
  have e5 := hD.na (g 55 k) (g 56 k) hy.1
  have e6 := hD.al (g 55 k) (g 56 k) (g 54 k) hy.1
  have e7 := zNa_iff hI hy hz hc.1
  have e8 := hI.2.2.2.1 (g 55 k) hy.1
  refine am_enter ok_6_can rfl (by decide) (Nat.le_of_ble_eq_true rfl) rfl ?_
  iterate 5 (refine am_go rfl (by first | exact True.intro | omega | exact ⟨by decide, Nat.le_of_ble_eq_true rfl, Nat.le_of_ble_eq_true rfl⟩ | exact ⟨by decide, Nat.le_of_ble_eq_true rfl⟩) ?_)
  refine am_if rfl (fun c1 => ?_) (fun c1 => ?_)
  · have hneg : ¬ (g 54 k < zNa g (g 55 k) (g 56 k) ∧ g 15 (zAlt (g 55 k) (g 56 k) (g 54 k)) = g 3 k) → ¬ ((g 54 k = 4 ∧ g 4 k ≠ -1) ∨ (g 54 k ≠ 4 ∧ g 54 k < zNa g (g 55 k) (g 56 k) ∧ g 15 (zAlt (g 55 k) (g 56 k) (g 54 k)) = g 3 k)) := by
      intro u v
      rcases v with v | v
      · exact c1 v.1
      · exact u v.2
    iterate 8 (refine am_go rfl (by first | exact True.intro | omega | exact ⟨by decide, Nat.le_of_ble_eq_true rfl, Nat.le_of_ble_eq_true rfl⟩ | exact ⟨by decide, Nat.le_of_ble_eq_true rfl⟩) ?_)
    refine am_if rfl (fun c2 => ?_) (fun c2 => ?_)
    · (refine am_go rfl (by first | exact True.intro | omega | exact ⟨by decide, Nat.le_of_ble_eq_true rfl, Nat.le_of_ble_eq_true rfl⟩ | exact ⟨by decide, Nat.le_of_ble_eq_true rfl⟩) ?_)
      exact am_zret rfl rfl (Or.inl rfl) rfl ⟨rfl, Or.inr ⟨rfl, hneg (fun u => by have := e7.mp u.1; omega)⟩⟩
    · have e4 := e4 (by omega)
      iterate 8 (refine am_go rfl (by first | exact True.intro | omega | exact ⟨by decide, Nat.le_of_ble_eq_true rfl, Nat.le_of_ble_eq_true rfl⟩ | exact ⟨by decide, Nat.le_of_ble_eq_true rfl⟩) ?_)
      refine am_if rfl (fun c3 => ?_) (fun c3 => ?_)
      · (refine am_go rfl (by first | exact True.intro | omega | exact ⟨by decide, Nat.le_of_ble_eq_true rfl, Nat.le_of_ble_eq_true rfl⟩ | exact ⟨by decide, Nat.le_of_ble_eq_true rfl⟩) ?_)
        exact am_zret rfl rfl (Or.inl rfl) rfl ⟨rfl, Or.inr ⟨rfl, hneg (fun u => by have := e7.mp u.1; omega)⟩⟩
      · have e5 := e5 (by omega) hz.1 (by omega)
        have e8 := (e8 (by omega)).1
        iterate 15 (refine am_go rfl (by first | exact True.intro | omega | exact ⟨by decide, Nat.le_of_ble_eq_true rfl, Nat.le_of_ble_eq_true rfl⟩ | exact ⟨by decide, Nat.le_of_ble_eq_true rfl⟩) ?_)
        refine am_if rfl (fun c4 => ?_) (fun c4 => ?_)
        · have e6 := e6 (by omega) hz.1 (by omega) hc.1 (by omega)
          have e9 := (hI.2.2.2.2.1 (g 55 k) (g 56 k) hy.1 (by omega) hz.1 (by omega)).1
          iterate 8 (refine am_go rfl (by first | exact True.intro | omega | exact ⟨by decide, Nat.le_of_ble_eq_true rfl, Nat.le_of_ble_eq_true rfl⟩ | exact ⟨by decide, Nat.le_of_ble_eq_true rfl⟩) ?_)
          (refine am_callv rfl (cm_alternative k (g 54 k) (by omega) hy (by omega) (by omega)) (by decide) (Nat.le_of_ble_eq_true rfl) (Nat.le_of_ble_eq_true rfl) ?_)
          iterate 5 (refine am_go rfl (by first | exact True.intro | omega | exact ⟨by decide, Nat.le_of_ble_eq_true rfl, Nat.le_of_ble_eq_true rfl⟩ | exact ⟨by decide, Nat.le_of_ble_eq_true rfl⟩) ?_)
          rw [e6.1, e1]
          refine am_if rfl (fun c5 => ?_) (fun c5 => ?_)
          · (refine am_go rfl (by first | exact True.intro | omega | exact ⟨by decide, Nat.le_of_ble_eq_true rfl, Nat.le_of_ble_eq_true rfl⟩ | exact ⟨by decide, Nat.le_of_ble_eq_true rfl⟩) ?_)
            exact am_zret rfl rfl (Or.inl rfl) rfl ⟨rfl, Or.inr ⟨rfl, hneg (fun u => c5 u.2)⟩⟩
          · iterate 2 (refine am_go rfl (by first | exact True.intro | omega | exact ⟨by decide, Nat.le_of_ble_eq_true rfl, Nat.le_of_ble_eq_true rfl⟩ | exact ⟨by decide, Nat.le_of_ble_eq_true rfl⟩) ?_)
            exact am_zret rfl rfl (Or.inr rfl) rfl ⟨rfl, Or.inl ⟨rfl, Or.inr ⟨c1, e7.mpr ⟨by omega, by omega, by omega⟩, by omega⟩⟩⟩
        · (refine am_go rfl (by first | exact True.intro | omega | exact ⟨by decide, Nat.le_of_ble_eq_true rfl, Nat.le_of_ble_eq_true rfl⟩ | exact ⟨by decide, Nat.le_of_ble_eq_true rfl⟩) ?_)
          exact am_zret rfl rfl (Or.inl rfl) rfl ⟨rfl, Or.inr ⟨rfl, hneg (fun u => by have := e7.mp u.1; omega)⟩⟩
  · iterate 5 (refine am_go rfl (by first | exact True.intro | omega | exact ⟨by decide, Nat.le_of_ble_eq_true rfl, Nat.le_of_ble_eq_true rfl⟩ | exact ⟨by decide, Nat.le_of_ble_eq_true rfl⟩) ?_)
    refine am_if rfl (fun c2 => ?_) (fun c2 => ?_)
    · (refine am_go rfl (by first | exact True.intro | omega | exact ⟨by decide, Nat.le_of_ble_eq_true rfl, Nat.le_of_ble_eq_true rfl⟩ | exact ⟨by decide, Nat.le_of_ble_eq_true rfl⟩) ?_)
      exact am_zret rfl rfl (Or.inl rfl) rfl ⟨rfl, Or.inr ⟨rfl, fun u => by omega⟩⟩
    · iterate 2 (refine am_go rfl (by first | exact True.intro | omega | exact ⟨by decide, Nat.le_of_ble_eq_true rfl, Nat.le_of_ble_eq_true rfl⟩ | exact ⟨by decide, Nat.le_of_ble_eq_true rfl⟩) ?_)
      exact am_zret rfl rfl (Or.inr rfl) rfl ⟨rfl, Or.inl ⟨rfl, Or.inl ⟨by omega, by omega⟩⟩⟩
set_option maxRecDepth 100000 in
set_option maxHeartbeats 4000000 in
theorem cm_goes (k zz : Int) (hI : zI f g) (hD : zD f g) (hk : 0 ≤ k ∧ k < f 2 0) (hy : 0 ≤ g 55 k ∧ g 55 k ≤ 6) (hz : 0 ≤ g 56 k ∧ g 56 k ≤ 5) (hzz : zz = if g 54 k = 4 then g 56 k else g 56 k + 1) (hyz : 0 < zz → g 55 k < f 12 0) : am_Ct l dC dI tc mm6_goes 0 58 [(.inr (.inr (some 38))), .inl k] (58, f, g, pr_r a b c) (fun r s => (r = some (.inl 0) ∧ ¬ (g 5 k = 0 ∨ zz = 0) ∧ zz ≠ zPl g (g 55 k) ∧ s = (58, f, g, pr_r a b c)) ∨ (r = some (.inl 1) ∧ (g 5 k = 0 ∨ zz = 0) ∧ s = (58, f, am_u3 (am_u3 g 55 (k + 1) (g 55 k)) 56 (k + 1) (zz), pr_r a b c)) ∨ (r = some (.inl 1) ∧ ¬ (g 5 k = 0 ∨ zz = 0) ∧ zz = zPl g (g 55 k) ∧ s = (58, f, am_u3 (am_u3 g 55 (k + 1) (g 55 k + 1)) 56 (k + 1) (0), pr_r a b c))) := by
  have i1 := hI.1
  have i3 := hI.2.2.1
  have e1 := hD.pn
  have e2 := hD.en k hk.1 hk.2
  have e3 := (hI.2.1 k hk.1 hk.2).2.2
  have e4 : 0 < zz → g 46 (g 55 k) = zPl g (g 55 k) := fun u => by
    rw [hD.pl (g 55 k) hy.1 (hyz u)]
    unfold zPl
    rw [if_pos (by have := hyz u; omega)]
  refine am_enter ok_6_goes rfl (by decide) (Nat.le_of_ble_eq_true rfl) rfl ?_
  by_cases h4 : g 54 k = 4
  · rw [if_pos h4] at hzz
    subst hzz
    by_cases hp : 0 < g 56 k
    · have e4 := e4 hp
      have hyz := hyz hp
      repeat' first
        | (refine am_go rfl (by first | exact True.intro | omega | exact ⟨by decide, Nat.le_of_ble_eq_true rfl, Nat.le_of_ble_eq_true rfl⟩ | exact ⟨by decide, Nat.le_of_ble_eq_true rfl⟩) ?_)
        | ((refine am_if rfl (fun c1 => ?_) (fun c1 => ?_)) <;> first | (exfalso; omega) | refine am_id ?_)
        | (refine am_iret rfl rfl rfl ?_)
        | (refine am_zret rfl rfl (by first | exact Or.inl rfl | exact Or.inr rfl) rfl ?_)
        | (refine am_lret rfl rfl rfl ?_)
        | (refine am_vret (x := 0) rfl rfl rfl ?_)
      all_goals (first | (exact Or.inr (Or.inl ⟨rfl, by omega, rfl⟩)) | (exact Or.inl ⟨rfl, by omega, by omega, rfl⟩) | (exact Or.inr (Or.inr ⟨rfl, by omega, by omega, rfl⟩)) | omega)
    · clear e4
      repeat' first
        | (refine am_go rfl (by first | exact True.intro | omega | exact ⟨by decide, Nat.le_of_ble_eq_true rfl, Nat.le_of_ble_eq_true rfl⟩ | exact ⟨by decide, Nat.le_of_ble_eq_true rfl⟩) ?_)
        | ((refine am_if rfl (fun c1 => ?_) (fun c1 => ?_)) <;> first | (exfalso; omega) | refine am_id ?_)
        | (refine am_iret rfl rfl rfl ?_)
        | (refine am_zret rfl rfl (by first | exact Or.inl rfl | exact Or.inr rfl) rfl ?_)
        | (refine am_lret rfl rfl rfl ?_)
        | (refine am_vret (x := 0) rfl rfl rfl ?_)
      all_goals (first | (exact Or.inr (Or.inl ⟨rfl, by omega, rfl⟩)) | (exact Or.inl ⟨rfl, by omega, by omega, rfl⟩) | (exact Or.inr (Or.inr ⟨rfl, by omega, by omega, rfl⟩)) | omega)
  · rw [if_neg h4] at hzz
    subst hzz
    have e4 := e4 (by omega)
    have hyz := hyz (by omega)
    repeat' first
      | (refine am_go rfl (by first | exact True.intro | omega | exact ⟨by decide, Nat.le_of_ble_eq_true rfl, Nat.le_of_ble_eq_true rfl⟩ | exact ⟨by decide, Nat.le_of_ble_eq_true rfl⟩) ?_)
      | ((refine am_if rfl (fun c1 => ?_) (fun c1 => ?_)) <;> first | (exfalso; omega) | refine am_id ?_)
      | (refine am_iret rfl rfl rfl ?_)
      | (refine am_zret rfl rfl (by first | exact Or.inl rfl | exact Or.inr rfl) rfl ?_)
      | (refine am_lret rfl rfl rfl ?_)
      | (refine am_vret (x := 0) rfl rfl rfl ?_)
    all_goals (first | (exact Or.inr (Or.inl ⟨rfl, by omega, rfl⟩)) | (exact Or.inl ⟨rfl, by omega, by omega, rfl⟩) | (exact Or.inr (Or.inr ⟨rfl, by omega, by omega, rfl⟩)) | omega)
end Mod2

/-! the reference's furthest -/
def zCr (f : Nat → Nat → Int) (g : Nat → Int → Int) (N : Nat) : Nat → Int → Prop
  | 0, y => y = 0
  | r + 1, y => (zCr f g N r y ∧ zMm g r N) ∨ (y - 1 < f 12 0 ∧ zCr f g N r (y - 1) ∧ zWt g r (y - 1) N (zPl g (y - 1)))
theorem zCr_r {f : Nat → Nat → Int} {g : Nat → Int → Int} {N : Nat} (hI : zI f g) : ∀ (r : Nat) (y : Int), zCr f g N r y → 0 ≤ y ∧ y ≤ f 12 0 := by
  have i3 := hI.2.2.1
  intro r
  induction r with
  | zero =>
    intro y h
    have h : y = 0 := h
    omega
  | succ r ih =>
    rintro y (⟨h, _⟩ | ⟨h1, h, _⟩)
    · exact ih y h
    · have := ih _ h
      omega
theorem zD.rk {f : Nat → Nat → Int} {g : Nat → Int → Int} (hD : zD f g) : ∀ k : Nat, (k : Int) < f 2 0 → 0 ≤ g 41 k ∧ g 41 k ≤ k := by
  intro k
  induction k with
  | zero =>
    intro h
    have := hD.r0 (by omega)
    show 0 ≤ g 41 0 ∧ g 41 0 ≤ 0
    omega
  | succ k ih =>
    intro h
    have h1 := ih (by omega)
    have h2 := hD.rs k (by omega) (by omega)
    rw [show ((k + 1 : Nat) : Int) = (k : Int) + 1 by omega]
    omega
theorem zD.rw {f : Nat → Nat → Int} {g : Nat → Int → Int} (hI : zI f g) (hD : zD f g) (h0 : 0 < f 2 0) : 1 ≤ f 38 4 ∧ f 38 4 ≤ 9 := by
  have i1 := hI.1
  have h1 := hD.rk ((f 2 0).toNat - 1) (by omega)
  have h2 := hD.rn h0
  rw [show (((f 2 0).toNat - 1 : Nat) : Int) = f 2 0 - 1 by omega] at h1
  omega
/-- the furthest line -/
def zMo (f : Nat → Nat → Int) (g : Nat → Int → Int) (N : Nat) (L : Int) : Prop := (∃ r : Nat, (r : Int) ≤ f 38 4 ∧ zCr f g N r L) ∧ ∀ (r : Nat) (y : Int), (r : Int) ≤ f 38 4 → zCr f g N r y → y ≤ L
section Fur
variable {l : Launch} {dC : Nat → ClassId} {dI : Nat → Nat → Nat} {tc : Nat → ClassId} {f : Nat → Nat → Int} {g : Nat → Int → Int} {a b c : Nat}
set_option maxRecDepth 100000 in
set_option maxHeartbeats 4000000 in
theorem wp_fur62 {Q : Option am_V → am_H → Prop} (w u : Int) (o3 o4 o5 : Option am_V) (hI : zI f g) (hD : zD f g) (h0 : 0 < f 2 0) (hu : 0 ≤ u ∧ u < 128) (hub : ∀ y, 0 ≤ y → y < 8 → (zBit u y ↔ ∃ r : Nat, (r : Int) ≤ f 38 4 ∧ zCr f g (f 2 0).toNat r y))
    (K : ∀ L, zMo f g (f 2 0).toNat L → Q (some (.inl L)) (58, f, g, pr_r a b c)) : am_wp l dC dI tc mm6_furthest 1 58 58 Q 62 [some (.inr (.inr (some 38))), some (.inl w), some (.inl u), o3, o4, o5] [] (58, f, g, pr_r a b c) := by
  have i3 := hI.2.2.1
  have e13 := hD.ln
  have hrw := hD.rw hI h0
  have loop : ∀ (m k : Nat) (t : Int), (k : Int) + m = f 12 0 + 1 → 1 ≤ k → (0 ≤ t ∧ t < (k : Int)) → (∃ r : Nat, (r : Int) ≤ f 38 4 ∧ zCr f g (f 2 0).toNat r t) → (∀ (r : Nat) (y : Int), (r : Int) ≤ f 38 4 → zCr f g (f 2 0).toNat r y → y < (k : Int) → y ≤ t) → am_wp l dC dI tc mm6_furthest 1 58 58 Q 66 [some (.inr (.inr (some 38))), some (.inl w), some (.inl u), some (.inl t), some (.inl (k : Int)), o5] [] (58, f, g, pr_r a b c) := by
    intro m
    induction m with
    | zero =>
      intro k t hk h1 ht he ha
      iterate 3 (refine am_go rfl (by first | exact True.intro | omega | exact ⟨by decide, Nat.le_of_ble_eq_true rfl, Nat.le_of_ble_eq_true rfl⟩ | exact ⟨by decide, Nat.le_of_ble_eq_true rfl⟩) ?_)
      refine am_if rfl (fun c1 => ?_) (fun c1 => by omega)
      (refine am_go rfl (by first | exact True.intro | omega | exact ⟨by decide, Nat.le_of_ble_eq_true rfl, Nat.le_of_ble_eq_true rfl⟩ | exact ⟨by decide, Nat.le_of_ble_eq_true rfl⟩) ?_)
      refine am_iret rfl rfl rfl (K t ⟨he, fun r y hr hy => ha r y hr hy ?_⟩)
      have := zCr_r hI r y hy
      omega
    | succ m ih =>
      intro k t hk h1 ht he ha
      iterate 3 (refine am_go rfl (by first | exact True.intro | omega | exact ⟨by decide, Nat.le_of_ble_eq_true rfl, Nat.le_of_ble_eq_true rfl⟩ | exact ⟨by decide, Nat.le_of_ble_eq_true rfl⟩) ?_)
      refine am_if rfl (fun c1 => by omega) (fun c1 => ?_)
      iterate 6 (refine am_go rfl (by first | exact True.intro | omega | exact ⟨by decide, Nat.le_of_ble_eq_true rfl, Nat.le_of_ble_eq_true rfl⟩ | exact ⟨by decide, Nat.le_of_ble_eq_true rfl⟩) ?_)
      have hb := hub k (by omega) (by omega)
      refine am_if rfl (fun c2 => ?_) (fun c2 => ?_)
      · iterate 4 (refine am_go rfl (by first | exact True.intro | omega | exact ⟨by decide, Nat.le_of_ble_eq_true rfl, Nat.le_of_ble_eq_true rfl⟩ | exact ⟨by decide, Nat.le_of_ble_eq_true rfl⟩) ?_)
        refine ih (k + 1) t (by omega) (by omega) (by omega) he (fun r y hr hy hl => ?_)
        by_cases c : y = (k : Int)
        · rw [c] at hy
          exact absurd (hb.mpr ⟨r, hr, hy⟩) c2
        · exact ha r y hr hy (by omega)
      · iterate 5 (refine am_go rfl (by first | exact True.intro | omega | exact ⟨by decide, Nat.le_of_ble_eq_true rfl, Nat.le_of_ble_eq_true rfl⟩ | exact ⟨by decide, Nat.le_of_ble_eq_true rfl⟩) ?_)
        exact ih (k + 1) k (by omega) (by omega) (by omega) (hb.mp (Classical.byContradiction c2)) (fun r y hr hy hl => by omega)
  iterate 4 (refine am_go rfl (by first | exact True.intro | omega | exact ⟨by decide, Nat.le_of_ble_eq_true rfl, Nat.le_of_ble_eq_true rfl⟩ | exact ⟨by decide, Nat.le_of_ble_eq_true rfl⟩) ?_)
  exact loop (f 12 0).toNat 1 0 (by omega) (by omega) (by omega) ⟨0, by omega, rfl⟩ (fun r y hr hy hl => by omega)
set_option maxRecDepth 100000 in
set_option maxHeartbeats 4000000 in
theorem wp_fur14 {Q : Option am_V → am_H → Prop} (hI : zI f g) (hD : zD f g) (h0 : 0 < f 2 0) (K : ∀ L, zMo f g (f 2 0).toNat L → Q (some (.inl L)) (58, f, g, pr_r a b c)) : ∀ (m r : Nat) (w u : Int) (o4 o5 : Option am_V), (r : Int) + m = f 38 4 → (0 ≤ w ∧ w < 128) → (∀ y, 0 ≤ y → y < 8 → (zBit w y ↔ zCr f g (f 2 0).toNat r y)) → (0 ≤ u ∧ u < 128) → (∀ y, 0 ≤ y → y < 8 → (zBit u y ↔ ∃ r' : Nat, r' ≤ r ∧ zCr f g (f 2 0).toNat r' y)) → am_wp l dC dI tc mm6_furthest 1 58 58 (Q) 14 [some (.inr (.inr (some 38))), some (.inl w), some (.inl u), some (.inl (r : Int)), o4, o5] [] (58, f, g, pr_r a b c) := by
  have i3 := hI.2.2.1
  have e13 := hD.ln
  have hrw := hD.rw hI h0
  intro m
  induction m with
  | zero =>
    intro r w u o4 o5 hr hw hwb hu hub
    iterate 3 (refine am_go rfl (by first | exact True.intro | omega | exact ⟨by decide, Nat.le_of_ble_eq_true rfl, Nat.le_of_ble_eq_true rfl⟩ | exact ⟨by decide, Nat.le_of_ble_eq_true rfl⟩) ?_)
    refine am_if rfl (fun c1 => ?_) (fun c1 => by omega)
    refine wp_fur62 w u _ o4 o5 hI hD h0 hu (fun y y1 y2 => (hub y y1 y2).trans ⟨fun ⟨r', a1, a2⟩ => ⟨r', by omega, a2⟩, fun ⟨r', a1, a2⟩ => ⟨r', by omega, a2⟩⟩) K
  | succ m ih =>
    intro r w u o4 o5 hr hw hwb hu hub
    have lloop : ∀ (n k : Nat) (v : Int), (k : Int) + n = f 12 0 → (0 ≤ v ∧ v < 128) → (∀ y, 0 ≤ y → y < 8 → (zBit v y ↔ (zCr f g (f 2 0).toNat r y ∧ zMm g r (f 2 0).toNat) ∨ (y - 1 < (k : Int) ∧ zCr f g (f 2 0).toNat r (y - 1) ∧ zWt g r (y - 1) (f 2 0).toNat (zPl g (y - 1))))) → am_wp l dC dI tc mm6_furthest 1 58 58 (Q) 28 [some (.inr (.inr (some 38))), some (.inl w), some (.inl u), some (.inl (r : Int)), some (.inl v), some (.inl (k : Int))] [] (58, f, g, pr_r a b c) := by
      intro n
      induction n with
      | zero =>
        intro k v hk hv hvb
        iterate 3 (refine am_go rfl (by first | exact True.intro | omega | exact ⟨by decide, Nat.le_of_ble_eq_true rfl, Nat.le_of_ble_eq_true rfl⟩ | exact ⟨by decide, Nat.le_of_ble_eq_true rfl⟩) ?_)
        refine am_if rfl (fun c1 => ?_) (fun c1 => by omega)
        iterate 8 (refine am_go rfl (by first | exact True.intro | omega | exact ⟨by decide, Nat.le_of_ble_eq_true rfl, Nat.le_of_ble_eq_true rfl⟩ | exact ⟨by decide, Nat.le_of_ble_eq_true rfl⟩) ?_)
        have hor := zBit_or hu hv
        have hvb' : ∀ y, 0 ≤ y → y < 8 → (zBit v y ↔ zCr f g (f 2 0).toNat (r + 1) y) := fun y y1 y2 => by
          rw [hvb y y1 y2, show (k : Int) = f 12 0 by omega]
          rfl
        refine ih (r + 1) v _ _ _ (by omega) hv hvb' hor.1 (fun y y1 y2 => ?_)
        rw [hor.2 y y1 y2, hub y y1 y2, hvb' y y1 y2]
        constructor
        · rintro (⟨r', a1, a2⟩ | a)
          · exact ⟨r', by omega, a2⟩
          · exact ⟨r + 1, by omega, a⟩
        · rintro ⟨r', a1, a2⟩
          by_cases c : r' = r + 1
          · rw [c] at a2
            exact Or.inr a2
          · exact Or.inl ⟨r', by omega, a2⟩
      | succ n ihn =>
        intro k v hk hv hvb
        have hb := hwb k (by omega) (by omega)
        have stay : ¬ (zCr f g (f 2 0).toNat r k ∧ zWt g r k (f 2 0).toNat (zPl g k)) → ∀ y, 0 ≤ y → y < 8 → (zBit v y ↔ (zCr f g (f 2 0).toNat r y ∧ zMm g r (f 2 0).toNat) ∨ (y - 1 < ((k + 1 : Nat) : Int) ∧ zCr f g (f 2 0).toNat r (y - 1) ∧ zWt g r (y - 1) (f 2 0).toNat (zPl g (y - 1)))) := by
          intro hno y y1 y2
          rw [hvb y y1 y2]
          refine or_congr Iff.rfl ⟨fun a => ⟨by omega, a.2⟩, fun a => ⟨?_, a.2⟩⟩
          by_cases c : y - 1 = (k : Int)
          · rw [c] at a
            exact absurd a.2 hno
          · have := a.1
            omega
        iterate 3 (refine am_go rfl (by first | exact True.intro | omega | exact ⟨by decide, Nat.le_of_ble_eq_true rfl, Nat.le_of_ble_eq_true rfl⟩ | exact ⟨by decide, Nat.le_of_ble_eq_true rfl⟩) ?_)
        refine am_if rfl (fun c1 => by omega) (fun c1 => ?_)
        iterate 6 (refine am_go rfl (by first | exact True.intro | omega | exact ⟨by decide, Nat.le_of_ble_eq_true rfl, Nat.le_of_ble_eq_true rfl⟩ | exact ⟨by decide, Nat.le_of_ble_eq_true rfl⟩) ?_)
        refine am_if rfl (fun c2 => ?_) (fun c2 => ?_)
        · iterate 4 (refine am_go rfl (by first | exact True.intro | omega | exact ⟨by decide, Nat.le_of_ble_eq_true rfl, Nat.le_of_ble_eq_true rfl⟩ | exact ⟨by decide, Nat.le_of_ble_eq_true rfl⟩) ?_)
          exact ihn (k + 1) v (by omega) hv (stay (fun a => c2 (hb.mpr a.1)))
        · have c2 : zCr f g (f 2 0).toNat r k := hb.mp (Classical.byContradiction c2)
          iterate 3 (refine am_go rfl (by first | exact True.intro | omega | exact ⟨by decide, Nat.le_of_ble_eq_true rfl, Nat.le_of_ble_eq_true rfl⟩ | exact ⟨by decide, Nat.le_of_ble_eq_true rfl⟩) ?_)
          refine am_call rfl (cm_takes (r : Int) (k : Int) hI hD (by omega)) (by decide) (Nat.le_of_ble_eq_true rfl) (Nat.le_of_ble_eq_true rfl) (Nat.le_of_ble_eq_true rfl) (fun rv s q => ?_)
          obtain ⟨rfl, ⟨rfl, q⟩ | ⟨rfl, q⟩⟩ := q
          · refine am_if rfl (fun c3 => by omega) (fun c3 => ?_)
            iterate 9 (refine am_go rfl (by first | exact True.intro | omega | exact ⟨by decide, Nat.le_of_ble_eq_true rfl, Nat.le_of_ble_eq_true rfl⟩ | exact ⟨by decide, Nat.le_of_ble_eq_true rfl⟩) ?_)
            have hsh := zBit_sh (p := (k : Int)) (by omega)
            have hor := zBit_or hv hsh.1
            refine ihn (k + 1) _ (by omega) hor.1 (fun y y1 y2 => ?_)
            rw [hor.2 y y1 y2, hvb y y1 y2, hsh.2 y y1 y2]
            constructor
            · rintro ((a | a) | a)
              · exact Or.inl a
              · exact Or.inr ⟨by omega, a.2⟩
              · rw [a, show (k : Int) + 1 - 1 = k by omega]
                exact Or.inr ⟨by omega, c2, q⟩
            · rintro (a | a)
              · exact Or.inl (Or.inl a)
              · by_cases c : y = (k : Int) + 1
                · exact Or.inr c
                · exact Or.inl (Or.inr ⟨by omega, a.2⟩)
          · refine am_if rfl (fun c3 => ?_) (fun c3 => by omega)
            iterate 4 (refine am_go rfl (by first | exact True.intro | omega | exact ⟨by decide, Nat.le_of_ble_eq_true rfl, Nat.le_of_ble_eq_true rfl⟩ | exact ⟨by decide, Nat.le_of_ble_eq_true rfl⟩) ?_)
            exact ihn (k + 1) v (by omega) hv (stay (fun a => q a.2))
    have start : ∀ v : Int, (0 ≤ v ∧ v < 128) → (∀ y, 0 ≤ y → y < 8 → (zBit v y ↔ zCr f g (f 2 0).toNat r y ∧ zMm g r (f 2 0).toNat)) → am_wp l dC dI tc mm6_furthest 1 58 58 Q 25 [some (.inr (.inr (some 38))), some (.inl w), some (.inl u), some (.inl (r : Int)), o4, o5] [.inl v] (58, f, g, pr_r a b c) := by
      intro v hv hvb
      iterate 3 (refine am_go rfl (by first | exact True.intro | omega | exact ⟨by decide, Nat.le_of_ble_eq_true rfl, Nat.le_of_ble_eq_true rfl⟩ | exact ⟨by decide, Nat.le_of_ble_eq_true rfl⟩) ?_)
      refine lloop (f 12 0).toNat 0 v (by omega) hv (fun y y1 y2 => ?_)
      rw [hvb y y1 y2]
      refine ⟨Or.inl, fun a => a.elim id (fun a => ?_)⟩
      have := zCr_r hI r _ a.2.1
      have := a.1
      omega
    iterate 3 (refine am_go rfl (by first | exact True.intro | omega | exact ⟨by decide, Nat.le_of_ble_eq_true rfl, Nat.le_of_ble_eq_true rfl⟩ | exact ⟨by decide, Nat.le_of_ble_eq_true rfl⟩) ?_)
    refine am_if rfl (fun c1 => by omega) (fun c1 => ?_)
    iterate 2 (refine am_go rfl (by first | exact True.intro | omega | exact ⟨by decide, Nat.le_of_ble_eq_true rfl, Nat.le_of_ble_eq_true rfl⟩ | exact ⟨by decide, Nat.le_of_ble_eq_true rfl⟩) ?_)
    refine am_call rfl (cm_mayMiss (r : Int) hI hD) (by decide) (Nat.le_of_ble_eq_true rfl) (Nat.le_of_ble_eq_true rfl) (Nat.le_of_ble_eq_true rfl) (fun rv s q => ?_)
    obtain ⟨rfl, ⟨rfl, q⟩ | ⟨rfl, q⟩⟩ := q
    · refine am_if rfl (fun c3 => by omega) (fun c3 => ?_)
      iterate 2 (refine am_go rfl (by first | exact True.intro | omega | exact ⟨by decide, Nat.le_of_ble_eq_true rfl, Nat.le_of_ble_eq_true rfl⟩ | exact ⟨by decide, Nat.le_of_ble_eq_true rfl⟩) ?_)
      exact start w hw (fun y y1 y2 => ⟨fun a => ⟨(hwb y y1 y2).mp a, q⟩, fun a => (hwb y y1 y2).mpr a.1⟩)
    · refine am_if rfl (fun c3 => ?_) (fun c3 => by omega)
      (refine am_go rfl (by first | exact True.intro | omega | exact ⟨by decide, Nat.le_of_ble_eq_true rfl, Nat.le_of_ble_eq_true rfl⟩ | exact ⟨by decide, Nat.le_of_ble_eq_true rfl⟩) ?_)
      exact start 0 (by omega) (fun y y1 y2 => ⟨fun a => absurd a (zBit_0 ⟨y1, y2⟩), fun a => absurd a.2 q⟩)
theorem zMo_z {f : Nat → Nat → Int} {g : Nat → Int → Int} (L v : Int) (h : zMo (am_u1 f 38 0 v) g ((am_u1 f 38 0 v) 2 0).toNat L) : zMo f g (f 2 0).toNat L := by
  have e20 : (am_u1 f 38 0 v) 2 0 = f 2 0 := am_u1_c (by decide)
  have e12 : (am_u1 f 38 0 v) 12 0 = f 12 0 := am_u1_c (by decide)
  have e4 : (am_u1 f 38 0 v) 38 4 = f 38 4 := am_u1_j (by decide)
  have hc : ∀ (N : Nat) (r : Nat) (y : Int), zCr (am_u1 f 38 0 v) g N r y ↔ zCr f g N r y := by
    intro N r
    induction r with
    | zero => intro y; exact Iff.rfl
    | succ r ih =>
      intro y
      simp only [zCr, ih, e12]
  unfold zMo at h ⊢
  simp only [hc, e20, e4] at h
  exact h
set_option maxRecDepth 100000 in
set_option maxHeartbeats 4000000 in
theorem cm_furthest (hI : zI f g) (hD : zD f g) : am_Ct l dC dI tc mm6_furthest 1 58 [(.inr (.inr (some 38)))] (58, f, g, pr_r a b c) (fun r s => s = (58, am_u1 f 38 0 0, g, pr_r a b c) ∧ ((f 2 0 = 0 ∧ r = some (.inl (-1))) ∨ (0 < f 2 0 ∧ ∃ L, r = some (.inl L) ∧ zMo f g (f 2 0).toNat L))) := by
  have i1 := hI.1
  have e5 := hD.pn
  refine am_enter ok_6_furthest rfl (by decide) (Nat.le_of_ble_eq_true rfl) rfl ?_
  have hd := (zFrM.z f g 0).d
  have hI1 := hd.I hI
  have hD1 := hd.D hD
  have e20 : (am_u1 f 38 0 0) 2 0 = f 2 0 := am_u1_c (by decide)
  have hrw : 0 < f 2 0 → 1 ≤ (am_u1 f 38 0 0) 38 4 ∧ (am_u1 f 38 0 0) 38 4 ≤ 9 := fun u => hD1.rw hI1 (by rw [e20]; exact u)
  iterate 5 (refine am_go rfl (by first | exact True.intro | omega | exact ⟨by decide, Nat.le_of_ble_eq_true rfl, Nat.le_of_ble_eq_true rfl⟩ | exact ⟨by decide, Nat.le_of_ble_eq_true rfl⟩) ?_)
  rw [show (am_u1 f 38 0 0) 38 5 = f 2 0 by rw [am_u1_j (by decide)]; exact e5]
  refine am_if rfl (fun c1 => ?_) (fun c1 => ?_)
  · have h0 : 0 < f 2 0 := by omega
    have hrw := hrw h0
    iterate 6 (refine am_go rfl (by first | exact True.intro | omega | exact ⟨by decide, Nat.le_of_ble_eq_true rfl, Nat.le_of_ble_eq_true rfl⟩ | exact ⟨by decide, Nat.le_of_ble_eq_true rfl⟩) ?_)
    refine wp_fur14 hI1 hD1 (by rw [e20]; exact h0) (fun L hL => ⟨rfl, Or.inr ⟨h0, L, rfl, zMo_z L 0 hL⟩⟩) ((am_u1 f 38 0 0) 38 4).toNat 0 1 1 none none (by omega) (by omega) (fun y y1 y2 => zBit_1 ⟨y1, y2⟩) (by omega) (fun y y1 y2 => ?_)
    rw [zBit_1 ⟨y1, y2⟩]
    constructor
    · intro a
      exact ⟨0, by omega, a⟩
    · rintro ⟨r', a1, a2⟩
      obtain rfl : r' = 0 := by omega
      exact a2
  · (refine am_go rfl (by first | exact True.intro | omega | exact ⟨by decide, Nat.le_of_ble_eq_true rfl, Nat.le_of_ble_eq_true rfl⟩ | exact ⟨by decide, Nat.le_of_ble_eq_true rfl⟩) ?_)
    exact am_iret rfl rfl rfl ⟨rfl, Or.inl ⟨by omega, rfl⟩⟩
end Fur

/-! the reference looks for its two readings -/
def zLk (f : Nat → Nat → Int) (g : Nat → Int → Int) (cs : Nat → Int) (m : Nat) (T : List (Int × List Int)) (F : Nat → Nat → Int) (G : Nat → Int → Int) : Prop :=
  zFrO F f G g ∧ (F 38 21 = f 38 21 ∧ G 55 0 = 0 ∧ G 56 0 = 0) ∧ mHo F G (f 2 0).toNat T ∧ zTw (f 2 0).toNat (zDn f g (f 2 0).toNat cs m) T ∧ (∀ k : Nat, k < m → G 54 k = cs k ∧ G 55 k = (zPa g cs k).1 ∧ G 56 k = (zPa g cs k).2.1) ∧ (∀ k : Nat, k + 1 < m → zVl f g cs k ∧ zGo g cs k) ∧ ∀ k : Nat, k + 1 = m → zBd f g cs k
theorem zL54 {A : Prop} {G : Nat → Int → Int} {i v : Int} (h : A ∧ G 55 0 = 0 ∧ G 56 0 = 0) : A ∧ am_u3 G 54 i v 55 0 = 0 ∧ am_u3 G 54 i v 56 0 = 0 := ⟨h.1, by rw [am_u3_c (by decide)]; exact h.2.1, by rw [am_u3_c (by decide)]; exact h.2.2⟩
def zAt (cs : Nat → Int) (k : Nat) (x : Int) : Nat → Int := fun i => if i = k then x else cs i
theorem zAt_s (cs : Nat → Int) (k : Nat) (x : Int) : zAt cs k x k = x := if_pos rfl
theorem zAt_n {cs : Nat → Int} {k i : Nat} {x : Int} (h : i ≠ k) : zAt cs k x i = cs i := if_neg h
theorem zFrO.g1 {F f : Nat → Nat → Int} {G g : Nat → Int → Int} (h : zFrO F f G g) {c : Nat} (hc : 52 ≤ c ∧ c ≤ 56) (i v : Int) : zFrO F f (am_u3 G c i v) g := ⟨h.1, fun x j hx => by rw [am_u3_c (by omega)]; exact h.2 x j hx⟩
theorem mHo_u {F : Nat → Nat → Int} {G : Nat → Int → Int} {N : Nat} {T : List (Int × List Int)} (h : mHo F G N T) {c : Nat} (hc : c ≠ 52 ∧ c ≠ 53) (i v : Int) : mHo F (am_u3 G c i v) N T := by
  have hr : ∀ r e, mRd G N r e → mRd (am_u3 G c i v) N r e := fun r e u => mRd_k u (am_u3_c (Ne.symm hc.2)) (fun k hk => am_u3_c (Ne.symm hc.1))
  match T, h with
  | [], h => exact h
  | [x], h => exact ⟨h.1, hr _ _ h.2⟩
  | [x, y], h => exact ⟨h.1, hr _ _ h.2.1, hr _ _ h.2.2⟩
section Look2
variable {l : Launch} {dC : Nat → ClassId} {dI : Nat → Nat → Nat} {tc : Nat → ClassId} {f : Nat → Nat → Int} {g : Nat → Int → Int} {a b c : Nat}
set_option maxRecDepth 100000 in
set_option maxHeartbeats 4000000 in
theorem wp_lk0 {Q : Option am_V → am_H → Prop} (hI : zI f g) (k : Nat) (hk : k + 1 ≤ (f 2 0).toNat) (cs : Nat → Int) (T : List (Int × List Int)) (F : Nat → Nat → Int) (G : Nat → Int → Int) (hL : zLk f g cs (k + 1) T F G) (hc : cs k = 4)
    (K : ∀ (G' : Nat → Int → Int), zLk f g cs k T F G' → am_wp l dC dI tc mm6_look 4 58 58 Q 32 [some (.inr (.inr (some 38))), some (.inl ((k : Int) + -1))] [] (58, F, G', pr_r a b c)) : am_wp l dC dI tc mm6_look 4 58 58 Q 32 [some (.inr (.inr (some 38))), some (.inl (k))] [] (58, F, G, pr_r a b c) := by
  have i1 := hI.1
  obtain ⟨h1, h21, h2, h3, h4, h5, h6⟩ := hL
  have h54 := (h4 k (by omega)).1
  (refine am_go rfl (by first | exact True.intro | omega | exact ⟨by decide, Nat.le_of_ble_eq_true rfl, Nat.le_of_ble_eq_true rfl⟩ | exact ⟨by decide, Nat.le_of_ble_eq_true rfl⟩) ?_)
  refine am_if rfl (fun c1 => by omega) (fun c1 => ?_)
  iterate 13 (refine am_go rfl (by first | exact True.intro | omega | exact ⟨by decide, Nat.le_of_ble_eq_true rfl, Nat.le_of_ble_eq_true rfl⟩ | exact ⟨by decide, Nat.le_of_ble_eq_true rfl⟩) ?_)
  rw [am_u3_s]
  refine am_if rfl (fun c1 => by omega) (fun c1 => ?_)
  iterate 2 (refine am_go rfl (by first | exact True.intro | omega | exact ⟨by decide, Nat.le_of_ble_eq_true rfl, Nat.le_of_ble_eq_true rfl⟩ | exact ⟨by decide, Nat.le_of_ble_eq_true rfl⟩) ?_)
  refine K _ ⟨h1.g1 (by decide) _ _, zL54 h21, mHo_u h2 (by decide) _ _, zTw_c (fun e => zDn_up hc (by omega)) h3, fun j hj => ?_, fun j hj => h5 j (by omega), fun j hj => ?_⟩
  · rw [am_u3_j (by omega), am_u3_c (by decide), am_u3_c (by decide)]
    exact h4 j (by omega)
  · exact (zVl_can.mp (h5 j (by omega)).1).2.1
set_option maxRecDepth 100000 in
set_option maxHeartbeats 4000000 in
theorem wp_lk1 {Q : Option am_V → am_H → Prop} (hI : zI f g) (hD : zD f g) (k : Nat) (hk : k + 1 ≤ (f 2 0).toNat) (r : Nat) (hr : r ≤ 4) (cs : Nat → Int) (T : List (Int × List Int)) (F : Nat → Nat → Int) (G : Nat → Int → Int) (hL : zLk f g cs (k + 1) T F G) (hc : cs k = 4 - ((r + 1 : Nat) : Int))
    (K1 : ∀ (T' : List (Int × List Int)) (F' : Nat → Nat → Int) (G' : Nat → Int → Int), zLk f g (zAt cs k (4 - r)) (k + 1) T' F' G' → am_wp l dC dI tc mm6_look 4 58 58 Q 32 [some (.inr (.inr (some 38))), some (.inl (k))] [] (58, F', G', pr_r a b c))
    (K2 : k + 1 < (f 2 0).toNat → ∀ (G' : Nat → Int → Int), zLk f g (zAt (zAt cs k (4 - r)) (k + 1) (-1)) (k + 1 + 1) T F G' → am_wp l dC dI tc mm6_look 4 58 58 Q 32 [some (.inr (.inr (some 38))), some (.inl (((k + 1 : Nat) : Int)))] [] (58, F, G', pr_r a b c)) : am_wp l dC dI tc mm6_look 4 58 58 Q 32 [some (.inr (.inr (some 38))), some (.inl (k))] [] (58, F, G, pr_r a b c) := by
  have i1 := hI.1
  have i3 := hI.2.2.1
  have hL0 := hL
  obtain ⟨h1, h21, h2, h3, h4, h5, h6⟩ := hL
  have h54 := (h4 k (by omega)).1
  obtain ⟨cs1, hcs1⟩ : ∃ cs1, cs1 = zAt cs k (4 - r) := ⟨_, rfl⟩
  rw [← hcs1] at K1 K2
  have c1k : cs1 k = 4 - r := by rw [hcs1, zAt_s]
  have c1n : ∀ i : Nat, i < k → cs1 i = cs i := fun i hi => by rw [hcs1, zAt_n (by omega)]
  have hpa : zPa g cs1 k = zPa g cs k := zPa_congr c1n
  have hbd : zBd f g cs1 k := by
    have := h6 k rfl
    unfold zBd at this ⊢
    rw [hpa]
    exact this
  have hfr : zFrO F f (am_u3 G 54 (k : Int) (4 - r)) g := h1.g1 (by decide) _ _
  have hI1 := hfr.d.I hI
  have hD1 := hfr.d.D hD
  have e20 : F 2 0 = f 2 0 := hfr.d.1 2 0 (by unfold zDf; omega)
  have e12 : F 12 0 = f 12 0 := hfr.d.1 12 0 (by unfold zDf; omega)
  have e5 : F 38 5 = f 2 0 := by rw [hD1.pn, e20]
  have e13 : F 38 13 = f 12 0 := by rw [hD1.ln, e12]
  have q54 : am_u3 G 54 (k : Int) (4 - r) 54 k = cs1 k := by rw [am_u3_s, c1k]
  have q55 : am_u3 G 54 (k : Int) (4 - r) 55 k = (zPa g cs1 k).1 := by rw [am_u3_c (by decide), hpa]; exact (h4 k (by omega)).2.1
  have q56 : am_u3 G 54 (k : Int) (4 - r) 56 k = (zPa g cs1 k).2.1 := by rw [am_u3_c (by decide), hpa]; exact (h4 k (by omega)).2.2
  have hpl5 := zPl_r hI (zPa g cs1 k).1
  have hbd1 := hbd.1
  have hbd2 := hbd.2
  have hfail : (zVl f g cs1 k ∧ zGo g cs1 k → False) → am_wp l dC dI tc mm6_look 4 58 58 Q 32 [some (.inr (.inr (some 38))), some (.inl (k))] [] (58, F, (am_u3 G 54 (k : Int) (4 - r)), pr_r a b c) := by
    intro hno
    refine K1 T F _ ⟨hfr, zL54 h21, mHo_u h2 (by decide) _ _, zTw_c (fun e => zDn_inc c1n (by omega) (fun hv hq => ?_)) h3, fun j hj => ?_, fun j hj => ?_, fun j hj => ?_⟩
    · have := hv.2.1 k (by omega)
      rw [zVl_congr hq, zGo_congr hq] at this
      exact hno this
    · by_cases c : j = k
      · rw [c]
        exact ⟨q54, q55, q56⟩
      · rw [am_u3_j (by omega), am_u3_c (by decide), am_u3_c (by decide), c1n j (by omega), zPa_congr (fun i hi => c1n i (by omega))]
        exact h4 j (by omega)
    · rw [zVl_congr (fun i hi => c1n i (by omega)), zGo_congr (fun i hi => c1n i (by omega))]
      exact h5 j (by omega)
    · obtain rfl : j = k := by omega
      exact hbd
  (refine am_go rfl (by first | exact True.intro | omega | exact ⟨by decide, Nat.le_of_ble_eq_true rfl, Nat.le_of_ble_eq_true rfl⟩ | exact ⟨by decide, Nat.le_of_ble_eq_true rfl⟩) ?_)
  refine am_if rfl (fun c1 => by omega) (fun c1 => ?_)
  iterate 8 (refine am_go rfl (by first | exact True.intro | omega | exact ⟨by decide, Nat.le_of_ble_eq_true rfl, Nat.le_of_ble_eq_true rfl⟩ | exact ⟨by decide, Nat.le_of_ble_eq_true rfl⟩) ?_)
  rw [show G 54 (k : Int) + 1 = 4 - r by omega]
  iterate 5 (refine am_go rfl (by first | exact True.intro | omega | exact ⟨by decide, Nat.le_of_ble_eq_true rfl, Nat.le_of_ble_eq_true rfl⟩ | exact ⟨by decide, Nat.le_of_ble_eq_true rfl⟩) ?_)
  rw [am_u3_s]
  refine am_if rfl (fun c1 => ?_) (fun c1 => by omega)
  iterate 2 (refine am_go rfl (by first | exact True.intro | omega | exact ⟨by decide, Nat.le_of_ble_eq_true rfl, Nat.le_of_ble_eq_true rfl⟩ | exact ⟨by decide, Nat.le_of_ble_eq_true rfl⟩) ?_)
  refine am_call rfl (cm_can (k : Int) hI1 hD1 (by omega) (by rw [q54]; omega) (by rw [q55]; omega) (by rw [q56]; omega)) (by decide) (Nat.le_of_ble_eq_true rfl) (Nat.le_of_ble_eq_true rfl) (Nat.le_of_ble_eq_true rfl) (fun rv s q => ?_)
  rw [q54, q55, q56, hfr.d.na1, hfr.d.2 4 _ (by unfold zDg; omega), hfr.d.2 15 _ (by unfold zDg; omega), hfr.d.2 3 _ (by unfold zDg; omega)] at q
  obtain ⟨rfl, q⟩ := q
  rcases q with ⟨rfl, qc⟩ | ⟨rfl, qc⟩
  · have hvl : zVl f g cs1 k := zVl_can.mpr ⟨by omega, hbd, qc⟩
    have hzz := zZz_r hI hvl
    refine am_if rfl (fun c1 => by omega) (fun c1 => ?_)
    iterate 2 (refine am_go rfl (by first | exact True.intro | omega | exact ⟨by decide, Nat.le_of_ble_eq_true rfl, Nat.le_of_ble_eq_true rfl⟩ | exact ⟨by decide, Nat.le_of_ble_eq_true rfl⟩) ?_)
    refine am_call rfl (cm_goes (k : Int) (zZz g cs1 k) hI1 hD1 (by omega) (by rw [q55]; omega) (by rw [q56]; omega) (by rw [q54, q56]; rfl) (by rw [q55, e12]; exact hzz.2.2)) (by decide) (Nat.le_of_ble_eq_true rfl) (Nat.le_of_ble_eq_true rfl) (Nat.le_of_ble_eq_true rfl) (fun rv s q => ?_)
    rw [q55, hfr.d.pl, hfr.d.2 5 _ (by unfold zDg; omega)] at q
    have go : zGo g cs1 k → ∀ G2, G2 = am_u3 (am_u3 (am_u3 G 54 (k : Int) (4 - r)) 55 ((k : Int) + 1) (zPa g cs1 (k + 1)).1) 56 ((k : Int) + 1) (zPa g cs1 (k + 1)).2.1 → am_wp l dC dI tc mm6_look 4 58 58 Q 58 [some (.inr (.inr (some 38))), some (.inl (k : Int))] [] (58, F, G2, pr_r a b c) := by
      intro hgo G2 hG2
      have hfr2 : zFrO F f G2 g := by rw [hG2]; exact (hfr.g1 (by decide) _ _).g1 (by decide) _ _
      have hch : ∀ j : Nat, j < k + 1 → G2 54 j = cs1 j ∧ G2 55 j = (zPa g cs1 j).1 ∧ G2 56 j = (zPa g cs1 j).2.1 := by
        intro j hj
        have a54 : G2 54 j = am_u3 G 54 (k : Int) (4 - r) 54 j := by rw [hG2, am_u3_c (by decide), am_u3_c (by decide)]
        have a55 : G2 55 j = am_u3 G 54 (k : Int) (4 - r) 55 j := by rw [hG2, am_u3_c (by decide), am_u3_j (by omega)]
        have a56 : G2 56 j = am_u3 G 54 (k : Int) (4 - r) 56 j := by rw [hG2, am_u3_j (by omega), am_u3_c (by decide)]
        rw [a54, a55, a56]
        by_cases c : j = k
        · rw [c]
          exact ⟨q54, q55, q56⟩
        · rw [am_u3_j (by omega), am_u3_c (by decide), am_u3_c (by decide), c1n j (by omega), zPa_congr (fun i hi => c1n i (by omega))]
          exact h4 j (by omega)
      have hvg : ∀ j : Nat, j < k + 1 → zVl f g cs1 j ∧ zGo g cs1 j := by
        intro j hj
        by_cases c : j = k
        · rw [c]
          exact ⟨hvl, hgo⟩
        · rw [zVl_congr (fun i hi => c1n i (by omega)), zGo_congr (fun i hi => c1n i (by omega))]
          exact h5 j (by omega)
      have hho : mHo F G2 (f 2 0).toNat T := by rw [hG2]; exact mHo_u (mHo_u (mHo_u h2 (by decide) _ _) (by decide) _ _) (by decide) _ _
      have hb1 := zBd_s hI hvl hgo
      have h21g : F 38 21 = f 38 21 ∧ G2 55 0 = 0 ∧ G2 56 0 = 0 := ⟨h21.1, by rw [hG2, am_u3_c (by decide), am_u3_j (by omega)]; exact (zL54 h21).2.1, by rw [hG2, am_u3_j (by omega), am_u3_c (by decide)]; exact (zL54 h21).2.2⟩
      iterate 5 (refine am_go rfl (by first | exact True.intro | omega | exact ⟨by decide, Nat.le_of_ble_eq_true rfl, Nat.le_of_ble_eq_true rfl⟩ | exact ⟨by decide, Nat.le_of_ble_eq_true rfl⟩) ?_)
      refine am_if rfl (fun c1 => ?_) (fun c1 => ?_)
      · have hkN : (f 2 0).toNat = k + 1 := by omega
        iterate 5 (refine am_go rfl (by first | exact True.intro | omega | exact ⟨by decide, Nat.le_of_ble_eq_true rfl, Nat.le_of_ble_eq_true rfl⟩ | exact ⟨by decide, Nat.le_of_ble_eq_true rfl⟩) ?_)
        rw [e5, show f 2 0 = (k : Int) + 1 by omega]
        have h55 : G2 55 ((k : Int) + 1) = (zPa g cs1 (k + 1)).1 := by rw [hG2, am_u3_c (by decide), am_u3_s]
        rw [h55]
        iterate 2 (refine am_go rfl (by first | exact True.intro | omega | exact ⟨by decide, Nat.le_of_ble_eq_true rfl, Nat.le_of_ble_eq_true rfl⟩ | exact ⟨by decide, Nat.le_of_ble_eq_true rfl⟩) ?_)
        rw [e13]
        refine am_if rfl (fun c2 => ?_) (fun c2 => ?_)
        · refine K1 T F _ ⟨hfr2, h21g, hho, zTw_c (fun e => zDn_inc c1n (by omega) (fun hv hq => ?_)) h3, hch, fun j hj => hvg j (by omega), fun j hj => ?_⟩
          · have := hv.2.2.1
            rw [hkN, zPa_congr hq] at this
            exact c2 this
          · obtain rfl : j = k := by omega
            exact hbd
        · have hend : (zPa g cs1 (f 2 0).toNat).1 = f 12 0 := by rw [hkN]; omega
          have hxv := zDn_x (N := (f 2 0).toNat) (f := f) (g := g) (cs := cs1) (fun j hj => hvg j (by omega)) hend
          (refine am_go rfl (by first | exact True.intro | omega | exact ⟨by decide, Nat.le_of_ble_eq_true rfl, Nat.le_of_ble_eq_true rfl⟩ | exact ⟨by decide, Nat.le_of_ble_eq_true rfl⟩) ?_)
          refine am_call rfl (cm_keeps (cs := cs1) (T := T) (hfr2.d.I hI) (hfr2.d.D hD) (fun j hj => by rw [hfr2.d.pa]; exact hch j (by omega)) (fun j hj => by rw [hfr2.d.vl]; exact (hvg j (by omega)).1) (by rw [e20]; exact hho) (zTw_o h3)) (by decide) (Nat.le_of_ble_eq_true rfl) (Nat.le_of_ble_eq_true rfl) (Nat.le_of_ble_eq_true rfl) (fun rv s q => ?_)
          obtain ⟨rfl, F', G', rfl, k1, k2⟩ := q
          rw [e20, hfr2.d.tt] at k2
          (refine am_go rfl (by first | exact True.intro | omega | exact ⟨by decide, Nat.le_of_ble_eq_true rfl, Nat.le_of_ble_eq_true rfl⟩ | exact ⟨by decide, Nat.le_of_ble_eq_true rfl⟩) ?_)
          refine K1 _ F' G' ⟨(zFrO.k k1).tr hfr2, ⟨by rw [k1.1 38 21 (Or.inr (by decide))]; exact h21.1, by rw [k1.2 55 _ (by decide)]; exact h21g.2.1, by rw [k1.2 56 _ (by decide)]; exact h21g.2.2⟩, k2, zTw_c (fun e => (zDn_keep c1n (by omega) hkN.symm hxv).1) (zTw_l h3 (fun e he => (zDn_keep c1n (by omega) hkN.symm hxv).2 he)), fun j hj => ?_, fun j hj => hvg j (by omega), fun j hj => ?_⟩
          · rw [k1.2 54 _ (by decide), k1.2 55 _ (by decide), k1.2 56 _ (by decide)]
            exact hch j hj
          · obtain rfl : j = k := by omega
            exact hbd
      · iterate 7 (refine am_go rfl (by first | exact True.intro | omega | exact ⟨by decide, Nat.le_of_ble_eq_true rfl, Nat.le_of_ble_eq_true rfl⟩ | exact ⟨by decide, Nat.le_of_ble_eq_true rfl⟩) ?_)
        have d1 : ∀ i : Nat, i < k + 1 → zAt cs1 (k + 1) (-1) i = cs1 i := fun i hi => zAt_n (by omega)
        refine K2 (by omega) (am_u3 G2 54 ((k : Int) + 1) (-1)) ⟨hfr2.g1 (by decide) _ _, zL54 h21g, mHo_u hho (by decide) _ _, zTw_c (fun e => zDn_down (fun i hi => by rw [d1 i (by omega)]; exact c1n i hi) (by rw [d1 k (by omega)]; omega) (zAt_s _ _ _) (by omega)) h3, fun j hj => ?_, fun j hj => ?_, fun j hj => ?_⟩
        · by_cases c : j = k + 1
          · subst c
            rw [zAt_s, zPa_congr d1, show (((k + 1 : Nat)) : Int) = (k : Int) + 1 by omega]
            refine ⟨am_u3_s, ?_, ?_⟩
            · rw [am_u3_c (by decide), hG2, am_u3_c (by decide), am_u3_s]
            · rw [am_u3_c (by decide), hG2, am_u3_s]
          · rw [am_u3_j (by omega), am_u3_c (by decide), am_u3_c (by decide), d1 j (by omega), zPa_congr (fun i hi => d1 i (by omega))]
            exact hch j (by omega)
        · rw [zVl_congr (fun i hi => d1 i (by omega)), zGo_congr (fun i hi => d1 i (by omega))]
          exact hvg j (by omega)
        · obtain rfl : j = k + 1 := by omega
          unfold zBd
          rw [zPa_congr d1]
          exact hb1
    have hps := zPa_s g cs1 k
    rcases q with ⟨rfl, q1, q2, rfl⟩ | ⟨rfl, q1, rfl⟩ | ⟨rfl, q1, q2, rfl⟩
    · refine am_if rfl (fun c1 => ?_) (fun c1 => by omega)
      refine hfail (fun u => ?_)
      have := u.2
      unfold zGo at this
      omega
    · refine am_if rfl (fun c1 => by omega) (fun c1 => ?_)
      have hgo : zGo g cs1 k := by unfold zGo; omega
      rcases hps with ⟨w1, w2, w3⟩ | ⟨w1, w2, w3⟩
      · exact go hgo _ (by rw [w2, w3])
      · omega
    · refine am_if rfl (fun c1 => by omega) (fun c1 => ?_)
      have hgo : zGo g cs1 k := by unfold zGo; omega
      rcases hps with ⟨w1, w2, w3⟩ | ⟨w1, w2, w3⟩
      · omega
      · exact go hgo _ (by rw [w2, w3])
  · refine am_if rfl (fun c1 => ?_) (fun c1 => by omega)
    exact hfail (fun u => qc (zVl_can.mp u.1).2.2)
set_option maxRecDepth 100000 in
set_option maxHeartbeats 4000000 in
theorem wp_level {Q : Option am_V → am_H → Prop} (hI : zI f g) (hD : zD f g) : ∀ (n k : Nat), k + 1 + n = (f 2 0).toNat → ∀ (r : Nat), r ≤ 5 → ∀ (cs : Nat → Int) (T : List (Int × List Int)) (F : Nat → Nat → Int) (G : Nat → Int → Int), zLk f g cs (k + 1) T F G → cs k = 4 - r →
    (∀ (cs' : Nat → Int) (T' : List (Int × List Int)) (F' : Nat → Nat → Int) (G' : Nat → Int → Int), zLk f g cs' k T' F' G' → (∀ i : Nat, i < k → cs' i = cs i) → am_wp l dC dI tc mm6_look 4 58 58 Q 32 [some (.inr (.inr (some 38))), some (.inl ((k : Int) + -1))] [] (58, F', G', pr_r a b c)) → am_wp l dC dI tc mm6_look 4 58 58 Q 32 [some (.inr (.inr (some 38))), some (.inl (k))] [] (58, F, G, pr_r a b c) := by
  intro n
  induction n with
  | zero =>
    intro k hk r
    induction r with
    | zero =>
      intro hr cs T F G hL hc K
      exact wp_lk0 hI k (by omega) cs T F G hL (by omega) (fun G' h => K cs T F G' h (fun _ _ => rfl))
    | succ r ihr =>
      intro hr cs T F G hL hc K
      exact wp_lk1 hI hD k (by omega) r (by omega) cs T F G hL hc (fun T' F' G' h => ihr (by omega) _ T' F' G' h (zAt_s _ _ _) (fun cs' T'' F'' G'' h' hh => K cs' T'' F'' G'' h' (fun i hi => (hh i hi).trans (zAt_n (by omega))))) (fun hlt => by omega)
  | succ n ihn =>
    intro k hk r
    induction r with
    | zero =>
      intro hr cs T F G hL hc K
      exact wp_lk0 hI k (by omega) cs T F G hL (by omega) (fun G' h => K cs T F G' h (fun _ _ => rfl))
    | succ r ihr =>
      intro hr cs T F G hL hc K
      refine wp_lk1 hI hD k (by omega) r (by omega) cs T F G hL hc (fun T' F' G' h => ihr (by omega) _ T' F' G' h (zAt_s _ _ _) (fun cs' T'' F'' G'' h' hh => K cs' T'' F'' G'' h' (fun i hi => (hh i hi).trans (zAt_n (by omega))))) (fun hlt G' h => ?_)
      refine ihn (k + 1) (by omega) 5 (by omega) _ T F G' h (by rw [zAt_s]; rfl) (fun cs' T' F' G'' h' hh => ?_)
      rw [show ((k + 1 : Nat) : Int) + -1 = (k : Int) by omega]
      have e0 : cs' k = 4 - (r : Int) := by rw [hh k (by omega), zAt_n (by omega), zAt_s]
      refine ihr (by omega) cs' T' F' G'' h' e0 (fun cs'' T'' F'' G3 h'' hh' => K cs'' T'' F'' G3 h'' (fun i hi => ?_))
      rw [hh' i hi, hh i (by omega), zAt_n (by omega), zAt_n (by omega)]
/-- what the reference knows, if it says that it knows -/
def mRes (f : Nat → Nat → Int) (g : Nat → Int → Int) (T : List (Int × List Int)) : Prop := (g 55 0 = 0 ∧ g 56 0 = 0) ∧ mHo f g (f 2 0).toNat T ∧ (0 < f 2 0 → zTw (f 2 0).toNat (zVd f g (f 2 0).toNat) T) ∧ (f 2 0 = 0 → T = [])
def mSS (f : Nat → Nat → Int) (g : Nat → Int → Int) : Prop := f 38 21 = 0 ∨ (f 38 21 = 1 ∧ ∃ T, mRes f g T)
theorem zFrO.res {F f : Nat → Nat → Int} {G g : Nat → Int → Int} (h : zFrO F f G g) {T : List (Int × List Int)} (h0 : G 55 0 = 0 ∧ G 56 0 = 0) (h1 : mHo F G (f 2 0).toNat T) (h2 : 0 < f 2 0 → zTw (f 2 0).toNat (zVd f g (f 2 0).toNat) T) (h3 : f 2 0 = 0 → T = []) : mRes F G T := by
  have e20 : F 2 0 = f 2 0 := h.d.1 2 0 (by unfold zDf; omega)
  unfold mRes
  rw [e20]
  exact ⟨h0, h1, fun u => zTw_c (fun e => (h.d.vd _ e).symm) (h2 u), h3⟩
set_option maxRecDepth 100000 in
set_option maxHeartbeats 4000000 in
theorem cm_look (hI : zI f g) (hD : zD f g) (hS : mSS f g) : am_Ct l dC dI tc mm6_look 4 58 [(.inr (.inr (some 38)))] (58, f, g, pr_r a b c) (fun r s => r = none ∧ ∃ F G T, s = (58, F, G, pr_r a b c) ∧ zFrO F f G g ∧ F 38 21 = 1 ∧ mRes F G T) := by
  have i1 := hI.1
  have e5 := hD.pn
  refine am_enter ok_6_look rfl (by decide) (Nat.le_of_ble_eq_true rfl) rfl ?_
  rcases hS with hS | ⟨hS, T, hT⟩
  · iterate 2 (refine am_go rfl (by first | exact True.intro | omega | exact ⟨by decide, Nat.le_of_ble_eq_true rfl, Nat.le_of_ble_eq_true rfl⟩ | exact ⟨by decide, Nat.le_of_ble_eq_true rfl⟩) ?_)
    refine am_if rfl (fun c1 => ?_) (fun c1 => by omega)
    iterate 6 (refine am_go rfl (by first | exact True.intro | omega | exact ⟨by decide, Nat.le_of_ble_eq_true rfl, Nat.le_of_ble_eq_true rfl⟩ | exact ⟨by decide, Nat.le_of_ble_eq_true rfl⟩) ?_)
    have hfr : zFrO (am_u1 (am_u1 f 38 21 1) 38 22 0) f g g := ⟨fun x j hx => by rw [am_u1_ne (by omega), am_u1_ne (by omega)], fun _ _ _ => rfl⟩
    have e20 : (am_u1 (am_u1 f 38 21 1) 38 22 0) 2 0 = f 2 0 := by rw [am_u1_c (by decide), am_u1_c (by decide)]
    have e38 : (am_u1 (am_u1 f 38 21 1) 38 22 0) 38 5 = f 2 0 := by rw [am_u1_j (by decide), am_u1_j (by decide)]; exact e5
    have e21 : (am_u1 (am_u1 f 38 21 1) 38 22 0) 38 21 = 1 := by rw [am_u1_j (by decide), am_u1_s]
    have e22 : (am_u1 (am_u1 f 38 21 1) 38 22 0) 38 22 = 0 := am_u1_s
    revert hfr e20 e38 e21 e22
    generalize am_u1 (am_u1 f 38 21 1) 38 22 0 = F
    intro hfr e20 e38 e21 e22
    have hI1 := hfr.d.I hI
    have hD1 := hfr.d.D hD
    iterate 2 (refine am_go rfl (by first | exact True.intro | omega | exact ⟨by decide, Nat.le_of_ble_eq_true rfl, Nat.le_of_ble_eq_true rfl⟩ | exact ⟨by decide, Nat.le_of_ble_eq_true rfl⟩) ?_)
    rw [e38]
    refine am_if rfl (fun c1 => ?_) (fun c1 => ?_)
    · iterate 18 (refine am_go rfl (by first | exact True.intro | omega | exact ⟨by decide, Nat.le_of_ble_eq_true rfl, Nat.le_of_ble_eq_true rfl⟩ | exact ⟨by decide, Nat.le_of_ble_eq_true rfl⟩) ?_)
      refine am_if rfl (fun c2 => ?_) (fun c2 => by omega)
      refine am_vret (x := 0) rfl rfl rfl ?_
      have hz0 : am_u3 (am_u3 (am_u3 g 54 0 (-1)) 55 0 0) 56 0 0 55 0 = 0 ∧ am_u3 (am_u3 (am_u3 g 54 0 (-1)) 55 0 0) 56 0 0 56 0 = 0 := ⟨by rw [am_u3_c (by decide), am_u3_s], am_u3_s⟩
      have hf : zFrO F f (am_u3 (am_u3 (am_u3 g 54 0 (-1)) 55 0 0) 56 0 0) g := ((hfr.g1 (by decide) _ _).g1 (by decide) _ _).g1 (by decide) _ _
      exact ⟨rfl, _, _, [], rfl, hf, e21, hf.res hz0 e22 (fun u => by omega) (fun _ => rfl)⟩
    · iterate 18 (refine am_go rfl (by first | exact True.intro | omega | exact ⟨by decide, Nat.le_of_ble_eq_true rfl, Nat.le_of_ble_eq_true rfl⟩ | exact ⟨by decide, Nat.le_of_ble_eq_true rfl⟩) ?_)
      have hf : zFrO (f := F) F (am_u3 (am_u3 (am_u3 g 54 0 (-1)) 55 0 0) 56 0 0) g := ((zFrO.g1 ⟨fun _ _ _ => rfl, fun _ _ _ => rfl⟩ (by decide) _ _).g1 (by decide) _ _).g1 (by decide) _ _
      have hff : zFrO F f g g := hfr
      have := wp_level (l := l) (dC := dC) (dI := dI) (tc := tc) (a := a) (b := b) (c := c) (Q := fun r s => r = none ∧ ∃ F G T, s = (58, F, G, pr_r a b c) ∧ zFrO F f G g ∧ F 38 21 = 1 ∧ mRes F G T) hI1 hD1 ((F 2 0).toNat - 1) 0 (by omega) 5 (by omega) (fun _ => -1) [] F (am_u3 (am_u3 (am_u3 g 54 0 (-1)) 55 0 0) 56 0 0) ?_ rfl ?_
      · exact this
      · refine ⟨hf, ⟨rfl, by rw [am_u3_c (by decide), am_u3_s], am_u3_s⟩, e22, ?_, fun k hk => ?_, fun k hk => by omega, fun k hk => ?_⟩
        · rintro e ⟨hv, ⟨j, j1, j2, j3⟩ | h⟩
          · have := hv.r (i := j) (by omega)
            have j3 : zCs e j < -1 := j3
            omega
          · have := hv.r (i := 0) (by omega)
            have h0 : zCs e 0 = -1 := h 0 (by omega)
            omega
        · obtain rfl : k = 0 := by omega
          refine ⟨?_, ?_, ?_⟩
          · rw [am_u3_c (by decide), am_u3_c (by decide)]
            exact am_u3_s
          · rw [am_u3_c (by decide)]
            exact am_u3_s
          · exact am_u3_s
        · obtain rfl : k = 0 := by omega
          exact zBd_0 hI1 _
      · intro cs' T' F' G' h' _
        obtain ⟨k1, k21, k2, k3, k4, k5, k6⟩ := h'
        (refine am_go rfl (by first | exact True.intro | omega | exact ⟨by decide, Nat.le_of_ble_eq_true rfl, Nat.le_of_ble_eq_true rfl⟩ | exact ⟨by decide, Nat.le_of_ble_eq_true rfl⟩) ?_)
        refine am_if rfl (fun c2 => ?_) (fun c2 => by omega)
        refine am_vret (x := 0) rfl rfl rfl ⟨rfl, F', G', T', rfl, k1.tr hff, by rw [k21.1]; exact e21, k1.res k21.2 k2 (fun _ => ?_) (fun u => by omega)⟩
        exact zTw_c (fun e => ⟨fun u => u.1, fun u => ⟨u, Or.inr (fun i hi => by omega)⟩⟩) k3
  · iterate 2 (refine am_go rfl (by first | exact True.intro | omega | exact ⟨by decide, Nat.le_of_ble_eq_true rfl, Nat.le_of_ble_eq_true rfl⟩ | exact ⟨by decide, Nat.le_of_ble_eq_true rfl⟩) ?_)
    refine am_if rfl (fun c1 => by omega) (fun c1 => ?_)
    exact am_vret (x := 0) rfl rfl rfl ⟨rfl, f, g, T, rfl, ⟨fun _ _ _ => rfl, fun _ _ _ => rfl⟩, hS, hT⟩
end Look2

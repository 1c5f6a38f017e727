/-! the class prints -/
section Prn2
variable {l : Launch} {dC : Nat → ClassId} {dI : Nat → Nat → Nat} {tc : Nat → ClassId} {f : Nat → Nat → Int} {g : Nat → Int → Int} {a b c : Nat}
set_option maxRecDepth 100000 in
set_option maxHeartbeats 4000000 in
theorem wp_cprint23 {Q : Option am_V → am_H → Prop} (x : Int) {e : Int × List Int} (hI : zI f g) (hD : zD f g) (hH : zHd g (f 2 0).toNat f g 23 e) (hV : ∀ j : Nat, j < (f 2 0).toNat → zVl f g (zCs e) j ∧ zGo g (zCs e) j) (h0 : 0 < f 2 0)
    (K : ∀ F G, zFrT 0 9 37 F f G g → zPg (F 0 9) (G 37) (zPt g (zCs e) (f 2 0).toNat) → Q (some (.inl (F 0 9))) (58, F, G, pr_r a b c)) : ∀ (m i k : Nat) (F : Nat → Nat → Int) (G : Nat → Int → Int), (i : Int) + m = f 23 0 → k ≤ (f 2 0).toNat → (zPa g (zCs e) k).2.2 = i → (k < (f 2 0).toNat → zCs e k ≠ 4) → zFrT 0 9 37 F f G g → zPg (F 0 9) (G 37) (zPt g (zCs e) k) → am_wp l dC dI tc mm0_print 6 58 58 (Q) 14 [some (.inr (.inr (some 0))), some (.inl x), some (.inr (.inr (some 23))), some (.inl (i : Int))] [] (58, F, G, pr_r a b c) := by
  have i1 := hI.1
  have i3 := hI.2.2.1
  have hsz := hH.2.2.1
  have hpN := zPa_n g (zCs e) (f 2 0).toNat
  intro m
  induction m with
  | zero =>
    intro i k F G hi hk hc hn h1 h2
    have fq : F 23 0 = f 23 0 := h1.1 23 0 (by decide)
    have hkN : k = (f 2 0).toNat := by
      refine Classical.byContradiction (fun u => ?_)
      have h3 := zPa_c g (zCs e) k
      rw [if_neg (hn (by omega))] at h3
      have h4 := zPa_m g (zCs e) (k + 1) ((f 2 0).toNat - (k + 1))
      rw [show k + 1 + ((f 2 0).toNat - (k + 1)) = (f 2 0).toNat by omega] at h4
      omega
    iterate 3 (refine am_go rfl (by first | exact True.intro | omega | exact ⟨by decide, Nat.le_of_ble_eq_true rfl, Nat.le_of_ble_eq_true rfl⟩ | exact ⟨by decide, Nat.le_of_ble_eq_true rfl⟩) ?_)
    refine am_if rfl (fun c1 => ?_) (fun c1 => by omega)
    iterate 2 (refine am_go rfl (by first | exact True.intro | omega | exact ⟨by decide, Nat.le_of_ble_eq_true rfl, Nat.le_of_ble_eq_true rfl⟩ | exact ⟨by decide, Nat.le_of_ble_eq_true rfl⟩) ?_)
    rw [hkN] at h2
    exact am_iret rfl rfl rfl (K F G h1 h2)
  | succ m ih =>
    intro i k F G hi hk hc hn h1 h2
    have fq : F 23 0 = f 23 0 := h1.1 23 0 (by decide)
    have hkN : k < (f 2 0).toNat := by
      refine Classical.byContradiction (fun u => ?_)
      rw [show k = (f 2 0).toNat by omega] at hc
      omega
    have hc4 := hn hkN
    obtain ⟨t1, t2, t3, t4, -⟩ := hH.2.2.2.2 k hkN hc4
    rw [hc] at t1 t2 t3 t4
    have gq : ∀ j, G (23 + 2) j = g (23 + 2) j := fun j => h1.2 _ j (by decide)
    have w0 : G (23 + 2) ((i : Int) * 5 + 0) = g 3 k := by rw [gq, Int.add_zero]; exact t1
    have w1 : G (23 + 2) ((i : Int) * 5 + 1) = (zPa g (zCs e) k).1 := by rw [gq]; exact t2
    have w3 : G (23 + 2) ((i : Int) * 5 + 3) = zAv g (zCs e) k := by rw [gq]; exact t4
    have hv := (hV k hkN).1
    have i2 := hI.2.1 k (by omega) (by omega)
    have hav := (zVl_at hI hD hv hc4).2.2.2.2.1
    have hav2 : 0 ≤ zAv g (zCs e) k ∧ zAv g (zCs e) k ≤ 999 := hav
    have v2 := hv.2.1
    have v3 := hv.2.2.1
    obtain ⟨d, d1, d2, d3⟩ := zNext (cs := zCs e) (N := (f 2 0).toNat) ((f 2 0).toNat - (k + 1)) k (by omega)
    have hcn := zPa_d (g := g) hc4 d d2
    have hnx := zPt_next (f := f) (g := g) v3.1 hc4 d d2
    have hlen := zPt_l (f := f) (g := g) (cs := zCs e) (k + 1 + d)
    have hbd : (zPa g (zCs e) (k + 1 + d)).1 ≤ f 12 0 := by
      have := zBd_s hI (hV (k + d) (by omega)).1 (hV (k + d) (by omega)).2
      rw [show k + d + 1 = k + 1 + d by omega] at this
      exact this.1.2
    have hl42 : (zPt g (zCs e) k ++ zDig (g 3 k) (zAv g (zCs e) k)).length ≤ 42 := by
      have hpn := zPa_n g (zCs e) (k + 1 + d)
      rcases hnx with ⟨a1, a2, a3⟩ | ⟨a1, a2, a3⟩
      · rw [← a3]
        omega
      · have := congrArg List.length a3
        simp only [List.length_append] at this ⊢
        omega
    iterate 3 (refine am_go rfl (by first | exact True.intro | omega | exact ⟨by decide, Nat.le_of_ble_eq_true rfl, Nat.le_of_ble_eq_true rfl⟩ | exact ⟨by decide, Nat.le_of_ble_eq_true rfl⟩) ?_)
    refine am_if rfl (fun c1 => by omega) (fun c1 => ?_)
    iterate 4 (refine am_go rfl (by first | exact True.intro | omega | exact ⟨by decide, Nat.le_of_ble_eq_true rfl, Nat.le_of_ble_eq_true rfl⟩ | exact ⟨by decide, Nat.le_of_ble_eq_true rfl⟩) ?_)
    (refine am_callv rfl (ct_fact 23 (by decide) (i : Int) 0 (by omega)) (by decide) (Nat.le_of_ble_eq_true rfl) (Nat.le_of_ble_eq_true rfl) ?_)
    rw [if_pos (by omega), w0]
    iterate 3 (refine am_go rfl (by first | exact True.intro | omega | exact ⟨by decide, Nat.le_of_ble_eq_true rfl, Nat.le_of_ble_eq_true rfl⟩ | exact ⟨by decide, Nat.le_of_ble_eq_true rfl⟩) ?_)
    (refine am_callv rfl (ct_fact 23 (by decide) (i : Int) 3 (by omega)) (by decide) (Nat.le_of_ble_eq_true rfl) (Nat.le_of_ble_eq_true rfl) ?_)
    rw [if_pos (by omega), w3]
    refine am_call rfl (ct_putPart (g 3 k) (zAv g (zCs e) k) (by omega) hav2 h2 hl42) (by decide) (Nat.le_of_ble_eq_true rfl) (Nat.le_of_ble_eq_true rfl) (Nat.le_of_ble_eq_true rfl) (fun rv s q => ?_)
    obtain ⟨rfl, F2, G2, rfl, p1, p2⟩ := q
    have h1' := p1.tr h1
    have fq2 : F2 23 0 = f 23 0 := h1'.1 23 0 (by decide)
    have gq2 : ∀ j, G2 (23 + 2) j = G (23 + 2) j := fun j => p1.2 _ j (by decide)
    iterate 3 (refine am_go rfl (by first | exact True.intro | omega | exact ⟨by decide, Nat.le_of_ble_eq_true rfl, Nat.le_of_ble_eq_true rfl⟩ | exact ⟨by decide, Nat.le_of_ble_eq_true rfl⟩) ?_)
    (refine am_callv rfl (ct_fact 23 (by decide) (i : Int) 1 (by omega)) (by decide) (Nat.le_of_ble_eq_true rfl) (Nat.le_of_ble_eq_true rfl) ?_)
    rw [if_pos (by omega), gq2, w1]
    iterate 5 (refine am_go rfl (by first | exact True.intro | omega | exact ⟨by decide, Nat.le_of_ble_eq_true rfl, Nat.le_of_ble_eq_true rfl⟩ | exact ⟨by decide, Nat.le_of_ble_eq_true rfl⟩) ?_)
    (refine am_callv rfl (ct_fact 23 (by decide) ((i : Int) + 1) 1 (by omega)) (by decide) (Nat.le_of_ble_eq_true rfl) (Nat.le_of_ble_eq_true rfl) ?_)
    have fin : ∀ (F3 : Nat → Nat → Int) (G3 : Nat → Int → Int), zFrT 0 9 37 F3 f G3 g → zPg (F3 0 9) (G3 37) (zPt g (zCs e) (k + 1 + d)) → am_wp l dC dI tc mm0_print 6 58 58 (Q) 42 [some (.inr (.inr (some 0))), some (.inl x), some (.inr (.inr (some 23))), some (.inl (i : Int))] [] (58, F3, G3, pr_r a b c) := by
      intro F3 G3 u1 u2
      iterate 2 (refine am_go rfl (by first | exact True.intro | omega | exact ⟨by decide, Nat.le_of_ble_eq_true rfl, Nat.le_of_ble_eq_true rfl⟩ | exact ⟨by decide, Nat.le_of_ble_eq_true rfl⟩) ?_)
      exact ih (i + 1) (k + 1 + d) F3 G3 (by omega) d1 (by omega) d3 u1 u2
    have semi : zPt g (zCs e) (k + 1 + d) = zPt g (zCs e) k ++ (zDig (g 3 k) (zAv g (zCs e) k) ++ [59]) → am_wp l dC dI tc mm0_print 6 58 58 Q 39 [some (.inr (.inr (some 0))), some (.inl x), some (.inr (.inr (some 23))), some (.inl (i : Int))] [] (58, F2, G2, pr_r a b c) := by
      intro hsem
      have := congrArg List.length hsem
      simp only [List.length_append, List.length_singleton] at this
      have hpn := zPa_n g (zCs e) (k + 1 + d)
      iterate 2 (refine am_go rfl (by first | exact True.intro | omega | exact ⟨by decide, Nat.le_of_ble_eq_true rfl, Nat.le_of_ble_eq_true rfl⟩ | exact ⟨by decide, Nat.le_of_ble_eq_true rfl⟩) ?_)
      refine am_call rfl (ct_put1 59 (by decide) p2 (by simp only [List.length_append]; omega)) (by decide) (Nat.le_of_ble_eq_true rfl) (Nat.le_of_ble_eq_true rfl) (Nat.le_of_ble_eq_true rfl) (fun rv s q => ?_)
      obtain ⟨rfl, F3, G3, rfl, p3, p4⟩ := q
      refine fin F3 G3 (p3.tr h1') ?_
      rw [hsem, ← List.append_assoc]
      exact p4
    by_cases cl : (i : Int) + 1 < f 23 0
    · have hk' : k + 1 + d < (f 2 0).toNat := by
        refine Classical.byContradiction (fun u => ?_)
        rw [show k + 1 + d = (f 2 0).toNat by omega] at hcn
        omega
      obtain ⟨-, s2, -⟩ := hH.2.2.2.2 (k + 1 + d) hk' (d3 hk')
      rw [hcn, hc] at s2
      rw [if_pos (by omega), gq2, gq, s2]
      rcases hnx with ⟨a1, a2, a3⟩ | ⟨a1, a2, a3⟩
      · refine am_if rfl (fun c2 => ?_) (fun c2 => by omega)
        refine fin F2 G2 h1' ?_
        rw [a3]
        exact p2
      · refine am_if rfl (fun c2 => by omega) (fun c2 => ?_)
        exact semi a3
    · rw [if_neg (by omega)]
      have hk' : k + 1 + d = (f 2 0).toNat := by
        refine Classical.byContradiction (fun u => ?_)
        have h3 := zPa_c g (zCs e) (k + 1 + d)
        rw [if_neg (d3 (by omega))] at h3
        have h4 := zPa_m g (zCs e) (k + 1 + d + 1) ((f 2 0).toNat - (k + 1 + d + 1))
        rw [show k + 1 + d + 1 + ((f 2 0).toNat - (k + 1 + d + 1)) = (f 2 0).toNat by omega] at h4
        omega
      refine am_if rfl (fun c2 => by omega) (fun c2 => ?_)
      rcases hnx with ⟨a1, a2, a3⟩ | ⟨a1, a2, a3⟩
      · exfalso
        have hen := hD.en (k + d : Nat) (by omega) (by omega)
        have h5 := zPa_s g (zCs e) (k + d)
        rw [show k + d + 1 = k + 1 + d by omega] at h5
        omega
      · exact semi a3
set_option maxRecDepth 100000 in
set_option maxHeartbeats 4000000 in
theorem wp_cprint26 {Q : Option am_V → am_H → Prop} (x : Int) {e : Int × List Int} (hI : zI f g) (hD : zD f g) (hH : zHd g (f 2 0).toNat f g 26 e) (hV : ∀ j : Nat, j < (f 2 0).toNat → zVl f g (zCs e) j ∧ zGo g (zCs e) j) (h0 : 0 < f 2 0)
    (K : ∀ F G, zFrT 0 9 37 F f G g → zPg (F 0 9) (G 37) (zPt g (zCs e) (f 2 0).toNat) → Q (some (.inl (F 0 9))) (58, F, G, pr_r a b c)) : ∀ (m i k : Nat) (F : Nat → Nat → Int) (G : Nat → Int → Int), (i : Int) + m = f 26 0 → k ≤ (f 2 0).toNat → (zPa g (zCs e) k).2.2 = i → (k < (f 2 0).toNat → zCs e k ≠ 4) → zFrT 0 9 37 F f G g → zPg (F 0 9) (G 37) (zPt g (zCs e) k) → am_wp l dC dI tc mm0_print 6 58 58 (Q) 14 [some (.inr (.inr (some 0))), some (.inl x), some (.inr (.inr (some 26))), some (.inl (i : Int))] [] (58, F, G, pr_r a b c) := by
  have i1 := hI.1
  have i3 := hI.2.2.1
  have hsz := hH.2.2.1
  have hpN := zPa_n g (zCs e) (f 2 0).toNat
  intro m
  induction m with
  | zero =>
    intro i k F G hi hk hc hn h1 h2
    have fq : F 26 0 = f 26 0 := h1.1 26 0 (by decide)
    have hkN : k = (f 2 0).toNat := by
      refine Classical.byContradiction (fun u => ?_)
      have h3 := zPa_c g (zCs e) k
      rw [if_neg (hn (by omega))] at h3
      have h4 := zPa_m g (zCs e) (k + 1) ((f 2 0).toNat - (k + 1))
      rw [show k + 1 + ((f 2 0).toNat - (k + 1)) = (f 2 0).toNat by omega] at h4
      omega
    iterate 3 (refine am_go rfl (by first | exact True.intro | omega | exact ⟨by decide, Nat.le_of_ble_eq_true rfl, Nat.le_of_ble_eq_true rfl⟩ | exact ⟨by decide, Nat.le_of_ble_eq_true rfl⟩) ?_)
    refine am_if rfl (fun c1 => ?_) (fun c1 => by omega)
    iterate 2 (refine am_go rfl (by first | exact True.intro | omega | exact ⟨by decide, Nat.le_of_ble_eq_true rfl, Nat.le_of_ble_eq_true rfl⟩ | exact ⟨by decide, Nat.le_of_ble_eq_true rfl⟩) ?_)
    rw [hkN] at h2
    exact am_iret rfl rfl rfl (K F G h1 h2)
  | succ m ih =>
    intro i k F G hi hk hc hn h1 h2
    have fq : F 26 0 = f 26 0 := h1.1 26 0 (by decide)
    have hkN : k < (f 2 0).toNat := by
      refine Classical.byContradiction (fun u => ?_)
      rw [show k = (f 2 0).toNat by omega] at hc
      omega
    have hc4 := hn hkN
    obtain ⟨t1, t2, t3, t4, -⟩ := hH.2.2.2.2 k hkN hc4
    rw [hc] at t1 t2 t3 t4
    have gq : ∀ j, G (26 + 2) j = g (26 + 2) j := fun j => h1.2 _ j (by decide)
    have w0 : G (26 + 2) ((i : Int) * 5 + 0) = g 3 k := by rw [gq, Int.add_zero]; exact t1
    have w1 : G (26 + 2) ((i : Int) * 5 + 1) = (zPa g (zCs e) k).1 := by rw [gq]; exact t2
    have w3 : G (26 + 2) ((i : Int) * 5 + 3) = zAv g (zCs e) k := by rw [gq]; exact t4
    have hv := (hV k hkN).1
    have i2 := hI.2.1 k (by omega) (by omega)
    have hav := (zVl_at hI hD hv hc4).2.2.2.2.1
    have hav2 : 0 ≤ zAv g (zCs e) k ∧ zAv g (zCs e) k ≤ 999 := hav
    have v2 := hv.2.1
    have v3 := hv.2.2.1
    obtain ⟨d, d1, d2, d3⟩ := zNext (cs := zCs e) (N := (f 2 0).toNat) ((f 2 0).toNat - (k + 1)) k (by omega)
    have hcn := zPa_d (g := g) hc4 d d2
    have hnx := zPt_next (f := f) (g := g) v3.1 hc4 d d2
    have hlen := zPt_l (f := f) (g := g) (cs := zCs e) (k + 1 + d)
    have hbd : (zPa g (zCs e) (k + 1 + d)).1 ≤ f 12 0 := by
      have := zBd_s hI (hV (k + d) (by omega)).1 (hV (k + d) (by omega)).2
      rw [show k + d + 1 = k + 1 + d by omega] at this
      exact this.1.2
    have hl42 : (zPt g (zCs e) k ++ zDig (g 3 k) (zAv g (zCs e) k)).length ≤ 42 := by
      have hpn := zPa_n g (zCs e) (k + 1 + d)
      rcases hnx with ⟨a1, a2, a3⟩ | ⟨a1, a2, a3⟩
      · rw [← a3]
        omega
      · have := congrArg List.length a3
        simp only [List.length_append] at this ⊢
        omega
    iterate 3 (refine am_go rfl (by first | exact True.intro | omega | exact ⟨by decide, Nat.le_of_ble_eq_true rfl, Nat.le_of_ble_eq_true rfl⟩ | exact ⟨by decide, Nat.le_of_ble_eq_true rfl⟩) ?_)
    refine am_if rfl (fun c1 => by omega) (fun c1 => ?_)
    iterate 4 (refine am_go rfl (by first | exact True.intro | omega | exact ⟨by decide, Nat.le_of_ble_eq_true rfl, Nat.le_of_ble_eq_true rfl⟩ | exact ⟨by decide, Nat.le_of_ble_eq_true rfl⟩) ?_)
    (refine am_callv rfl (ct_fact 26 (by decide) (i : Int) 0 (by omega)) (by decide) (Nat.le_of_ble_eq_true rfl) (Nat.le_of_ble_eq_true rfl) ?_)
    rw [if_pos (by omega), w0]
    iterate 3 (refine am_go rfl (by first | exact True.intro | omega | exact ⟨by decide, Nat.le_of_ble_eq_true rfl, Nat.le_of_ble_eq_true rfl⟩ | exact ⟨by decide, Nat.le_of_ble_eq_true rfl⟩) ?_)
    (refine am_callv rfl (ct_fact 26 (by decide) (i : Int) 3 (by omega)) (by decide) (Nat.le_of_ble_eq_true rfl) (Nat.le_of_ble_eq_true rfl) ?_)
    rw [if_pos (by omega), w3]
    refine am_call rfl (ct_putPart (g 3 k) (zAv g (zCs e) k) (by omega) hav2 h2 hl42) (by decide) (Nat.le_of_ble_eq_true rfl) (Nat.le_of_ble_eq_true rfl) (Nat.le_of_ble_eq_true rfl) (fun rv s q => ?_)
    obtain ⟨rfl, F2, G2, rfl, p1, p2⟩ := q
    have h1' := p1.tr h1
    have fq2 : F2 26 0 = f 26 0 := h1'.1 26 0 (by decide)
    have gq2 : ∀ j, G2 (26 + 2) j = G (26 + 2) j := fun j => p1.2 _ j (by decide)
    iterate 3 (refine am_go rfl (by first | exact True.intro | omega | exact ⟨by decide, Nat.le_of_ble_eq_true rfl, Nat.le_of_ble_eq_true rfl⟩ | exact ⟨by decide, Nat.le_of_ble_eq_true rfl⟩) ?_)
    (refine am_callv rfl (ct_fact 26 (by decide) (i : Int) 1 (by omega)) (by decide) (Nat.le_of_ble_eq_true rfl) (Nat.le_of_ble_eq_true rfl) ?_)
    rw [if_pos (by omega), gq2, w1]
    iterate 5 (refine am_go rfl (by first | exact True.intro | omega | exact ⟨by decide, Nat.le_of_ble_eq_true rfl, Nat.le_of_ble_eq_true rfl⟩ | exact ⟨by decide, Nat.le_of_ble_eq_true rfl⟩) ?_)
    (refine am_callv rfl (ct_fact 26 (by decide) ((i : Int) + 1) 1 (by omega)) (by decide) (Nat.le_of_ble_eq_true rfl) (Nat.le_of_ble_eq_true rfl) ?_)
    have fin : ∀ (F3 : Nat → Nat → Int) (G3 : Nat → Int → Int), zFrT 0 9 37 F3 f G3 g → zPg (F3 0 9) (G3 37) (zPt g (zCs e) (k + 1 + d)) → am_wp l dC dI tc mm0_print 6 58 58 (Q) 42 [some (.inr (.inr (some 0))), some (.inl x), some (.inr (.inr (some 26))), some (.inl (i : Int))] [] (58, F3, G3, pr_r a b c) := by
      intro F3 G3 u1 u2
      iterate 2 (refine am_go rfl (by first | exact True.intro | omega | exact ⟨by decide, Nat.le_of_ble_eq_true rfl, Nat.le_of_ble_eq_true rfl⟩ | exact ⟨by decide, Nat.le_of_ble_eq_true rfl⟩) ?_)
      exact ih (i + 1) (k + 1 + d) F3 G3 (by omega) d1 (by omega) d3 u1 u2
    have semi : zPt g (zCs e) (k + 1 + d) = zPt g (zCs e) k ++ (zDig (g 3 k) (zAv g (zCs e) k) ++ [59]) → am_wp l dC dI tc mm0_print 6 58 58 Q 39 [some (.inr (.inr (some 0))), some (.inl x), some (.inr (.inr (some 26))), some (.inl (i : Int))] [] (58, F2, G2, pr_r a b c) := by
      intro hsem
      have := congrArg List.length hsem
      simp only [List.length_append, List.length_singleton] at this
      have hpn := zPa_n g (zCs e) (k + 1 + d)
      iterate 2 (refine am_go rfl (by first | exact True.intro | omega | exact ⟨by decide, Nat.le_of_ble_eq_true rfl, Nat.le_of_ble_eq_true rfl⟩ | exact ⟨by decide, Nat.le_of_ble_eq_true rfl⟩) ?_)
      refine am_call rfl (ct_put1 59 (by decide) p2 (by simp only [List.length_append]; omega)) (by decide) (Nat.le_of_ble_eq_true rfl) (Nat.le_of_ble_eq_true rfl) (Nat.le_of_ble_eq_true rfl) (fun rv s q => ?_)
      obtain ⟨rfl, F3, G3, rfl, p3, p4⟩ := q
      refine fin F3 G3 (p3.tr h1') ?_
      rw [hsem, ← List.append_assoc]
      exact p4
    by_cases cl : (i : Int) + 1 < f 26 0
    · have hk' : k + 1 + d < (f 2 0).toNat := by
        refine Classical.byContradiction (fun u => ?_)
        rw [show k + 1 + d = (f 2 0).toNat by omega] at hcn
        omega
      obtain ⟨-, s2, -⟩ := hH.2.2.2.2 (k + 1 + d) hk' (d3 hk')
      rw [hcn, hc] at s2
      rw [if_pos (by omega), gq2, gq, s2]
      rcases hnx with ⟨a1, a2, a3⟩ | ⟨a1, a2, a3⟩
      · refine am_if rfl (fun c2 => ?_) (fun c2 => by omega)
        refine fin F2 G2 h1' ?_
        rw [a3]
        exact p2
      · refine am_if rfl (fun c2 => by omega) (fun c2 => ?_)
        exact semi a3
    · rw [if_neg (by omega)]
      have hk' : k + 1 + d = (f 2 0).toNat := by
        refine Classical.byContradiction (fun u => ?_)
        have h3 := zPa_c g (zCs e) (k + 1 + d)
        rw [if_neg (d3 (by omega))] at h3
        have h4 := zPa_m g (zCs e) (k + 1 + d + 1) ((f 2 0).toNat - (k + 1 + d + 1))
        rw [show k + 1 + d + 1 + ((f 2 0).toNat - (k + 1 + d + 1)) = (f 2 0).toNat by omega] at h4
        omega
      refine am_if rfl (fun c2 => by omega) (fun c2 => ?_)
      rcases hnx with ⟨a1, a2, a3⟩ | ⟨a1, a2, a3⟩
      · exfalso
        have hen := hD.en (k + d : Nat) (by omega) (by omega)
        have h5 := zPa_s g (zCs e) (k + d)
        rw [show k + d + 1 = k + 1 + d by omega] at h5
        omega
      · exact semi a3
set_option maxRecDepth 100000 in
set_option maxHeartbeats 4000000 in
theorem wp_cprint29 {Q : Option am_V → am_H → Prop} (x : Int) {e : Int × List Int} (hI : zI f g) (hD : zD f g) (hH : zHd g (f 2 0).toNat f g 29 e) (hV : ∀ j : Nat, j < (f 2 0).toNat → zVl f g (zCs e) j ∧ zGo g (zCs e) j) (h0 : 0 < f 2 0)
    (K : ∀ F G, zFrT 0 9 37 F f G g → zPg (F 0 9) (G 37) (zPt g (zCs e) (f 2 0).toNat) → Q (some (.inl (F 0 9))) (58, F, G, pr_r a b c)) : ∀ (m i k : Nat) (F : Nat → Nat → Int) (G : Nat → Int → Int), (i : Int) + m = f 29 0 → k ≤ (f 2 0).toNat → (zPa g (zCs e) k).2.2 = i → (k < (f 2 0).toNat → zCs e k ≠ 4) → zFrT 0 9 37 F f G g → zPg (F 0 9) (G 37) (zPt g (zCs e) k) → am_wp l dC dI tc mm0_print 6 58 58 (Q) 14 [some (.inr (.inr (some 0))), some (.inl x), some (.inr (.inr (some 29))), some (.inl (i : Int))] [] (58, F, G, pr_r a b c) := by
  have i1 := hI.1
  have i3 := hI.2.2.1
  have hsz := hH.2.2.1
  have hpN := zPa_n g (zCs e) (f 2 0).toNat
  intro m
  induction m with
  | zero =>
    intro i k F G hi hk hc hn h1 h2
    have fq : F 29 0 = f 29 0 := h1.1 29 0 (by decide)
    have hkN : k = (f 2 0).toNat := by
      refine Classical.byContradiction (fun u => ?_)
      have h3 := zPa_c g (zCs e) k
      rw [if_neg (hn (by omega))] at h3
      have h4 := zPa_m g (zCs e) (k + 1) ((f 2 0).toNat - (k + 1))
      rw [show k + 1 + ((f 2 0).toNat - (k + 1)) = (f 2 0).toNat by omega] at h4
      omega
    iterate 3 (refine am_go rfl (by first | exact True.intro | omega | exact ⟨by decide, Nat.le_of_ble_eq_true rfl, Nat.le_of_ble_eq_true rfl⟩ | exact ⟨by decide, Nat.le_of_ble_eq_true rfl⟩) ?_)
    refine am_if rfl (fun c1 => ?_) (fun c1 => by omega)
    iterate 2 (refine am_go rfl (by first | exact True.intro | omega | exact ⟨by decide, Nat.le_of_ble_eq_true rfl, Nat.le_of_ble_eq_true rfl⟩ | exact ⟨by decide, Nat.le_of_ble_eq_true rfl⟩) ?_)
    rw [hkN] at h2
    exact am_iret rfl rfl rfl (K F G h1 h2)
  | succ m ih =>
    intro i k F G hi hk hc hn h1 h2
    have fq : F 29 0 = f 29 0 := h1.1 29 0 (by decide)
    have hkN : k < (f 2 0).toNat := by
      refine Classical.byContradiction (fun u => ?_)
      rw [show k = (f 2 0).toNat by omega] at hc
      omega
    have hc4 := hn hkN
    obtain ⟨t1, t2, t3, t4, -⟩ := hH.2.2.2.2 k hkN hc4
    rw [hc] at t1 t2 t3 t4
    have gq : ∀ j, G (29 + 2) j = g (29 + 2) j := fun j => h1.2 _ j (by decide)
    have w0 : G (29 + 2) ((i : Int) * 5 + 0) = g 3 k := by rw [gq, Int.add_zero]; exact t1
    have w1 : G (29 + 2) ((i : Int) * 5 + 1) = (zPa g (zCs e) k).1 := by rw [gq]; exact t2
    have w3 : G (29 + 2) ((i : Int) * 5 + 3) = zAv g (zCs e) k := by rw [gq]; exact t4
    have hv := (hV k hkN).1
    have i2 := hI.2.1 k (by omega) (by omega)
    have hav := (zVl_at hI hD hv hc4).2.2.2.2.1
    have hav2 : 0 ≤ zAv g (zCs e) k ∧ zAv g (zCs e) k ≤ 999 := hav
    have v2 := hv.2.1
    have v3 := hv.2.2.1
    obtain ⟨d, d1, d2, d3⟩ := zNext (cs := zCs e) (N := (f 2 0).toNat) ((f 2 0).toNat - (k + 1)) k (by omega)
    have hcn := zPa_d (g := g) hc4 d d2
    have hnx := zPt_next (f := f) (g := g) v3.1 hc4 d d2
    have hlen := zPt_l (f := f) (g := g) (cs := zCs e) (k + 1 + d)
    have hbd : (zPa g (zCs e) (k + 1 + d)).1 ≤ f 12 0 := by
      have := zBd_s hI (hV (k + d) (by omega)).1 (hV (k + d) (by omega)).2
      rw [show k + d + 1 = k + 1 + d by omega] at this
      exact this.1.2
    have hl42 : (zPt g (zCs e) k ++ zDig (g 3 k) (zAv g (zCs e) k)).length ≤ 42 := by
      have hpn := zPa_n g (zCs e) (k + 1 + d)
      rcases hnx with ⟨a1, a2, a3⟩ | ⟨a1, a2, a3⟩
      · rw [← a3]
        omega
      · have := congrArg List.length a3
        simp only [List.length_append] at this ⊢
        omega
    iterate 3 (refine am_go rfl (by first | exact True.intro | omega | exact ⟨by decide, Nat.le_of_ble_eq_true rfl, Nat.le_of_ble_eq_true rfl⟩ | exact ⟨by decide, Nat.le_of_ble_eq_true rfl⟩) ?_)
    refine am_if rfl (fun c1 => by omega) (fun c1 => ?_)
    iterate 4 (refine am_go rfl (by first | exact True.intro | omega | exact ⟨by decide, Nat.le_of_ble_eq_true rfl, Nat.le_of_ble_eq_true rfl⟩ | exact ⟨by decide, Nat.le_of_ble_eq_true rfl⟩) ?_)
    (refine am_callv rfl (ct_fact 29 (by decide) (i : Int) 0 (by omega)) (by decide) (Nat.le_of_ble_eq_true rfl) (Nat.le_of_ble_eq_true rfl) ?_)
    rw [if_pos (by omega), w0]
    iterate 3 (refine am_go rfl (by first | exact True.intro | omega | exact ⟨by decide, Nat.le_of_ble_eq_true rfl, Nat.le_of_ble_eq_true rfl⟩ | exact ⟨by decide, Nat.le_of_ble_eq_true rfl⟩) ?_)
    (refine am_callv rfl (ct_fact 29 (by decide) (i : Int) 3 (by omega)) (by decide) (Nat.le_of_ble_eq_true rfl) (Nat.le_of_ble_eq_true rfl) ?_)
    rw [if_pos (by omega), w3]
    refine am_call rfl (ct_putPart (g 3 k) (zAv g (zCs e) k) (by omega) hav2 h2 hl42) (by decide) (Nat.le_of_ble_eq_true rfl) (Nat.le_of_ble_eq_true rfl) (Nat.le_of_ble_eq_true rfl) (fun rv s q => ?_)
    obtain ⟨rfl, F2, G2, rfl, p1, p2⟩ := q
    have h1' := p1.tr h1
    have fq2 : F2 29 0 = f 29 0 := h1'.1 29 0 (by decide)
    have gq2 : ∀ j, G2 (29 + 2) j = G (29 + 2) j := fun j => p1.2 _ j (by decide)
    iterate 3 (refine am_go rfl (by first | exact True.intro | omega | exact ⟨by decide, Nat.le_of_ble_eq_true rfl, Nat.le_of_ble_eq_true rfl⟩ | exact ⟨by decide, Nat.le_of_ble_eq_true rfl⟩) ?_)
    (refine am_callv rfl (ct_fact 29 (by decide) (i : Int) 1 (by omega)) (by decide) (Nat.le_of_ble_eq_true rfl) (Nat.le_of_ble_eq_true rfl) ?_)
    rw [if_pos (by omega), gq2, w1]
    iterate 5 (refine am_go rfl (by first | exact True.intro | omega | exact ⟨by decide, Nat.le_of_ble_eq_true rfl, Nat.le_of_ble_eq_true rfl⟩ | exact ⟨by decide, Nat.le_of_ble_eq_true rfl⟩) ?_)
    (refine am_callv rfl (ct_fact 29 (by decide) ((i : Int) + 1) 1 (by omega)) (by decide) (Nat.le_of_ble_eq_true rfl) (Nat.le_of_ble_eq_true rfl) ?_)
    have fin : ∀ (F3 : Nat → Nat → Int) (G3 : Nat → Int → Int), zFrT 0 9 37 F3 f G3 g → zPg (F3 0 9) (G3 37) (zPt g (zCs e) (k + 1 + d)) → am_wp l dC dI tc mm0_print 6 58 58 (Q) 42 [some (.inr (.inr (some 0))), some (.inl x), some (.inr (.inr (some 29))), some (.inl (i : Int))] [] (58, F3, G3, pr_r a b c) := by
      intro F3 G3 u1 u2
      iterate 2 (refine am_go rfl (by first | exact True.intro | omega | exact ⟨by decide, Nat.le_of_ble_eq_true rfl, Nat.le_of_ble_eq_true rfl⟩ | exact ⟨by decide, Nat.le_of_ble_eq_true rfl⟩) ?_)
      exact ih (i + 1) (k + 1 + d) F3 G3 (by omega) d1 (by omega) d3 u1 u2
    have semi : zPt g (zCs e) (k + 1 + d) = zPt g (zCs e) k ++ (zDig (g 3 k) (zAv g (zCs e) k) ++ [59]) → am_wp l dC dI tc mm0_print 6 58 58 Q 39 [some (.inr (.inr (some 0))), some (.inl x), some (.inr (.inr (some 29))), some (.inl (i : Int))] [] (58, F2, G2, pr_r a b c) := by
      intro hsem
      have := congrArg List.length hsem
      simp only [List.length_append, List.length_singleton] at this
      have hpn := zPa_n g (zCs e) (k + 1 + d)
      iterate 2 (refine am_go rfl (by first | exact True.intro | omega | exact ⟨by decide, Nat.le_of_ble_eq_true rfl, Nat.le_of_ble_eq_true rfl⟩ | exact ⟨by decide, Nat.le_of_ble_eq_true rfl⟩) ?_)
      refine am_call rfl (ct_put1 59 (by decide) p2 (by simp only [List.length_append]; omega)) (by decide) (Nat.le_of_ble_eq_true rfl) (Nat.le_of_ble_eq_true rfl) (Nat.le_of_ble_eq_true rfl) (fun rv s q => ?_)
      obtain ⟨rfl, F3, G3, rfl, p3, p4⟩ := q
      refine fin F3 G3 (p3.tr h1') ?_
      rw [hsem, ← List.append_assoc]
      exact p4
    by_cases cl : (i : Int) + 1 < f 29 0
    · have hk' : k + 1 + d < (f 2 0).toNat := by
        refine Classical.byContradiction (fun u => ?_)
        rw [show k + 1 + d = (f 2 0).toNat by omega] at hcn
        omega
      obtain ⟨-, s2, -⟩ := hH.2.2.2.2 (k + 1 + d) hk' (d3 hk')
      rw [hcn, hc] at s2
      rw [if_pos (by omega), gq2, gq, s2]
      rcases hnx with ⟨a1, a2, a3⟩ | ⟨a1, a2, a3⟩
      · refine am_if rfl (fun c2 => ?_) (fun c2 => by omega)
        refine fin F2 G2 h1' ?_
        rw [a3]
        exact p2
      · refine am_if rfl (fun c2 => by omega) (fun c2 => ?_)
        exact semi a3
    · rw [if_neg (by omega)]
      have hk' : k + 1 + d = (f 2 0).toNat := by
        refine Classical.byContradiction (fun u => ?_)
        have h3 := zPa_c g (zCs e) (k + 1 + d)
        rw [if_neg (d3 (by omega))] at h3
        have h4 := zPa_m g (zCs e) (k + 1 + d + 1) ((f 2 0).toNat - (k + 1 + d + 1))
        rw [show k + 1 + d + 1 + ((f 2 0).toNat - (k + 1 + d + 1)) = (f 2 0).toNat by omega] at h4
        omega
      refine am_if rfl (fun c2 => by omega) (fun c2 => ?_)
      rcases hnx with ⟨a1, a2, a3⟩ | ⟨a1, a2, a3⟩
      · exfalso
        have hen := hD.en (k + d : Nat) (by omega) (by omega)
        have h5 := zPa_s g (zCs e) (k + d)
        rw [show k + d + 1 = k + 1 + d by omega] at h5
        omega
      · exact semi a3
end Prn2

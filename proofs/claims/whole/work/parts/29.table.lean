/-! the table of an assumed place -/
def zRchd (f : Nat → Nat → Int) (g : Nat → Int → Int) : Prop := ∀ j, 0 ≤ j → j < 420 → (g 32 j = 0 ∨ g 32 j = 1) ∧ (g 32 j = 1 ↔ ∃ k' : Nat, (k' : Int) ≤ f 2 0 ∧ zRe g k' j)
def zAok (G : Nat → Int → Int) : Prop := ∀ j, 0 ≤ j → j < 420 → zOk G j
def zGL (f : Nat → Nat → Int) (g : Nat → Int → Int) (v : Int) (G : Nat → Int → Int) (m : Nat) (y z : Int) : Prop := ∀ (k' : Nat) (y' z' : Int), (m < k' + 1 ∨ (m = k' + 1 ∧ (y' < y ∨ (y' = y ∧ z' < z)))) → (k' : Int) ≤ f 2 0 → (0 ≤ y' ∧ y' ≤ f 12 0) → (0 ≤ z' ∧ z' ≤ zPl g y') → g 32 (zSt k' y' z') = 1 → zGd f g v ((f 2 0).toNat - k') k' y' z' (zRow G (zSt k' y' z'))
theorem zRchd_tn {f : Nat → Nat → Int} {g : Nat → Int → Int} (hI : zI f g) (hR : zRchd f g) {k : Nat} {y z q : Int} (hk : (k : Int) < f 2 0) (hy : 0 ≤ y ∧ y ≤ f 12 0) (hz : 0 ≤ z ∧ z ≤ zPl g y) (h : g 32 (zSt k y z) = 1) (hq : zTn g k y z q) : g 32 q = 1 ∧ ∃ y' z', q = zSt (k + 1) y' z' ∧ (0 ≤ y' ∧ y' ≤ f 12 0) ∧ (0 ≤ z' ∧ z' ≤ zPl g y') ∧ q / 6 % 7 = y' ∧ q % 6 = z' ∧ 0 ≤ q ∧ q < 420 := by
  have i1 := hI.1
  have i3 := hI.2.2.1
  have hp := zPl_r hI y
  obtain ⟨y', z', e, b1, b2⟩ := zTn_ok hI ⟨by omega, hk⟩ hy hz hq
  have hp' := zPl_r hI y'
  have hb : q / 6 % 7 = y' ∧ q % 6 = z' ∧ 0 ≤ q ∧ q < 420 := by rw [e]; unfold zSt; omega
  refine ⟨?_, y', z', e, b1, b2, hb⟩
  obtain ⟨k1, c1, c2⟩ := (hR _ (by unfold zSt; omega) (by unfold zSt; omega)).2.mp h
  have hl := (zRe_lv hI c1 c2).2.2
  have ek : k1 = k := by unfold zSt at hl; omega
  subst ek
  exact (hR q hb.2.2.1 hb.2.2.2).2.mpr ⟨k1 + 1, by omega, y, z, by omega, by omega, c2, hq⟩
theorem zOk_row {G : Nat → Int → Int} {j : Int} : zOk G j ↔ (0 ≤ (zRow G j).1 ∧ (zRow G j).1 ≤ 1000000) ∧ (0 ≤ (zRow G j).2.2.2.1 ∧ (zRow G j).2.2.2.1 ≤ 1000000) := Iff.rfl
/-- one state more -/
theorem zGL_step {f : Nat → Nat → Int} {g G : Nat → Int → Int} {v : Int} (hI : zI f g) (hR : zRchd f g) (hF : zFrW G g) {m : Nat} {y z : Int} (hm : (m : Int) ≤ f 2 0) (hy : 0 ≤ y ∧ y ≤ f 12 0) (hz : 0 ≤ z ∧ z ≤ zPl g y) (h : zGL f g v G (m + 1) y z) (hA : zAok G) (hr : g 32 (zSt m y z) = 1) :
    zGL f g v (am_rw G (zSt m y z) (zW f G v m y z (zRow G (zSt m y z)))) (m + 1) y (z + 1) ∧ zAok (am_rw G (zSt m y z) (zW f G v m y z (zRow G (zSt m y z)))) := by
  have i1 := hI.1
  have i3 := hI.2.2.1
  have hp := zPl_r hI y
  have new : zGd f g v ((f 2 0).toNat - m) m y z (zW f G v m y z (zRow G (zSt m y z))) := by
    refine hF.Gd.mp (zW_gd (hF.I hI) (by omega) (by omega) (fun n hn hkd hq => ?_) (fun n hn hms hq => ?_) _)
    · rw [hF.Beh] at hq ⊢
      obtain ⟨c1, y', z', e, c2, c3, c4, c5, c6⟩ := zRchd_tn hI hR (by omega) hy hz hr ⟨hq, Or.inr ⟨by rw [← hF.Kd, ← hF 3 _ (by decide)]; exact hkd, rfl⟩⟩
      refine hF.Gd.mpr ?_
      have h9 := h (m + 1) y' z' (Or.inl (by omega)) (by omega) c2 c3 (by rw [show ((m + 1 : Nat) : Int) = (m : Int) + 1 from rfl, ← e]; exact c1)
      rw [show ((m + 1 : Nat) : Int) = (m : Int) + 1 from rfl, ← e, show (f 2 0).toNat - (m + 1) = n by omega] at h9
      rw [c4, c5]
      exact h9
    · rw [hF.Beh] at hq ⊢
      obtain ⟨c1, y', z', e, c2, c3, c4, c5, c6⟩ := zRchd_tn hI hR (by omega) hy hz hr ⟨hq, Or.inl ⟨by rw [← hF 4 _ (by decide)]; exact hms, rfl⟩⟩
      refine hF.Gd.mpr ?_
      have h9 := h (m + 1) y' z' (Or.inl (by omega)) (by omega) c2 c3 (by rw [show ((m + 1 : Nat) : Int) = (m : Int) + 1 from rfl, ← e]; exact c1)
      rw [show ((m + 1 : Nat) : Int) = (m : Int) + 1 from rfl, ← e, show (f 2 0).toNat - (m + 1) = n by omega] at h9
      rw [c4, c5]
      exact h9
  refine ⟨fun k' y' z' a1 a2 a3 a4 a5 => ?_, fun j j1 j2 => ?_⟩
  · have hp' := zPl_r hI y'
    by_cases e : k' = m ∧ y' = y ∧ z' = z
    · obtain ⟨rfl, rfl, rfl⟩ := e
      rw [am_rw_row]
      exact new
    · rw [am_rw_ne _ _ (by unfold zSt; omega)]
      exact h k' y' z' (by omega) a2 a3 a4 a5
  · rw [zOk_row]
    by_cases e : j = zSt m y z
    · rw [e, am_rw_row]
      exact zGd_ok hI (by omega) (by omega) new
    · rw [am_rw_ne _ _ e]
      exact hA j j1 j2
section Asm
variable {l : Launch} {dC : Nat → ClassId} {dI : Nat → Nat → Nat} {tc : Nat → ClassId} {f : Nat → Nat → Int} {g : Nat → Int → Int} {a b c : Nat}
set_option maxRecDepth 100000 in
set_option maxHeartbeats 4000000 in
theorem wp_table {Q : Option am_V → am_H → Prop} (v : Int) (hI : zI f g) (hR : zRchd f g) (hA : zAok g) (hv : f 22 14 = v) (o0 : Option Int)
    (K : ∀ (G : Nat → Int → Int) (o3 o4 : Option Int), zFrX G g → zAok G → zGL f g v G 0 0 0 → am_wp l dC dI tc mm4_assume 3 58 58 (Q) 41 [some (.inr (.inr (some 22))), some (.inl v), some (.inl (-1)), o3.map Sum.inl, o4.map Sum.inl] [] (58, f, G, pr_r a b c)) : am_wp l dC dI tc mm4_assume 3 58 58 (Q) 3 [some (.inr (.inr (some 22))), some (.inl v), o0.map Sum.inl, none, none] [] (58, f, g, pr_r a b c) := by
  have hI2 := hI
  obtain ⟨i1, i2, i3, i4, i5, i6, i7⟩ := hI2
  have parts : ∀ (m : Nat) (o3 o4 : Option Int) (G : Nat → Int → Int), (m : Int) ≤ f 2 0 + 1 → zFrX G g → zAok G → zGL f g v G m 0 0 → am_wp l dC dI tc mm4_assume 3 58 58 (Q) 7 [some (.inr (.inr (some 22))), some (.inl v), some (.inl ((m : Int) - 1)), o3.map Sum.inl, o4.map Sum.inl] [] (58, f, G, pr_r a b c) := by
    intro m
    induction m with
    | zero =>
      intro o3 o4 G hm hF hA hG
      (refine am_go rfl (by first | exact True.intro | omega | exact ⟨by decide, Nat.le_of_ble_eq_true rfl, Nat.le_of_ble_eq_true rfl⟩ | exact ⟨by decide, Nat.le_of_ble_eq_true rfl⟩) ?_)
      refine am_if rfl (fun c1 => ?_) (fun c1 => ?_)
      · exact K G o3 o4 hF hA hG
      · omega
    | succ m ih =>
      intro o3 o4 G hm hF hA hG
      rw [show ((m + 1 : Nat) : Int) - 1 = (m : Int) by omega]
      have lns : ∀ (w : Nat) (y : Int) (o4 : Option Int) (G : Nat → Int → Int), 0 ≤ y → y ≤ f 12 0 + 1 → (f 12 0 + 1 - y).toNat ≤ w → zFrX G g → zAok G → zGL f g v G (m + 1) y 0 → am_wp l dC dI tc mm4_assume 3 58 58 (Q) 11 [some (.inr (.inr (some 22))), some (.inl v), some (.inl (m : Int)), some (.inl y), o4.map Sum.inl] [] (58, f, G, pr_r a b c) := by
        have done : ∀ (y : Int) (o4 : Option Int) (G : Nat → Int → Int), f 12 0 < y → zFrX G g → zAok G → zGL f g v G (m + 1) y 0 → am_wp l dC dI tc mm4_assume 3 58 58 (Q) 39 [some (.inr (.inr (some 22))), some (.inl v), some (.inl (m : Int)), some (.inl y), o4.map Sum.inl] [] (58, f, G, pr_r a b c) := by
          intro y o4 G hy hF hA hG
          iterate 2 (refine am_go rfl (by first | exact True.intro | omega | exact ⟨by decide, Nat.le_of_ble_eq_true rfl, Nat.le_of_ble_eq_true rfl⟩ | exact ⟨by decide, Nat.le_of_ble_eq_true rfl⟩) ?_)
          exact ih (some y) o4 G (by omega) hF hA (fun k' y' z' a1 a2 a3 a4 a5 => hG k' y' z' (by omega) a2 a3 a4 a5)
        intro w
        induction w with
        | zero =>
          intro y o4 G hy hy2 hw hF hA hG
          iterate 4 (refine am_go rfl (by first | exact True.intro | omega | exact ⟨by decide, Nat.le_of_ble_eq_true rfl, Nat.le_of_ble_eq_true rfl⟩ | exact ⟨by decide, Nat.le_of_ble_eq_true rfl⟩) ?_)
          refine am_if rfl (fun c1 => ?_) (fun c1 => ?_)
          · exact done y o4 G (by omega) hF hA hG
          · omega
        | succ w ihw =>
          intro y o4 G hy hy2 hw hF hA hG
          have hp := zPl_r hI y
          have pls : y ≤ f 12 0 → ∀ (u : Nat) (z : Int) (G : Nat → Int → Int), 0 ≤ z → z ≤ zPl g y + 1 → (zPl g y + 1 - z).toNat ≤ u → zFrX G g → zAok G → zGL f g v G (m + 1) y z → am_wp l dC dI tc mm4_assume 3 58 58 (Q) 18 [some (.inr (.inr (some 22))), some (.inl v), some (.inl (m : Int)), some (.inl y), some (.inl z)] [] (58, f, G, pr_r a b c) := by
            intro hyl
            have dn : ∀ (z : Int) (G : Nat → Int → Int), zPl g y < z → zFrX G g → zAok G → zGL f g v G (m + 1) y z → am_wp l dC dI tc mm4_assume 3 58 58 (Q) 37 [some (.inr (.inr (some 22))), some (.inl v), some (.inl (m : Int)), some (.inl y), some (.inl z)] [] (58, f, G, pr_r a b c) := by
              intro z G hz hF hA hG
              iterate 2 (refine am_go rfl (by first | exact True.intro | omega | exact ⟨by decide, Nat.le_of_ble_eq_true rfl, Nat.le_of_ble_eq_true rfl⟩ | exact ⟨by decide, Nat.le_of_ble_eq_true rfl⟩) ?_)
              refine ihw (y + 1) (some z) G (by omega) (by omega) (by omega) hF hA (fun k' y' z' a1 a2 a3 a4 a5 => hG k' y' z' ?_ a2 a3 a4 a5)
              by_cases e : y' = y
              · subst e
                omega
              · omega
            intro u
            induction u with
            | zero =>
              intro z G hz hz2 hu hF hA hG
              iterate 4 (refine am_go rfl (by first | exact True.intro | omega | exact ⟨by decide, Nat.le_of_ble_eq_true rfl, Nat.le_of_ble_eq_true rfl⟩ | exact ⟨by decide, Nat.le_of_ble_eq_true rfl⟩) ?_)
              refine am_callv rfl (ct_placesIn _) (by decide) (Nat.le_of_ble_eq_true rfl) (Nat.le_of_ble_eq_true rfl) ?_
              rw [hF.W.Pl]
              refine am_if rfl (fun c1 => ?_) (fun c1 => ?_)
              · exact dn z G (by omega) hF hA hG
              · omega
            | succ u ihu =>
              intro z G hz hz2 hu hF hA hG
              iterate 4 (refine am_go rfl (by first | exact True.intro | omega | exact ⟨by decide, Nat.le_of_ble_eq_true rfl, Nat.le_of_ble_eq_true rfl⟩ | exact ⟨by decide, Nat.le_of_ble_eq_true rfl⟩) ?_)
              refine am_callv rfl (ct_placesIn _) (by decide) (Nat.le_of_ble_eq_true rfl) (Nat.le_of_ble_eq_true rfl) ?_
              rw [hF.W.Pl]
              refine am_if rfl (fun c1 => ?_) (fun c1 => ?_)
              · exact dn z G (by omega) hF hA hG
              · have hb := (hR (zSt m y z) (by unfold zSt; omega) (by unfold zSt; omega)).1
                iterate 4 (refine am_go rfl (by first | exact True.intro | omega | exact ⟨by decide, Nat.le_of_ble_eq_true rfl, Nat.le_of_ble_eq_true rfl⟩ | exact ⟨by decide, Nat.le_of_ble_eq_true rfl⟩) ?_)
                refine am_callv rfl (ct_isReached _ _ _ (by omega) (by omega) (by omega) (by rw [hF 32 _ (by decide)]; exact hb)) (by decide) (Nat.le_of_ble_eq_true rfl) (Nat.le_of_ble_eq_true rfl) ?_
                rw [hF 32 _ (by decide)]
                refine am_if rfl (fun c2 => ?_) (fun c2 => ?_)
                · have c2 : g 32 (zSt m y z) = 0 := c2
                  iterate 2 (refine am_go rfl (by first | exact True.intro | omega | exact ⟨by decide, Nat.le_of_ble_eq_true rfl, Nat.le_of_ble_eq_true rfl⟩ | exact ⟨by decide, Nat.le_of_ble_eq_true rfl⟩) ?_)
                  refine ihu (z + 1) G (by omega) (by omega) (by omega) hF hA (fun k' y' z' a1 a2 a3 a4 a5 => ?_)
                  by_cases e : k' = m ∧ y' = y ∧ z' = z
                  · obtain ⟨rfl, rfl, rfl⟩ := e
                    omega
                  · exact hG k' y' z' (by omega) a2 a3 a4 a5
                · have c2 : ¬ g 32 (zSt m y z) = 0 := c2
                  obtain ⟨s1, s2⟩ := zGL_step hI hR hF.W (by omega) ⟨hy, hyl⟩ ⟨hz, by omega⟩ hG hA (by omega)
                  have hbq : ∀ z1, 0 ≤ z1 → z1 ≤ 6 → (y = 6 → z1 ≤ 1) → zBeh g m y z1 < 420 ∨ (m : Int) = f 2 0 := by
                    intro z1 q1 q2 q3
                    unfold zBeh
                    split
                    · omega
                    · split
                      · rename_i w1 w2
                        have : zPl g y ≠ 0 := by omega
                        have : y < 6 := by
                          unfold zPl at this
                          split at this <;> omega
                        omega
                      · omega
                  have hz6 : y = 6 → z = 0 := by
                    intro e
                    have : zPl g y = 0 := by
                      unfold zPl
                      rw [if_neg (by omega)]
                    omega
                  iterate 4 (refine am_go rfl (by first | exact True.intro | omega | exact ⟨by decide, Nat.le_of_ble_eq_true rfl, Nat.le_of_ble_eq_true rfl⟩ | exact ⟨by decide, Nat.le_of_ble_eq_true rfl⟩) ?_)
                  refine am_calln rfl (ct_weigh _ _ _ (hF.W.I hI) (by omega) (by omega) (by rw [hF.W.Pl]; omega) (fun hxl q hq hq0 => ?_) (fun hxl q hq hq0 => ?_)) (by decide) (Nat.le_of_ble_eq_true rfl) (Nat.le_of_ble_eq_true rfl) ?_
                  · rw [hF.W.Beh] at hq
                    exact hA q hq0 (by have := hbq (z + 1) (by omega) (by omega) (by omega); omega)
                  · rw [hF.W.Beh] at hq
                    exact hA q hq0 (by have := hbq z (by omega) (by omega) (by omega); omega)
                  · rw [hv]
                    iterate 2 (refine am_go rfl (by first | exact True.intro | omega | exact ⟨by decide, Nat.le_of_ble_eq_true rfl, Nat.le_of_ble_eq_true rfl⟩ | exact ⟨by decide, Nat.le_of_ble_eq_true rfl⟩) ?_)
                    exact ihu (z + 1) _ (by omega) (by omega) (by omega) (hF.rw _ _) s2 s1
          iterate 4 (refine am_go rfl (by first | exact True.intro | omega | exact ⟨by decide, Nat.le_of_ble_eq_true rfl, Nat.le_of_ble_eq_true rfl⟩ | exact ⟨by decide, Nat.le_of_ble_eq_true rfl⟩) ?_)
          refine am_if rfl (fun c1 => ?_) (fun c1 => ?_)
          · exact done y o4 G (by omega) hF hA hG
          · iterate 2 (refine am_go rfl (by first | exact True.intro | omega | exact ⟨by decide, Nat.le_of_ble_eq_true rfl, Nat.le_of_ble_eq_true rfl⟩ | exact ⟨by decide, Nat.le_of_ble_eq_true rfl⟩) ?_)
            exact pls (by omega) _ 0 G (by omega) (by omega) (Nat.le_refl _) hF hA hG
      (refine am_go rfl (by first | exact True.intro | omega | exact ⟨by decide, Nat.le_of_ble_eq_true rfl, Nat.le_of_ble_eq_true rfl⟩ | exact ⟨by decide, Nat.le_of_ble_eq_true rfl⟩) ?_)
      refine am_if rfl (fun c1 => ?_) (fun c1 => ?_)
      · omega
      · iterate 2 (refine am_go rfl (by first | exact True.intro | omega | exact ⟨by decide, Nat.le_of_ble_eq_true rfl, Nat.le_of_ble_eq_true rfl⟩ | exact ⟨by decide, Nat.le_of_ble_eq_true rfl⟩) ?_)
        exact lns _ 0 o4 G (by omega) (by omega) (Nat.le_refl _) hF hA hG
  iterate 4 (refine am_go rfl (by first | exact True.intro | omega | exact ⟨by decide, Nat.le_of_ble_eq_true rfl, Nat.le_of_ble_eq_true rfl⟩ | exact ⟨by decide, Nat.le_of_ble_eq_true rfl⟩) ?_)
  have h9 := parts ((f 2 0).toNat + 1) none none g (by omega) (fun _ _ _ => rfl) hA (fun k' y' z' a1 a2 => by omega)
  rw [show (((f 2 0).toNat + 1 : Nat) : Int) - 1 = f 2 0 by omega] at h9
  exact h9
end Asm

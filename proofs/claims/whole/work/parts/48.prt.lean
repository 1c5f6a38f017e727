/-! the reference's part -/
def zFact (g : Nat → Int → Int) (cs : Nat → Int) (k : Nat) (w : Int) : Int := if w = 0 then g 3 k else if w = 1 then (zPa g cs k).1 else if w = 2 then (zPa g cs k).2.1 else if w = 3 then g 16 (zAlt (zPa g cs k).1 (zPa g cs k).2.1 (cs k)) else cs k
section Prt
variable {l : Launch} {dC : Nat → ClassId} {dI : Nat → Nat → Nat} {tc : Nat → ClassId} {f : Nat → Nat → Int} {g : Nat → Int → Int} {a b c : Nat}
variable {cs : Nat → Int}
set_option maxRecDepth 100000 in
set_option maxHeartbeats 4000000 in
theorem wp_part31 {Q : Option am_V → am_H → Prop} (x y z : Int) (hI : zI f g) (hD : zD f g) (hC : zCh1 g g cs (f 2 0).toNat) (hV : ∀ j : Nat, j < (f 2 0).toNat → zVl f g cs j) (hy : y < (zPa g cs (f 2 0).toNat).2.2) (hz : 0 ≤ z ∧ z < 5)
    (K : ∀ k : Nat, k < (f 2 0).toNat → cs k ≠ 4 → (zPa g cs k).2.2 = y → Q (some (.inl (zFact g cs k z))) (58, f, g, pr_r a b c)) : ∀ (m k : Nat) (lf : Int), k + m = (f 2 0).toNat → lf = y - (zPa g cs k).2.2 → 0 ≤ lf → am_wp l dC dI tc mm6_part 6 58 58 (Q) 31 [some (.inr (.inr (some 38))), some (.inl x), some (.inl y), some (.inl z), some (.inl lf), some (.inl (k : Int))] [] (58, f, g, pr_r a b c) := by
  have i1 := hI.1
  have i3 := hI.2.2.1
  have e5 := hD.pn
  intro m
  induction m with
  | zero =>
    intro k lf hk hl h0
    rw [show k = (f 2 0).toNat by omega] at hl
    omega
  | succ m ih =>
    intro k lf hk hl h0
    have hc := hC.1 k (by omega)
    have hcy := hC.2 k (by omega)
    have hy1 := hcy.1
    have hz1 := hcy.2
    have hs := zPa_c g cs k
    have hpn := zPa_n g cs k
    have hpN := zPa_n g cs (f 2 0).toNat
    have hkd := hD.kd k (by omega) (by omega)
    have hv := hV k (by omega)
    iterate 5 (refine am_go rfl (by first | exact True.intro | omega | exact ⟨by decide, Nat.le_of_ble_eq_true rfl, Nat.le_of_ble_eq_true rfl⟩ | exact ⟨by decide, Nat.le_of_ble_eq_true rfl⟩) ?_)
    rw [hc]
    refine am_if rfl (fun c1 => ?_) (fun c1 => ?_)
    · iterate 5 (refine am_go rfl (by first | exact True.intro | omega | exact ⟨by decide, Nat.le_of_ble_eq_true rfl, Nat.le_of_ble_eq_true rfl⟩ | exact ⟨by decide, Nat.le_of_ble_eq_true rfl⟩) ?_)
      rw [hc]
      refine am_if rfl (fun c2 => absurd c1 c2) (fun c2 => ?_)
      iterate 5 (refine am_go rfl (by first | exact True.intro | omega | exact ⟨by decide, Nat.le_of_ble_eq_true rfl, Nat.le_of_ble_eq_true rfl⟩ | exact ⟨by decide, Nat.le_of_ble_eq_true rfl⟩) ?_)
      exact ih (k + 1) _ (by omega) (by rw [hs, if_pos c1]; exact hl) h0
    · (refine am_go rfl (by first | exact True.intro | omega | exact ⟨by decide, Nat.le_of_ble_eq_true rfl, Nat.le_of_ble_eq_true rfl⟩ | exact ⟨by decide, Nat.le_of_ble_eq_true rfl⟩) ?_)
      refine am_if rfl (fun c2 => ?_) (fun c2 => ?_)
      · have K1 := K k (by omega) c1 (by omega)
        have hat := zVl_at hI hD hv c1
        have hc1 := hv.1
        have hb1 := hv.2.1
        have hb2 := hv.2.2.1
        (refine am_go rfl (by first | exact True.intro | omega | exact ⟨by decide, Nat.le_of_ble_eq_true rfl, Nat.le_of_ble_eq_true rfl⟩ | exact ⟨by decide, Nat.le_of_ble_eq_true rfl⟩) ?_)
        refine am_if rfl (fun c3 => ?_) (fun c3 => ?_)
        · iterate 2 (refine am_go rfl (by first | exact True.intro | omega | exact ⟨by decide, Nat.le_of_ble_eq_true rfl, Nat.le_of_ble_eq_true rfl⟩ | exact ⟨by decide, Nat.le_of_ble_eq_true rfl⟩) ?_)
          refine am_if rfl (fun c4 => ?_) (fun c4 => ?_)
          · iterate 2 (refine am_go rfl (by first | exact True.intro | omega | exact ⟨by decide, Nat.le_of_ble_eq_true rfl, Nat.le_of_ble_eq_true rfl⟩ | exact ⟨by decide, Nat.le_of_ble_eq_true rfl⟩) ?_)
            refine am_if rfl (fun c5 => ?_) (fun c5 => ?_)
            · iterate 2 (refine am_go rfl (by first | exact True.intro | omega | exact ⟨by decide, Nat.le_of_ble_eq_true rfl, Nat.le_of_ble_eq_true rfl⟩ | exact ⟨by decide, Nat.le_of_ble_eq_true rfl⟩) ?_)
              refine am_if rfl (fun c6 => ?_) (fun c6 => ?_)
              · rw [show zFact g cs k z = cs k by unfold zFact; rw [if_neg c3, if_neg c4, if_neg c5, if_neg c6]] at K1
                iterate 4 (refine am_go rfl (by first | exact True.intro | omega | exact ⟨by decide, Nat.le_of_ble_eq_true rfl, Nat.le_of_ble_eq_true rfl⟩ | exact ⟨by decide, Nat.le_of_ble_eq_true rfl⟩) ?_)
                rw [hc]
                exact am_iret rfl rfl rfl K1
              · rw [show zFact g cs k z = g 16 (zAlt (zPa g cs k).1 (zPa g cs k).2.1 (cs k)) by unfold zFact; rw [if_neg c3, if_neg c4, if_neg c5, if_pos (by omega)]] at K1
                iterate 8 (refine am_go rfl (by first | exact True.intro | omega | exact ⟨by decide, Nat.le_of_ble_eq_true rfl, Nat.le_of_ble_eq_true rfl⟩ | exact ⟨by decide, Nat.le_of_ble_eq_true rfl⟩) ?_)
                rw [hc]
                (refine am_callv rfl (cm_alternative k (cs k) (by omega) (by omega) (by omega) (by omega)) (by decide) (Nat.le_of_ble_eq_true rfl) (Nat.le_of_ble_eq_true rfl) ?_)
                rw [hy1, hz1]
                (refine am_go rfl (by first | exact True.intro | omega | exact ⟨by decide, Nat.le_of_ble_eq_true rfl, Nat.le_of_ble_eq_true rfl⟩ | exact ⟨by decide, Nat.le_of_ble_eq_true rfl⟩) ?_)
                rw [hat.2.2.2.1.1]
                (refine am_go rfl (by first | exact True.intro | omega | exact ⟨by decide, Nat.le_of_ble_eq_true rfl, Nat.le_of_ble_eq_true rfl⟩ | exact ⟨by decide, Nat.le_of_ble_eq_true rfl⟩) ?_)
                exact am_iret rfl rfl rfl K1
            · rw [show zFact g cs k z = (zPa g cs k).2.1 by unfold zFact; rw [if_neg c3, if_neg c4, if_pos (by omega)]] at K1
              iterate 4 (refine am_go rfl (by first | exact True.intro | omega | exact ⟨by decide, Nat.le_of_ble_eq_true rfl, Nat.le_of_ble_eq_true rfl⟩ | exact ⟨by decide, Nat.le_of_ble_eq_true rfl⟩) ?_)
              rw [hz1]
              (refine am_go rfl (by first | exact True.intro | omega | exact ⟨by decide, Nat.le_of_ble_eq_true rfl, Nat.le_of_ble_eq_true rfl⟩ | exact ⟨by decide, Nat.le_of_ble_eq_true rfl⟩) ?_)
              exact am_iret rfl rfl rfl K1
          · rw [show zFact g cs k z = (zPa g cs k).1 by unfold zFact; rw [if_neg c3, if_pos (by omega)]] at K1
            iterate 4 (refine am_go rfl (by first | exact True.intro | omega | exact ⟨by decide, Nat.le_of_ble_eq_true rfl, Nat.le_of_ble_eq_true rfl⟩ | exact ⟨by decide, Nat.le_of_ble_eq_true rfl⟩) ?_)
            rw [hy1]
            (refine am_go rfl (by first | exact True.intro | omega | exact ⟨by decide, Nat.le_of_ble_eq_true rfl, Nat.le_of_ble_eq_true rfl⟩ | exact ⟨by decide, Nat.le_of_ble_eq_true rfl⟩) ?_)
            exact am_iret rfl rfl rfl K1
        · rw [show zFact g cs k z = g 3 k by unfold zFact; rw [if_pos (by omega)]] at K1
          iterate 4 (refine am_go rfl (by first | exact True.intro | omega | exact ⟨by decide, Nat.le_of_ble_eq_true rfl, Nat.le_of_ble_eq_true rfl⟩ | exact ⟨by decide, Nat.le_of_ble_eq_true rfl⟩) ?_)
          rw [hkd]
          (refine am_go rfl (by first | exact True.intro | omega | exact ⟨by decide, Nat.le_of_ble_eq_true rfl, Nat.le_of_ble_eq_true rfl⟩ | exact ⟨by decide, Nat.le_of_ble_eq_true rfl⟩) ?_)
          exact am_iret rfl rfl rfl K1
      · iterate 5 (refine am_go rfl (by first | exact True.intro | omega | exact ⟨by decide, Nat.le_of_ble_eq_true rfl, Nat.le_of_ble_eq_true rfl⟩ | exact ⟨by decide, Nat.le_of_ble_eq_true rfl⟩) ?_)
        rw [hc]
        refine am_if rfl (fun c3 => ?_) (fun c3 => absurd c3 (fun u => u c1))
        iterate 6 (refine am_go rfl (by first | exact True.intro | omega | exact ⟨by decide, Nat.le_of_ble_eq_true rfl, Nat.le_of_ble_eq_true rfl⟩ | exact ⟨by decide, Nat.le_of_ble_eq_true rfl⟩) ?_)
        exact ih (k + 1) _ (by omega) (by rw [hs, if_neg c1]; omega) (by omega)
set_option maxRecDepth 100000 in
set_option maxHeartbeats 4000000 in
theorem cm_part (x y z : Int) (hI : zI f g) (hD : zD f g) (hS : mSS f g) : am_Ct l dC dI tc mm6_part 6 58 [(.inr (.inr (some 38))), .inl x, .inl y, .inl z] (58, f, g, pr_r a b c) (fun r s => ∃ F G T, s = (58, F, G, pr_r a b c) ∧ zFrM F f G g ∧ F 38 21 = 1 ∧ F 38 0 = 0 ∧ mRes F G T ∧ ((((x < 0 ∨ 2 ≤ x) ∨ z < 0 ∨ 5 ≤ z) ∧ r = some (.inl (-12))) ∨ (¬ ((x < 0 ∨ 2 ≤ x) ∨ z < 0 ∨ 5 ≤ z) ∧ ((T[x.toNat]? = none ∧ r = some (.inl (-1))) ∨ ∃ e, T[x.toNat]? = some e ∧ ((¬ (0 ≤ y ∧ y < (zPa G (zCs e) (F 2 0).toNat).2.2) ∧ r = some (.inl (-1))) ∨ ((0 ≤ y ∧ y < (zPa G (zCs e) (F 2 0).toNat).2.2) ∧ ∃ k : Nat, k < (F 2 0).toNat ∧ zCs e k ≠ 4 ∧ (zPa G (zCs e) k).2.2 = y ∧ r = some (.inl (zFact G (zCs e) k z)))))))) := by
  refine am_enter ok_6_part rfl (by decide) (Nat.le_of_ble_eq_true rfl) rfl ?_
  iterate 2 (refine am_go rfl (by first | exact True.intro | omega | exact ⟨by decide, Nat.le_of_ble_eq_true rfl, Nat.le_of_ble_eq_true rfl⟩ | exact ⟨by decide, Nat.le_of_ble_eq_true rfl⟩) ?_)
  refine am_call rfl (cm_isRank x hI hD hS) (by decide) (Nat.le_of_ble_eq_true rfl) (Nat.le_of_ble_eq_true rfl) (Nat.le_of_ble_eq_true rfl) (fun rv s q => ?_)
  obtain ⟨F, G, T, rfl, rfl, q1, q2, q3, q4⟩ := q
  have hn := mHo_n q4.2.1
  by_cases hx : 0 ≤ x ∧ x < 2
  · rw [if_pos hx]
    refine am_if rfl (fun c1 => by omega) (fun c1 => ?_)
    (refine am_go rfl (by first | exact True.intro | omega | exact ⟨by decide, Nat.le_of_ble_eq_true rfl, Nat.le_of_ble_eq_true rfl⟩ | exact ⟨by decide, Nat.le_of_ble_eq_true rfl⟩) ?_)
    refine am_if rfl (fun c2 => ?_) (fun c2 => ?_)
    · (refine am_go rfl (by first | exact True.intro | omega | exact ⟨by decide, Nat.le_of_ble_eq_true rfl, Nat.le_of_ble_eq_true rfl⟩ | exact ⟨by decide, Nat.le_of_ble_eq_true rfl⟩) ?_)
      exact am_iret rfl rfl rfl ⟨F, G, T, rfl, q1, q2, q3, q4, Or.inl ⟨by omega, rfl⟩⟩
    · iterate 2 (refine am_go rfl (by first | exact True.intro | omega | exact ⟨by decide, Nat.le_of_ble_eq_true rfl, Nat.le_of_ble_eq_true rfl⟩ | exact ⟨by decide, Nat.le_of_ble_eq_true rfl⟩) ?_)
      refine am_if rfl (fun c3 => ?_) (fun c3 => ?_)
      · have hok : ¬ ((x < 0 ∨ 2 ≤ x) ∨ z < 0 ∨ 5 ≤ z) := by omega
        iterate 3 (refine am_go rfl (by first | exact True.intro | omega | exact ⟨by decide, Nat.le_of_ble_eq_true rfl, Nat.le_of_ble_eq_true rfl⟩ | exact ⟨by decide, Nat.le_of_ble_eq_true rfl⟩) ?_)
        refine am_if rfl (fun c4 => ?_) (fun c4 => ?_)
        · (refine am_go rfl (by first | exact True.intro | omega | exact ⟨by decide, Nat.le_of_ble_eq_true rfl, Nat.le_of_ble_eq_true rfl⟩ | exact ⟨by decide, Nat.le_of_ble_eq_true rfl⟩) ?_)
          exact am_iret rfl rfl rfl ⟨F, G, T, rfl, q1, q2, q3, q4, Or.inr ⟨hok, Or.inl ⟨List.getElem?_eq_none (by omega), rfl⟩⟩⟩
        · obtain ⟨e, e1, e2⟩ := mHo_at q4.2.1 (x := x) (by omega)
          have hI1 := q1.d.I hI
          have hD1 := q1.d.D hD
          have hvd := mRes_vd hI1 q4 e (List.mem_of_getElem? e1)
          (refine am_go rfl (by first | exact True.intro | omega | exact ⟨by decide, Nat.le_of_ble_eq_true rfl, Nat.le_of_ble_eq_true rfl⟩ | exact ⟨by decide, Nat.le_of_ble_eq_true rfl⟩) ?_)
          refine am_if rfl (fun c5 => ?_) (fun c5 => ?_)
          · (refine am_go rfl (by first | exact True.intro | omega | exact ⟨by decide, Nat.le_of_ble_eq_true rfl, Nat.le_of_ble_eq_true rfl⟩ | exact ⟨by decide, Nat.le_of_ble_eq_true rfl⟩) ?_)
            exact am_iret rfl rfl rfl ⟨F, G, T, rfl, q1, q2, q3, q4, Or.inr ⟨hok, Or.inr ⟨e, e1, Or.inl ⟨by omega, rfl⟩⟩⟩⟩
          · iterate 3 (refine am_go rfl (by first | exact True.intro | omega | exact ⟨by decide, Nat.le_of_ble_eq_true rfl, Nat.le_of_ble_eq_true rfl⟩ | exact ⟨by decide, Nat.le_of_ble_eq_true rfl⟩) ?_)
            (refine am_callv rfl (cm_there x (by omega) hI1 hD1 e2) (by decide) (Nat.le_of_ble_eq_true rfl) (Nat.le_of_ble_eq_true rfl) ?_)
            refine am_if rfl (fun c6 => ?_) (fun c6 => ?_)
            · iterate 2 (refine am_go rfl (by first | exact True.intro | omega | exact ⟨by decide, Nat.le_of_ble_eq_true rfl, Nat.le_of_ble_eq_true rfl⟩ | exact ⟨by decide, Nat.le_of_ble_eq_true rfl⟩) ?_)
              refine am_call rfl (cm_again x (by omega) hI1 hD1 e2 hvd q4.1) (by decide) (Nat.le_of_ble_eq_true rfl) (Nat.le_of_ble_eq_true rfl) (Nat.le_of_ble_eq_true rfl) (fun rv s q => ?_)
              obtain ⟨rfl, G2, rfl, p1, p2⟩ := q
              have hd2 := p1.d F
              have hfr : zFrM F f G2 g := zFrM.tr ⟨fun _ _ _ => rfl, fun c j hc => p1 c j (by omega)⟩ q1
              have z55 : G2 55 0 = 0 := (p2.2 0 (by omega)).1
              have z56 : G2 56 0 = 0 := (p2.2 0 (by omega)).2
              have hres : mRes F G2 T := mRes_fr q4 hd2 rfl (fun j => p1 52 j (by decide)) (fun j => p1 53 j (by decide)) ⟨by rw [z55, q4.1.1], by rw [z56, q4.1.2]⟩
              iterate 4 (refine am_go rfl (by first | exact True.intro | omega | exact ⟨by decide, Nat.le_of_ble_eq_true rfl, Nat.le_of_ble_eq_true rfl⟩ | exact ⟨by decide, Nat.le_of_ble_eq_true rfl⟩) ?_)
              refine wp_part31 (cs := zCs e) x y z (hd2.I hI1) (hd2.D hD1) ⟨p2.1, fun j hj => by rw [hd2.pa]; exact p2.2 j hj⟩ (fun j hj => by rw [hd2.vl]; exact (hvd.2.1 j hj).1) (by rw [hd2.pa]; exact c6) (by omega) (fun k k1 k2 k3 => ?_) (F 2 0).toNat 0 y (by omega) (by simp [zPa]) (by omega)
              exact ⟨F, G2, T, rfl, hfr, q2, q3, hres, Or.inr ⟨hok, Or.inr ⟨e, e1, Or.inr ⟨by rw [hd2.pa]; omega, k, k1, k2, k3, rfl⟩⟩⟩⟩
            · (refine am_go rfl (by first | exact True.intro | omega | exact ⟨by decide, Nat.le_of_ble_eq_true rfl, Nat.le_of_ble_eq_true rfl⟩ | exact ⟨by decide, Nat.le_of_ble_eq_true rfl⟩) ?_)
              exact am_iret rfl rfl rfl ⟨F, G, T, rfl, q1, q2, q3, q4, Or.inr ⟨hok, Or.inr ⟨e, e1, Or.inl ⟨by omega, rfl⟩⟩⟩⟩
      · (refine am_go rfl (by first | exact True.intro | omega | exact ⟨by decide, Nat.le_of_ble_eq_true rfl, Nat.le_of_ble_eq_true rfl⟩ | exact ⟨by decide, Nat.le_of_ble_eq_true rfl⟩) ?_)
        exact am_iret rfl rfl rfl ⟨F, G, T, rfl, q1, q2, q3, q4, Or.inl ⟨by omega, rfl⟩⟩
  · rw [if_neg hx]
    refine am_if rfl (fun c1 => ?_) (fun c1 => by omega)
    (refine am_go rfl (by first | exact True.intro | omega | exact ⟨by decide, Nat.le_of_ble_eq_true rfl, Nat.le_of_ble_eq_true rfl⟩ | exact ⟨by decide, Nat.le_of_ble_eq_true rfl⟩) ?_)
    exact am_iret rfl rfl rfl ⟨F, G, T, rfl, q1, q2, q3, q4, Or.inl ⟨by omega, rfl⟩⟩
end Prt

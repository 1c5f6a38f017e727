/-! the class's print -/
def zFrC (F f : Nat → Nat → Int) (G g : Nat → Int → Int) : Prop := (∀ y j, y ≠ 0 ∨ j ≠ 9 → y ≠ 22 ∧ y ≠ 23 ∧ y ≠ 26 ∧ y ≠ 29 → F y j = f y j) ∧ ∀ y j, y < 23 ∨ 37 < y → G y j = g y j
theorem zFrF.d {F f : Nat → Nat → Int} {G g : Nat → Int → Int} (h : zFrF F f G g) : zFrD F f G g := ⟨fun c j hc => h.1 c j (by unfold zDf at hc; omega), fun c j hc => h.2 c j (by unfold zDg at hc; omega)⟩
theorem zFrC.d {F f : Nat → Nat → Int} {G g : Nat → Int → Int} (h : zFrC F f G g) : zFrD F f G g := ⟨fun c j hc => h.1 c j (by unfold zDf at hc; omega) (by unfold zDf at hc; omega), fun c j hc => h.2 c j (by unfold zDg at hc; omega)⟩
theorem zSS_0 {f : Nat → Nat → Int} {g : Nat → Int → Int} {a b c : Nat} (h : zSS f g a b c) (j : Nat) (v : Int) : zSS (am_u1 f 0 j v) g a b c := zSS_fr h (am_u1_c (by decide)) (am_u1_c (by decide)) (am_u1_c (by decide)) (fun x i h1 _ => am_u1_c (by omega)) (fun _ _ _ => rfl) (fun _ _ _ _ => rfl)
theorem cRes_vd {f : Nat → Nat → Int} {g : Nat → Int → Int} {a b : Nat} {T : List (Int × List Int)} (hI : zI f g) (h : cRes f g a b T) {n : Nat} {e : Int × List Int} (he : T[n]? = some e) : 0 < f 2 0 ∧ zVd f g (f 2 0).toNat e := by
  have i1 := hI.1
  by_cases c : 0 < f 2 0
  · exact ⟨c, zTw_m (h.2.1 c) e (List.mem_of_getElem? he)⟩
  · rw [h.2.2 (by omega)] at he
    simp at he
section Prn3
variable {l : Launch} {dC : Nat → ClassId} {dI : Nat → Nat → Nat} {tc : Nat → ClassId} {f : Nat → Nat → Int} {g : Nat → Int → Int} {a b c : Nat}
theorem zFrD.hd {F f : Nat → Nat → Int} {G0 g0 : Nat → Int → Int} (h : zFrD F f G0 g0) {N : Nat} {F1 : Nat → Nat → Int} {G1 : Nat → Int → Int} {q : Nat} {e : Int × List Int} : zHd G0 N F1 G1 q e ↔ zHd g0 N F1 G1 q e := by
  unfold zHd
  simp only [h.pa, h.2 3 _ (show zDg 3 by unfold zDg; omega), h.2 16 _ (show zDg 16 by unfold zDg; omega)]
theorem cRes_fr {F f : Nat → Nat → Int} {G g : Nat → Int → Int} {a b : Nat} {T : List (Int × List Int)} (hr : (23 ≤ a ∧ a + 2 < 37) ∧ 23 ≤ b ∧ b + 2 < 37) (hd : zFrD F f G g) (hf : ∀ y j, 23 ≤ y → y < 37 → F y j = f y j) (hg : ∀ y j, 23 ≤ y → y < 37 → G y j = g y j) (h : cRes f g a b T) : cRes F G a b T := by
  have e20 : F 2 0 = f 2 0 := hd.1 2 0 (by unfold zDf; omega)
  unfold cRes at h ⊢
  rw [e20]
  refine ⟨?_, fun u => zTw_c (fun e => (hd.vd _ e).symm) (h.2.1 u), h.2.2⟩
  have h1 := zRS_fr (F := F) (G := G) h.1 (fun j => hf a j (by omega) (by omega)) (fun j => hf b j (by omega) (by omega)) (fun j => hg _ j (by omega) (by omega)) (fun j => hg _ j (by omega) (by omega)) (fun j => hg _ j (by omega) (by omega)) (fun j => hg _ j (by omega) (by omega))
  match T, h1 with
  | [], h1 => exact h1
  | [u], h1 => exact ⟨hd.hd.mpr h1.1, h1.2⟩
  | [u, w], h1 => exact ⟨hd.hd.mpr h1.1, hd.hd.mpr h1.2⟩
set_option maxRecDepth 100000 in
set_option maxHeartbeats 4000000 in
theorem ct_print (x : Int) (h : zSS f g a b c) (hD : zD f g) : am_Ct l dC dI tc mm0_print 6 58 [(.inr (.inr (some 0))), .inl x] (58, f, g, pr_r a b c) (fun r s => ((x < 0 ∨ 2 ≤ x) ∧ r = some (.inl (-12)) ∧ s = (58, f, g, pr_r a b c)) ∨ (¬ (x < 0 ∨ 2 ≤ x) ∧ ∃ F G a' b' c' T L, s = (58, F, G, pr_r a' b' c') ∧ r = some (.inl (L.length : Int)) ∧ zSS F G a' b' c' ∧ F 22 4 = 1 ∧ cRes F G a' b' T ∧ zFrC F f G g ∧ zPg (F 0 9) (G 37) L ∧ L = (match T[x.toNat]? with | some e => zPt G (zCs e) (F 2 0).toNat | none => []))) := by
  refine am_enter ok_0_print rfl (by decide) (Nat.le_of_ble_eq_true rfl) rfl ?_
  (refine am_go rfl (by first | exact True.intro | omega | exact ⟨by decide, Nat.le_of_ble_eq_true rfl, Nat.le_of_ble_eq_true rfl⟩ | exact ⟨by decide, Nat.le_of_ble_eq_true rfl⟩) ?_)
  (refine am_callv rfl (ct_isNoRank x) (by decide) (Nat.le_of_ble_eq_true rfl) (Nat.le_of_ble_eq_true rfl) ?_)
  by_cases hx : x < 0 ∨ 2 ≤ x
  · rw [if_pos hx]
    refine am_if rfl (fun c1 => by omega) (fun c1 => ?_)
    (refine am_go rfl (by first | exact True.intro | omega | exact ⟨by decide, Nat.le_of_ble_eq_true rfl, Nat.le_of_ble_eq_true rfl⟩ | exact ⟨by decide, Nat.le_of_ble_eq_true rfl⟩) ?_)
    exact am_iret rfl rfl rfl (Or.inl ⟨hx, rfl, rfl⟩)
  · rw [if_neg hx]
    refine am_if rfl (fun c1 => ?_) (fun c1 => by omega)
    iterate 5 (refine am_go rfl (by first | exact True.intro | omega | exact ⟨by decide, Nat.le_of_ble_eq_true rfl, Nat.le_of_ble_eq_true rfl⟩ | exact ⟨by decide, Nat.le_of_ble_eq_true rfl⟩) ?_)
    refine am_call rfl (ct_readingOf x (zSS_0 h 9 0)) (by decide) (Nat.le_of_ble_eq_true rfl) (Nat.le_of_ble_eq_true rfl) (Nat.le_of_ble_eq_true rfl) (fun rv s q => ?_)
    obtain ⟨F, G, a', b', c', rfl, rfl, p2, p3, p4, p5⟩ := q
    have hIF := p2.2.1
    have hd0 : zFrD (am_u1 f 0 9 0) f g g := ⟨fun c j hc => am_u1_c (by unfold zDf at hc; omega), fun _ _ _ => rfl⟩
    have hDF : zD F G := p5.d.D (hd0.D hD)
    obtain ⟨T, hT⟩ := zRes_c hIF hDF p4
    have f9 : F 0 9 = 0 := by rw [p5.1 0 9 (by decide), am_u1_s]
    have hfr : zFrC F f G g := ⟨fun y j h1 h2 => by rw [p5.1 y j (by omega), am_u1_ne h1], fun y j hy => p5.2 y j (by omega)⟩
    have hcase := zRS_at hT.1 (x := x) (by omega)
    have hq := zPm_q p2.1 x
    revert hcase hq
    generalize (if x = 0 then a' else b') = q
    intro hcase hq
    iterate 3 (refine am_go rfl (by first | exact True.intro | omega | exact ⟨by decide, Nat.le_of_ble_eq_true rfl, Nat.le_of_ble_eq_true rfl⟩ | exact ⟨by decide, Nat.le_of_ble_eq_true rfl⟩) ?_)
    rcases hq with rfl | rfl | rfl
    · rcases hcase with ⟨e, e1, e2⟩ | ⟨e1, e2⟩
      · obtain ⟨h0, hvd⟩ := cRes_vd hIF hT e1
        obtain ⟨k, k1, k2, k3⟩ := zFirst (cs := zCs e) (N := (F 2 0).toNat)
        obtain ⟨z1, z2, z3, z4⟩ := zPa_z (g := G) k k2
        have hsz := e2.2.2.1
        have hpN := zPa_n G (zCs e) (F 2 0).toNat
        refine wp_cprint23 (a := a') (b := b') (c := c') x hIF hDF e2 hvd.2.1 h0 (fun F' G' t1 t2 => ?_) (F 23 0).toNat 0 k F G (by omega) k1 (by rw [z3]; rfl) k3 (zFrT.rf _ _ _ _ _) (by rw [z4, f9]; exact zPg_nil _)
        have hd3 : zFrD F' F G' G := ⟨fun c j hc => t1.1 c j (by unfold zDf at hc; omega), fun c j hc => t1.2 c j (by unfold zDg at hc; omega)⟩
        refine Or.inr ⟨by omega, F', G', a', b', c', T, zPt G' (zCs e) (F' 2 0).toNat, rfl, ?_, ?_, by rw [t1.1 22 4 (by decide)]; exact p3, ?_, ⟨fun y j hy1 hy2 => by rw [t1.1 y j hy1]; exact hfr.1 y j hy1 hy2, fun y j hy => by rw [t1.2 y j (by omega)]; exact hfr.2 y j hy⟩, ?_, by rw [e1]⟩
        · rw [hd3.pt, hd3.1 2 0 (by unfold zDf; omega), t2.1]
        · exact zSS_fr p2 (t1.1 2 0 (by decide)) (t1.1 12 0 (by decide)) (t1.1 18 0 (by decide)) (fun y j h1 _ => t1.1 y j (by omega)) (fun y j hy => t1.2 y j (by omega)) (fun y j h1 h2 => t1.2 y j (by omega))
        · exact cRes_fr (zPm_r p2.1) hd3 (fun y j h1 h2 => t1.1 y j (by omega)) (fun y j h1 h2 => t1.2 y j (by omega)) hT
        · rw [hd3.pt, hd3.1 2 0 (by unfold zDf; omega)]
          exact t2
      · have hm1 := e2.1
        iterate 3 (refine am_go rfl (by first | exact True.intro | omega | exact ⟨by decide, Nat.le_of_ble_eq_true rfl, Nat.le_of_ble_eq_true rfl⟩ | exact ⟨by decide, Nat.le_of_ble_eq_true rfl⟩) ?_)
        refine am_if rfl (fun c1 => ?_) (fun c1 => by omega)
        iterate 2 (refine am_go rfl (by first | exact True.intro | omega | exact ⟨by decide, Nat.le_of_ble_eq_true rfl, Nat.le_of_ble_eq_true rfl⟩ | exact ⟨by decide, Nat.le_of_ble_eq_true rfl⟩) ?_)
        exact am_iret rfl rfl rfl (Or.inr ⟨by omega, F, G, a', b', c', T, [], rfl, by rw [f9]; rfl, p2, p3, hT, hfr, by rw [f9]; exact zPg_nil _, by rw [e1]⟩)
    · rcases hcase with ⟨e, e1, e2⟩ | ⟨e1, e2⟩
      · obtain ⟨h0, hvd⟩ := cRes_vd hIF hT e1
        obtain ⟨k, k1, k2, k3⟩ := zFirst (cs := zCs e) (N := (F 2 0).toNat)
        obtain ⟨z1, z2, z3, z4⟩ := zPa_z (g := G) k k2
        have hsz := e2.2.2.1
        have hpN := zPa_n G (zCs e) (F 2 0).toNat
        refine wp_cprint26 (a := a') (b := b') (c := c') x hIF hDF e2 hvd.2.1 h0 (fun F' G' t1 t2 => ?_) (F 26 0).toNat 0 k F G (by omega) k1 (by rw [z3]; rfl) k3 (zFrT.rf _ _ _ _ _) (by rw [z4, f9]; exact zPg_nil _)
        have hd3 : zFrD F' F G' G := ⟨fun c j hc => t1.1 c j (by unfold zDf at hc; omega), fun c j hc => t1.2 c j (by unfold zDg at hc; omega)⟩
        refine Or.inr ⟨by omega, F', G', a', b', c', T, zPt G' (zCs e) (F' 2 0).toNat, rfl, ?_, ?_, by rw [t1.1 22 4 (by decide)]; exact p3, ?_, ⟨fun y j hy1 hy2 => by rw [t1.1 y j hy1]; exact hfr.1 y j hy1 hy2, fun y j hy => by rw [t1.2 y j (by omega)]; exact hfr.2 y j hy⟩, ?_, by rw [e1]⟩
        · rw [hd3.pt, hd3.1 2 0 (by unfold zDf; omega), t2.1]
        · exact zSS_fr p2 (t1.1 2 0 (by decide)) (t1.1 12 0 (by decide)) (t1.1 18 0 (by decide)) (fun y j h1 _ => t1.1 y j (by omega)) (fun y j hy => t1.2 y j (by omega)) (fun y j h1 h2 => t1.2 y j (by omega))
        · exact cRes_fr (zPm_r p2.1) hd3 (fun y j h1 h2 => t1.1 y j (by omega)) (fun y j h1 h2 => t1.2 y j (by omega)) hT
        · rw [hd3.pt, hd3.1 2 0 (by unfold zDf; omega)]
          exact t2
      · have hm1 := e2.1
        iterate 3 (refine am_go rfl (by first | exact True.intro | omega | exact ⟨by decide, Nat.le_of_ble_eq_true rfl, Nat.le_of_ble_eq_true rfl⟩ | exact ⟨by decide, Nat.le_of_ble_eq_true rfl⟩) ?_)
        refine am_if rfl (fun c1 => ?_) (fun c1 => by omega)
        iterate 2 (refine am_go rfl (by first | exact True.intro | omega | exact ⟨by decide, Nat.le_of_ble_eq_true rfl, Nat.le_of_ble_eq_true rfl⟩ | exact ⟨by decide, Nat.le_of_ble_eq_true rfl⟩) ?_)
        exact am_iret rfl rfl rfl (Or.inr ⟨by omega, F, G, a', b', c', T, [], rfl, by rw [f9]; rfl, p2, p3, hT, hfr, by rw [f9]; exact zPg_nil _, by rw [e1]⟩)
    · rcases hcase with ⟨e, e1, e2⟩ | ⟨e1, e2⟩
      · obtain ⟨h0, hvd⟩ := cRes_vd hIF hT e1
        obtain ⟨k, k1, k2, k3⟩ := zFirst (cs := zCs e) (N := (F 2 0).toNat)
        obtain ⟨z1, z2, z3, z4⟩ := zPa_z (g := G) k k2
        have hsz := e2.2.2.1
        have hpN := zPa_n G (zCs e) (F 2 0).toNat
        refine wp_cprint29 (a := a') (b := b') (c := c') x hIF hDF e2 hvd.2.1 h0 (fun F' G' t1 t2 => ?_) (F 29 0).toNat 0 k F G (by omega) k1 (by rw [z3]; rfl) k3 (zFrT.rf _ _ _ _ _) (by rw [z4, f9]; exact zPg_nil _)
        have hd3 : zFrD F' F G' G := ⟨fun c j hc => t1.1 c j (by unfold zDf at hc; omega), fun c j hc => t1.2 c j (by unfold zDg at hc; omega)⟩
        refine Or.inr ⟨by omega, F', G', a', b', c', T, zPt G' (zCs e) (F' 2 0).toNat, rfl, ?_, ?_, by rw [t1.1 22 4 (by decide)]; exact p3, ?_, ⟨fun y j hy1 hy2 => by rw [t1.1 y j hy1]; exact hfr.1 y j hy1 hy2, fun y j hy => by rw [t1.2 y j (by omega)]; exact hfr.2 y j hy⟩, ?_, by rw [e1]⟩
        · rw [hd3.pt, hd3.1 2 0 (by unfold zDf; omega), t2.1]
        · exact zSS_fr p2 (t1.1 2 0 (by decide)) (t1.1 12 0 (by decide)) (t1.1 18 0 (by decide)) (fun y j h1 _ => t1.1 y j (by omega)) (fun y j hy => t1.2 y j (by omega)) (fun y j h1 h2 => t1.2 y j (by omega))
        · exact cRes_fr (zPm_r p2.1) hd3 (fun y j h1 h2 => t1.1 y j (by omega)) (fun y j h1 h2 => t1.2 y j (by omega)) hT
        · rw [hd3.pt, hd3.1 2 0 (by unfold zDf; omega)]
          exact t2
      · have hm1 := e2.1
        iterate 3 (refine am_go rfl (by first | exact True.intro | omega | exact ⟨by decide, Nat.le_of_ble_eq_true rfl, Nat.le_of_ble_eq_true rfl⟩ | exact ⟨by decide, Nat.le_of_ble_eq_true rfl⟩) ?_)
        refine am_if rfl (fun c1 => ?_) (fun c1 => by omega)
        iterate 2 (refine am_go rfl (by first | exact True.intro | omega | exact ⟨by decide, Nat.le_of_ble_eq_true rfl, Nat.le_of_ble_eq_true rfl⟩ | exact ⟨by decide, Nat.le_of_ble_eq_true rfl⟩) ?_)
        exact am_iret rfl rfl rfl (Or.inr ⟨by omega, F, G, a', b', c', T, [], rfl, by rw [f9]; rfl, p2, p3, hT, hfr, by rw [f9]; exact zPg_nil _, by rw [e1]⟩)
end Prn3

/-! the law's case of read -/
theorem lw_d129 : decode code 129 = .ok (.aload_n 1, 1) := by decide +kernel
theorem lw_d130 : decode code 130 = .ok (.aload_n 3, 1) := by decide +kernel
theorem lw_d131 : decode code 131 = .ok (.invokestatic 24, 3) := by decide +kernel
theorem lw_d134 : decode code 134 = .ok (.istore 5, 2) := by decide +kernel
theorem lw_d136 : decode code 136 = .ok (.aload_n 2, 1) := by decide +kernel
theorem lw_d137 : decode code 137 = .ok (.invokevirtual 29, 3) := by decide +kernel
theorem lw_d140 : decode code 140 = .ok (.istore 6, 2) := by decide +kernel
theorem lw_d142 : decode code 142 = .ok (.aload_n 2, 1) := by decide +kernel
theorem lw_d143 : decode code 143 = .ok (.invokevirtual 30, 3) := by decide +kernel
theorem lw_d146 : decode code 146 = .ok (.iload 5, 2) := by decide +kernel
theorem lw_d148 : decode code 148 = .ok (.if_icmp .eq 5, 3) := by decide +kernel
theorem lw_d153 : decode code 153 = .ok (.iload 5, 2) := by decide +kernel
theorem lw_d155 : decode code 155 = .ok (.ifCond .ne 15, 3) := by decide +kernel
theorem lw_d158 : decode code 158 = .ok (.aload_n 3, 1) := by decide +kernel
theorem lw_d159 : decode code 159 = .ok (.iconst 0, 1) := by decide +kernel
theorem lw_d160 : decode code 160 = .ok (.laload, 1) := by decide +kernel
theorem lw_d161 : decode code 161 = .ok (.iload 6, 2) := by decide +kernel
theorem lw_d163 : decode code 163 = .ok (.i2l, 1) := by decide +kernel
theorem lw_d164 : decode code 164 = .ok (.lcmp, 1) := by decide +kernel
theorem lw_d165 : decode code 165 = .ok (.ifCond .eq 5, 3) := by decide +kernel
theorem lw_d170 : decode code 170 = .ok (.goto 334, 3) := by decide +kernel
theorem lw_y24 : am_isin (.methodLink R_law 24 lr_y) = true := by decide +kernel
theorem lw_m29 : am_isin (Cond.methodLink R_law 29 mm6_read.1) = true ∧ am_isin (Cond.instanceMethod mm6_read.1) = true ∧ am_isin (Cond.selects mm6_read.1.cls mm6_read.1 mm6_read.1) = true ∧ am_isin (Cond.initialized mm6_read.1.cls) = true ∧ am_sig mm6_read 1 (0 + 1) = true := ⟨by decide +kernel, by decide +kernel, by decide +kernel, by decide +kernel, by decide +kernel⟩
theorem lw_m30 : am_isin (Cond.methodLink R_law 30 mm6_thrown.1) = true ∧ am_isin (Cond.instanceMethod mm6_thrown.1) = true ∧ am_isin (Cond.selects mm6_thrown.1.cls mm6_thrown.1 mm6_thrown.1) = true ∧ am_isin (Cond.initialized mm6_thrown.1.cls) = true ∧ am_sig mm6_thrown 1 (0 + 1) = true := ⟨by decide +kernel, by decide +kernel, by decide +kernel, by decide +kernel, by decide +kernel⟩
section LwR
variable {p : Program} {l : Launch} {e : Env} {s : State} {m : MethodId} {below : List Frame} {meth : Method} {c : Code} {b L : Nat} {xs : Nat → Int32} {dC : Nat → ClassId} {dI : Nat → Nat → Nat} {tc : Nat → ClassId} {ad0 : Nat → Nat} {cJ : ClassId} {oa : Nat} {H : Heap} {locs : List Loc} {cells slots : Nat} {Q : State → Prop} {ad : Nat → Nat} {fo : Nat → Int64} {σ : am_H} {ls : Array Slot} {rest st : List Value} {i pc : Nat}
set_option maxRecDepth 100000 in
set_option maxHeartbeats 4000000 in
theorem lw_rd {RR : Int → am_H → Int64 → Prop} (G : lw_G dC dI tc ad0 cJ p s m meth c b L xs) (J : lw_J dC dI tc s ad0 oa cJ H locs ad fo σ) (hM : Met l lr_y (lr_cw :: am_tb) lr_rm (lr_P dC dI tc ad σ oa cJ fo H.size) (lr_Q dC dI tc ad oa cJ (va_A (lw_X oa cJ fo :: am_w ad tc σ) H.size) RR) 1 6 (va_A (lw_X oa cJ fo :: am_w ad tc σ) H.size)) (hr : cells + 1 ≤ 1084 ∧ slots + 6 ≤ 13087) (hsize : ls.size = 7)
    (k : ∀ kz σ' ad' fo' H' locs', RR kz σ' (fo' 0) → lw_J dC dI tc s ad0 oa cJ H' locs' ad' fo' σ' → (∀ k, k < 58 → ad' k = ad k) → W p l e room_1 s m #[Value.ref b] below meth c H' locs' (cells + 1) (slots + 6) Q (F0 m 134 ls [.int (Int32.ofInt kz)])) : W p l e room_1 s m #[Value.ref b] below meth c H locs cells slots Q (F0 m 131 ls [.ref oa, .ref (ad 0)]) := by
  obtain ⟨C0, hL, hK, hZ, hE⟩ := G
  have hJA := lw_JA J
  obtain ⟨hn, hhf, hP, hD, hS, had⟩ := J
  have hpre : FrameBlind (lr_P dC dI tc ad σ oa cJ fo H.size) ∧ ∀ U : State, U.heap = H → s.WarmedH U.vm → lr_P dC dI tc ad σ oa cJ fo H.size [Value.ref (ad 0), Value.ref oa].toArray U := by
    refine ⟨?_, fun U hU hW => ⟨rfl, by rw [hU], by rw [hU]; exact hP, va_K.moved hW.alike hK, hD.weaken (fun _ _ _ _ => trivial), am_Z.call hZ hS hJA had hU hW, hE.go hW (fun q h1 h2 => by rw [hU]; exact hS.2.1 q h1 h2) hJA⟩⟩
    intro a U g mk q
    obtain ⟨q0, q1, qP, qK, qD, qZ, qE⟩ := q
    exact ⟨q0, q1, qP, va_K.moved (u := U) (U := U.calling g mk a) (Vm.Alike.refl U.vm) qK, qD, am_Z.blind qZ, qE.go (U := U.calling g mk a) (State.WarmedH.refl _) (fun _ _ _ => rfl) (fun _ h => h)⟩
  have hrun := lr_runS (l := l) (e := e) (R := room_1) (below := below) (meth := meth) (H := H) (locs := locs) (cells := cells) (slots := slots) (As := [Value.ref (ad 0), Value.ref oa]) (rest := []) (g := F0 m 131 ls [.ref oa, .ref (ad 0)]) (n := 2) (index := 24) (bytes := method_3_code) (maxL := 3) (ret := some .int) (hh := [(0, 8, 11, 13)]) (lw_fix C0) hM rfl rfl (Nat.le_of_ble_eq_true rfl) (Nat.le_of_ble_eq_true rfl) (fun w hw => by
    rcases List.mem_cons.mp hw with rfl | hw
    · exact am_in_tb lr_wc
    · exact hw) List.mem_cons_self lr_wi lw_y24 lr_ws ⟨by decide +kernel, by decide +kernel⟩ lr_sgy hpre rfl rfl hsize rfl (Nat.le_of_ble_eq_true rfl) lw_d131 hr
  intro T hT X
  obtain ⟨v, st₀, t, T', L', h0, X', hLL, e1, e2, ⟨⟨kz, σ', ad', fo', ho, hRR, had', hnn, hhf', hP', hD'⟩, hF⟩, hst⟩ := hrun T hT X
  have hv : v = some (.int (Int32.ofInt kz)) := Outcome.returned.inj ho
  subst hv
  have hF1 : H.size ≤ t.heap.size := by rw [← h0]; exact hF.1
  have hF2 : ∀ q : Nat, q < H.size → ¬ va_A (lw_X oa cJ fo :: am_w ad tc σ) H.size q → t.heap[q]? = H[q]? := fun q g1 g2 => by
    have := hF.2 q (by rw [h0]; exact g1) g2
    rwa [h0] at this
  have hS1 : va_S (lw_A s) s.heap T'.heap (locs ++ L') := ⟨Nat.le_trans hS.1 (by rw [e1]; exact hF1), fun q g1 g2 => by
      rw [e1, hF2 q (Nat.lt_of_lt_of_le g1 hS.1) (fun z => g2 (hJA q z))]
      exact hS.2.1 q g1 g2, fun q hq => by
      rcases List.mem_append.mp hq with g | g
      · exact hS.2.2 q g
      · exact hJA _ (hLL q g)⟩
  have kk := k kz σ' ad' fo' T'.heap (locs ++ L') hRR ⟨hnn, hhf', by rw [e1]; exact hP', hD'.weaken (fun _ q _ h => hJA q.1 h), hS1, fun k hk => (had' k (Or.inr hk)).trans (had k hk)⟩ (fun k hk => had' k (Or.inl hk))
  obtain ⟨t2, a1, b1⟩ := kk T' rfl X'
  exact ⟨t2, hst t2 a1, b1⟩
set_option maxRecDepth 100000 in
set_option maxHeartbeats 4000000 in
theorem lw_rest {kz q : Int} {Q2 : Option am_V → am_H → Prop} (G : lw_G dC dI tc ad0 cJ p s m meth c b L xs) (J : lw_J dC dI tc s ad0 oa cJ H locs ad fo σ) (hk : kz = 0 ∨ kz = 1) (hC : am_Ct l dC dI tc mm6_read 3 58 [.inr (.inr (some 38))] σ Q2) (hQ : ∀ r2 s2, Q2 r2 s2 → r2 = some (.inl q) ∧ ∃ F G a' b' c', s2 = (58, F, G, pr_r a' b' c') ∧ F 38 0 = kz ∧ zSim F G a' b' c') (hfo : kz = 0 → fo 0 = (Int32.ofInt q).toInt64) (hr : cells + 1 ≤ 1084 ∧ slots + 6 ≤ 13087) (hl : lv_has ls 7 [(0, .ref b), (1, .ref (ad 0)), (2, .ref (ad 38)), (3, .ref oa), (4, .int (nI i))]) (kont : ∀ H' locs' ad' fo' σ' ls', lw_J dC dI tc s ad0 oa cJ H' locs' ad' fo' σ' → zSg σ' → lv_has ls' 7 [(0, .ref b), (1, .ref (ad' 0)), (2, .ref (ad' 38)), (3, .ref oa), (4, .int (nI i))] → W p l e room_1 s m #[Value.ref b] below meth c H' locs' (cells + 1) (slots + 6) Q (F0 m 504 ls' [])) : W p l e room_1 s m #[Value.ref b] below meth c H locs (cells + 1) (slots + 6) Q (F0 m 134 ls [.int (Int32.ofInt kz)]) := by
  have C0 := G.1
  refine lv_istore C0.1 C0.2.1 lw_d134 hl (by decide) rfl (fun ls1 hl1 => ?_)
  refine lv_aload_n C0.1 C0.2.1 lw_d136 rfl (lv_at hl1 3 rfl) ?_
  refine lw_one (as3 := []) (mno := 23) G J hC trivial rfl rfl rfl (by omega) lw_m29 (by omega) hr hl1.1 rfl (by simp) lw_d137 (fun r2 σ2 ad2 H2 locs2 hQ2 J2 e2 => ?_)
  obtain ⟨rfl, F, G2, a', b', c', rfl, hF0, hz⟩ := hQ r2 σ2 hQ2
  refine lv_istore C0.1 C0.2.1 lw_d140 hl1 (by decide) rfl (fun ls2 hl2 => ?_)
  refine lv_aload_n C0.1 C0.2.1 lw_d142 rfl (lv_at hl2 4 rfl) ?_
  refine lw_one (as3 := []) (mno := 18) G J2 cm_thrown trivial rfl rfl rfl (by omega) lw_m30 (by omega) hr hl2.1 (by rw [e2 38 (by omega)]; rfl) (by simp) lw_d143 (fun r3 σ3 ad3 H3 locs3 hQ3 J3 e3 => ?_)
  obtain ⟨rfl, rfl⟩ := hQ3
  rw [hF0]
  refine lv_iload C0.1 C0.2.1 lw_d146 (lv_at hl2 1 rfl) ?_
  refine lv_icmp_eq (tgt := 153) C0.1 C0.2.1 lw_d148 rfl (fun _ => ?_) (fun h => absurd rfl h)
  refine lv_iload C0.1 C0.2.1 lw_d153 (lv_at hl2 1 rfl) ?_
  have fin : W p l e room_1 s m #[Value.ref b] below meth c H3 locs3 (cells + 1) (slots + 6) Q (F0 m 170 ls2 []) := by
    refine lv_goto (tgt := 504) C0.1 C0.2.1 lw_d170 rfl ?_
    refine kont H3 locs3 ad3 fo _ ls2 J3 ⟨_, _, _, _, _, rfl, hz⟩ ?_
    refine lw_lv2 (lv_sub hl2 [2, 3, 4, 5, 6] rfl) (fun k hk => (e3 k hk).trans (e2 k hk))
  refine lv_if_ne (tgt := 170) C0.1 C0.2.1 lw_d155 rfl (fun _ => fin) (fun h0 => ?_)
  have hk0 : kz = 0 := by
    rcases hk with rfl | rfl
    · rfl
    · exact absurd h0 (by decide)
  refine lv_aload_n C0.1 C0.2.1 lw_d158 rfl (lv_at hl2 5 rfl) ?_
  refine lv_iconst (v := 0) C0.1 C0.2.1 lw_d159 (by decide) ?_
  refine va_lald C0.1 C0.2.1 G.2.2.1 J3.2.2.1 0 3 rfl rfl (i := 0) (vp_in_iff.mpr (by decide)) lw_d160 ?_
  refine lv_iload C0.1 C0.2.1 lw_d161 (lv_at hl2 0 rfl) ?_
  refine lv_i2l C0.1 C0.2.1 lw_d163 rfl ?_
  refine W.lcmp C0.1 C0.2.1 lw_d164 ?_
  have e0 : lg_cmp (fo (0 : Int32).toNatClampNeg) (Int32.ofInt q).toInt64 = 0 := by
    have e9 : fo (0 : Int32).toNatClampNeg = (Int32.ofInt q).toInt64 := hfo hk0
    rw [e9]
    simp [lg_cmp]
  rw [e0]
  exact lv_if_eq (tgt := 170) C0.1 C0.2.1 lw_d165 rfl (fun _ => fin) (fun h => absurd rfl h)
set_option maxRecDepth 100000 in
set_option maxHeartbeats 4000000 in
theorem lw_c129 (hfl : l.flags = flags0) (G : lw_G dC dI tc ad0 cJ p s m meth c b L xs) (J : lw_J dC dI tc s ad0 oa cJ H locs ad fo σ) (hz : zSg σ) (hr : cells + 1 ≤ 1084 ∧ slots + 6 ≤ 13087) (hl : lv_has ls 7 [(0, .ref b), (1, .ref (ad 0)), (2, .ref (ad 38)), (3, .ref oa), (4, .int (nI i))]) (kont : ∀ H' locs' ad' fo' σ' ls', lw_J dC dI tc s ad0 oa cJ H' locs' ad' fo' σ' → zSg σ' → lv_has ls' 7 [(0, .ref b), (1, .ref (ad' 0)), (2, .ref (ad' 38)), (3, .ref oa), (4, .int (nI i))] → W p l e room_1 s m #[Value.ref b] below meth c H' locs' (cells + 1) (slots + 6) Q (F0 m 504 ls' [])) : W p l e room_1 s m #[Value.ref b] below meth c H locs cells slots Q (F0 m 129 ls []) := by
  obtain ⟨f, g, a, b', c', rfl, h⟩ := hz
  have C0 := G.1
  have hhf := J.2.1
  refine lv_aload_n C0.1 C0.2.1 lw_d129 rfl (lv_at hl 1 rfl) ?_
  refine lv_aload_n C0.1 C0.2.1 lw_d130 rfl (lv_at hl 3 rfl) ?_
  obtain ⟨t1, t2, t3⟩ := h.2.1
  by_cases hok : (zRun (g 1) (f 0 1).toNat 0 zS0).1 = -1
  · obtain ⟨Q1, hC1, hq⟩ := op_read_ok (l := l) (dC := dC) (dI := dI) (tc := tc) h hok
    refine lw_rd G J (lr_ok hC1 hhf (fun r s hq1 => by obtain ⟨q, hr, -⟩ := hq r s hq1; exact ⟨q, hr⟩) H.size) hr hl.1 (fun kz σ' ad' fo' H' locs' hRR J' e' => ?_)
    obtain ⟨rfl, q, hQ1, hv⟩ := hRR
    obtain ⟨q', hq1, Q2, hC2, hq2⟩ := hq _ _ hQ1
    cases hq1
    exact lw_rest G J' (Or.inl rfl) hC2 hq2 (fun _ => hv) hr (lw_lv2 hl e') kont
  · refine lw_rd G J (lr_bad hfl t2 (fun i hi => (t3 i (by omega) (by omega)).2) hok hhf H.size) hr hl.1 (fun kz σ' ad' fo' H' locs' hRR J' e' => ?_)
    obtain ⟨rfl, ⟨F, G2, rfl, hT⟩, hv⟩ := hRR
    obtain ⟨Q2, hC2, hq2⟩ := op_read_bad (l := l) (dC := dC) (dI := dI) (tc := tc) h hok hT
    exact lw_rest G J' (Or.inr rfl) hC2 hq2 (fun h => absurd h (by decide)) hr (lw_lv2 hl e') kont
end LwR

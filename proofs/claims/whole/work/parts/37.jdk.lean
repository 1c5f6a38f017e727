/-! the JDK's methods on Strings: their code as lists -/
def mk_coder : am_M := (⟨"java/lang/String", "coder", "()B"⟩, prog_14_method_152_code, 1, (some (.byte)), [(0, .getstatic (38), 1, [], 0), (3, .ifCond .eq (10), 2, [5], 0), (6, .aload_n 0, 3, [], 0), (7, .getfield (15), 4, [], 0), (10, .goto (4), 5, [6], 0), (13, .iconst (1), 6, [], 0), (14, .ireturn, 7, [], 0)])
def mk_isLatin1 : am_M := (⟨"java/lang/String", "isLatin1", "()Z"⟩, prog_14_method_154_code, 1, (some (.boolean)), [(0, .getstatic (38), 1, [], 0), (3, .ifCond .eq (14), 2, [7], 0), (6, .aload_n 0, 3, [], 0), (7, .getfield (15), 4, [], 0), (10, .ifCond .ne (7), 5, [7], 0), (13, .iconst (1), 6, [], 0), (14, .goto (4), 7, [8], 0), (17, .iconst (0), 8, [], 0), (18, .ireturn, 9, [], 0)])
def mk_length : am_M := (⟨"java/lang/String", "length", "()I"⟩, prog_14_method_54_code, 1, (some (.int)), [(0, .aload_n 0, 1, [], 0), (1, .getfield (9), 2, [], 0), (4, .arraylength, 3, [], 0), (5, .aload_n 0, 4, [], 0), (6, .invokevirtual (335), 5, [], 0), (9, .ishr, 6, [], 0), (10, .ireturn, 7, [], 0)])
def mk_checkIndex : am_M := (⟨"java/lang/String", "checkIndex", "(II)V"⟩, prog_14_method_155_code, 2, none, [(0, .iload_n 0, 1, [], 0), (1, .iload_n 1, 2, [], 0), (2, .getstatic (1053), 3, [], 0), (5, .invokestatic (1059), 4, [0, 0, 0], 0), (8, .pop, 5, [], 0), (9, .return_, 6, [], 0)])
def mk_lcharAt : am_M := (⟨"java/lang/StringLatin1", "charAt", "([BI)C"⟩, prog_15_method_2_code, 2, (some (.char)), [(0, .iload_n 1, 1, [], 0), (1, .aload_n 0, 2, [], 0), (2, .arraylength, 3, [], 0), (3, .invokestatic (9), 4, [0, 0, 0], 0), (6, .aload_n 0, 5, [], 0), (7, .iload_n 1, 6, [], 0), (8, .baload, 7, [], 0), (9, .sipush (255), 8, [], 0), (12, .iand, 9, [], 0), (13, .i2c, 10, [], 0), (14, .ireturn, 11, [], 0)])
def mk_charAt : am_M := (⟨"java/lang/String", "charAt", "(I)C"⟩, prog_14_method_56_code, 2, (some (.char)), [(0, .aload_n 0, 1, [], 0), (1, .invokevirtual (492), 2, [], 0), (4, .ifCond .eq (12), 3, [8], 0), (7, .aload_n 0, 4, [], 0), (8, .getfield (9), 5, [], 0), (11, .iload_n 1, 6, [], 0), (12, .invokestatic (495), 7, [0, 0, 0], 0), (15, .ireturn, 8, [], 0), (16, .aload_n 0, 9, [], 0), (17, .getfield (9), 10, [], 0), (20, .iload_n 1, 11, [], 0), (21, .invokestatic (498), 12, [0, 0, 0], 0), (24, .ireturn, 13, [], 0)])
def mk_canEncode : am_M := (⟨"java/lang/StringLatin1", "canEncode", "(I)Z"⟩, prog_15_method_4_code, 1, (some (.boolean)), [(0, .iload_n 0, 1, [], 0), (1, .ifCond .lt (14), 2, [7], 0), (4, .iload_n 0, 3, [], 0), (5, .sipush (255), 4, [], 0), (8, .if_icmp .gt (7), 5, [7], 0), (11, .iconst (1), 6, [], 0), (12, .goto (4), 7, [8], 0), (15, .iconst (0), 8, [], 0), (16, .ireturn, 9, [], 0)])
def mk_indexOfChar : am_M := (⟨"java/lang/StringLatin1", "indexOfChar", "([BIII)I"⟩, prog_15_method_23_code, 6, (some (.int)), [(0, .iload_n 1, 1, [], 0), (1, .i2b, 2, [], 0), (2, .istore (4), 3, [], 0), (4, .iload_n 2, 4, [], 0), (5, .istore (5), 5, [], 0), (7, .iload (5), 6, [], 0), (9, .iload_n 3, 7, [], 0), (10, .if_icmp .ge (21), 8, [17], 0), (13, .aload_n 0, 9, [], 0), (14, .iload (5), 10, [], 0), (16, .baload, 11, [], 0), (17, .iload (4), 12, [], 0), (19, .if_icmp .ne (6), 13, [15], 0), (22, .iload (5), 14, [], 0), (24, .ireturn, 15, [], 0), (25, .iinc 5 (1), 16, [], 0), (28, .goto (-21), 17, [5], 0), (31, .iconst (-1), 18, [], 0), (32, .ireturn, 19, [], 0)])
def mk_min : am_M := (⟨"java/lang/Math", "min", "(II)I"⟩, prog_12_method_69_code, 2, (some (.int)), [(0, .iload_n 0, 1, [], 0), (1, .iload_n 1, 2, [], 0), (2, .if_icmp .gt (7), 3, [5], 0), (5, .iload_n 0, 4, [], 0), (6, .goto (4), 5, [6], 0), (9, .iload_n 1, 6, [], 0), (10, .ireturn, 7, [], 0)])
def mk_lindexOf : am_M := (⟨"java/lang/StringLatin1", "indexOf", "([BIII)I"⟩, prog_15_method_22_code, 4, (some (.int)), [(0, .iload_n 1, 1, [], 0), (1, .invokestatic (88), 2, [0, 0, 0], 0), (4, .ifCond .ne (5), 3, [5], 0), (7, .iconst (-1), 4, [], 0), (8, .ireturn, 5, [], 0), (9, .iload_n 2, 6, [], 0), (10, .iconst (0), 7, [], 0), (11, .invokestatic (92), 8, [], 0), (14, .istore_n 2, 9, [], 0), (15, .iload_n 3, 10, [], 0), (16, .aload_n 0, 11, [], 0), (17, .arraylength, 12, [], 0), (18, .invokestatic (38), 13, [0, 0, 0], 0), (21, .istore_n 3, 14, [], 0), (22, .iload_n 2, 15, [], 0), (23, .iload_n 3, 16, [], 0), (24, .if_icmp .lt (5), 17, [19], 0), (27, .iconst (-1), 18, [], 0), (28, .ireturn, 19, [], 0), (29, .aload_n 0, 20, [], 0), (30, .iload_n 1, 21, [], 0), (31, .iload_n 2, 22, [], 0), (32, .iload_n 3, 23, [], 0), (33, .invokestatic (95), 24, [0, 0, 0], 0), (36, .ireturn, 25, [], 0)])
def mk_indexOf2 : am_M := (⟨"java/lang/String", "indexOf", "(II)I"⟩, prog_14_method_80_code, 3, (some (.int)), [(0, .aload_n 0, 1, [], 0), (1, .invokevirtual (492), 2, [], 0), (4, .ifCond .eq (19), 3, [11], 0), (7, .aload_n 0, 4, [], 0), (8, .getfield (9), 5, [], 0), (11, .iload_n 1, 6, [], 0), (12, .iload_n 2, 7, [], 0), (13, .aload_n 0, 8, [], 0), (14, .invokevirtual (505), 9, [], 0), (17, .invokestatic (637), 10, [0, 0, 0], 0), (20, .goto (16), 11, [18], 0), (23, .aload_n 0, 12, [], 0), (24, .getfield (9), 13, [], 0), (27, .iload_n 1, 14, [], 0), (28, .iload_n 2, 15, [], 0), (29, .aload_n 0, 16, [], 0), (30, .invokevirtual (505), 17, [], 0), (33, .invokestatic (640), 18, [0, 0, 0], 0), (36, .ireturn, 19, [], 0)])
def mk_indexOf : am_M := (⟨"java/lang/String", "indexOf", "(I)I"⟩, prog_14_method_79_code, 2, (some (.int)), [(0, .aload_n 0, 1, [], 0), (1, .iload_n 1, 2, [], 0), (2, .iconst (0), 3, [], 0), (3, .invokevirtual (633), 4, [], 0), (6, .ireturn, 5, [], 0)])
def zLet (i : Int) : Int := if i = 0 then 78 else if i = 1 then 70 else if i = 2 then 83 else if i = 3 then 72 else if i = 4 then 88 else if i = 5 then 66 else if i = 6 then 67 else if i = 7 then 80 else 76
def zIxR (x q : Int) : Prop := (0 ≤ q ∧ q < 9 ∧ zLet q = x) ∨ (q = -1 ∧ ∀ j, 0 ≤ j → j < 9 → zLet j ≠ x)
theorem zLet_r (i : Int) : 66 ≤ zLet i ∧ zLet i ≤ 88 := by
  unfold zLet
  repeat' split
  all_goals decide
theorem zLet_at {i : Int} (h : 0 ≤ i ∧ i < 9) : ((am_sbyt.getD 0 []).getD i.toNat 0) = Int32.ofInt (zLet i) := by
  have h9 : i = 0 ∨ i = 1 ∨ i = 2 ∨ i = 3 ∨ i = 4 ∨ i = 5 ∨ i = 6 ∨ i = 7 ∨ i = 8 := by omega
  rcases h9 with rfl | rfl | rfl | rfl | rfl | rfl | rfl | rfl | rfl <;> decide
theorem am_i2bk : ∀ a : Fin 128, (Int32.ofInt (a.val : Int)).toInt8.toInt32 = Int32.ofInt (a.val : Int) := by decide +kernel
section Jdk
variable {l : Launch} {dC : Nat → ClassId} {dI : Nat → Nat → Nat} {tc : Nat → ClassId} {M : am_M} {d n0 n1 : Nat} {Q : Option am_V → am_H → Prop} {i : Nat} {lv : am_L} {st : List am_V} {σ : am_H}
variable {pc nx : Nat} {xs : List Nat} {kk : Int} {r : List am_V}
set_option maxHeartbeats 4000000 in
/-- a call on a String constant -/
theorem am_callJ {M' : am_M} {idx q na d' : Nat} {as3 : List am_V} {Q' : Option am_V → am_H → Prop} (he : am_at M.2.2.2.2 i = some (pc, .invokevirtual idx, nx, xs, kk)) (htk : am_tk na [] st = some ((.inr (.inr (some (1000 + q))) :: as3), r)) (hq : q < 2) (hcl : M'.1.cls = "java/lang/String")
    (l1 : am_isin (Cond.methodLink M.1.cls idx M'.1) = true) (l2 : am_isin (Cond.instanceMethod M'.1) = true) (l3 : am_isin (Cond.selects M'.1.cls M'.1 M'.1) = true) (l4 : am_isin (Cond.initialized M'.1.cls) = true) (l5 : am_sig M' 1 na = true) (lc : am_isin (Cond.code M'.1 M'.2.1 M'.2.2.1 M'.2.2.2.1) = true)
    (hC : am_Ct l dC dI tc M' d' σ.1 (.inr (.inr (some (1000 + q))) :: as3) σ Q') (hd : d' < d) (hn1 : σ.1 ≤ n1) (hr4 : r.length ≤ 4) (k : ∀ rv σ', Q' rv σ' → am_wp l dC dI tc M d n0 n1 Q nx lv (rv.toList ++ r) σ') : am_wp l dC dI tc M d n0 n1 Q i lv st σ := by
  intro hok p e s m args below meth c ad0 A hB ad H locs ls hS
  have ho := hok i _ he
  have hp : am_pcd M i = pc := by unfold am_pcd; rw [he]
  have k := fun rv σ' q => k rv σ' q hok p e s m args below meth c ad0 A hB
  have hcode := am_in_tb lc
  obtain ⟨b, hb1, hb2, hb3⟩ := am_tk_spec _ _ _ _ _ htk
  rw [List.append_nil] at hb2
  subst hb2
  have hvsall := hS.vs
  rw [hb1] at hvsall
  have hvm := am_vs_mem hvsall
  have hr : am_vs σ.1 r := am_vs_of (fun v hv => hvm v (List.mem_append_right _ hv))
  have has : am_vs σ.1 ((.inr (.inr (some (1000 + q))) :: as3)) := am_vs_of (fun v hv => hvm v (List.mem_append_left _ (List.mem_reverse.mpr hv)))
  have hn0 : n0 ≤ σ.1 := hS.2.1
  have hZ : ∀ U : State, U.heap = H → s.WarmedH U.vm → am_Z ad (va_A (am_w ad tc σ) H.size) U := fun U hU hW => am_Z.call hB.2.2.2.2.2.2.2.2.2.2 hS.2.2.2.2.2.1 (am_wA hS.2.2.2.2.1 hS.2.2.2.2.2.1 hB.2.2.2.2.2.2.2.2.2.1) (fun k hk => hS.1 k (Or.inr hk)) hU hW
  have hpre : ∀ U : State, U.heap = H → s.WarmedH U.vm → va_Pc (((.inr (.inr (some (1000 + q))) :: as3)).map (am_v ad)) (fun U => U.heap.size = H.size ∧ va_P (dC, dI) classes (am_w ad tc σ) U.heap ∧ va_K (dC, dI) classes (am_tys tc) U ∧ va_D (fun _ => True) (am_w ad tc σ) ∧ am_Z ad (va_A (am_w ad tc σ) H.size) U) (((.inr (.inr (some (1000 + q))) :: as3)).map (am_v ad)).toArray U := fun U hU hW =>
    ⟨rfl, by rw [hU], by rw [hU]; exact hS.2.2.2.1, va_K.moved hW.alike hB.2.2.2.2.2.2.2.2.1, hS.2.2.2.2.1.weaken (fun _ _ _ _ => trivial), hZ U hU hW⟩
  have hblind : FrameBlind (va_Pc (((.inr (.inr (some (1000 + q))) :: as3)).map (am_v ad)) (fun U => U.heap.size = H.size ∧ va_P (dC, dI) classes (am_w ad tc σ) U.heap ∧ va_K (dC, dI) classes (am_tys tc) U ∧ va_D (fun _ => True) (am_w ad tc σ) ∧ am_Z ad (va_A (am_w ad tc σ) H.size) U)) := by
    intro a U g mk q
    obtain ⟨q0, q1, qP, qK, qD, qZ⟩ := q
    exact ⟨q0, q1, qP, va_K.moved (u := U) (U := U.calling g mk a) (Vm.Alike.refl U.vm) qK, qD, am_Z.blind qZ⟩
  have hcells : σ.1 - n0 + (σ.1 - σ.1) ≤ (am_rm d n0 n1).cells ∧ am_sz σ.1 - am_sz n0 + (am_sz σ.1 - am_sz σ.1) ≤ (am_rm d n0 n1).slots := by
    have hm0 := am_sz_mono hn0
    have hm2 := am_sz_mono hn1
    refine ⟨?_, ?_⟩
    · show _ ≤ n1 - n0
      omega
    · show _ ≤ am_sz n1 - am_sz n0
      omega
  have hfix : CallFix p m c M.2.1 M.2.2.1 s args am_tb M.1.cls := ⟨hB.1, hB.2.1, hB.2.2.2.1, hB.2.2.2.2.1, hB.2.2.2.2.2.1⟩
  have hsize : ls.size = M.2.2.1 := hS.lh.1
  rw [hp]
  have hcat : 2 * 0 + ((r.map (am_v ad)).map fun v => v.category).sum ≤ 8 := by
    have := am_cats ad r
    omega
  have hdec := am_oke_dec ho (fun a b c d h => by cases h)
  obtain ⟨s1, s2⟩ := am_sig_spec l5
  have hna : na - 1 = as3.length := by rw [← hb3]; simp
  rw [hna] at s1
  have cw : CallW (am_rm d n0 n1) s args M.1.cls M'.1.cls idx M'.1 M'.2.1 M'.2.2.1 M'.2.2.2.1 (Cond.code M'.1 M'.2.1 M'.2.2.1 M'.2.2.2.1 :: am_tb) (am_rm d' σ.1 σ.1) (σ.1 - σ.1) (am_sz σ.1 - am_sz σ.1) as3.length :=
    cwV as3.length hB.2.2.2.2.2.1 (am_goodIn (fun w hw => by
      unfold wsV at hw
      rcases List.mem_append.mp hw with z | z
      · simp only [List.mem_cons, List.not_mem_nil, or_false] at z
        rcases z with rfl | rfl | rfl | rfl
        · exact am_in_tb l1
        · exact am_in_tb l2
        · exact am_in_tb l3
        · exact am_in_tb l4
      · rcases List.mem_cons.mp z with rfl | z
        · exact hcode
        · exact z)) rfl rfl rfl ⟨rfl, s1⟩ (am_roomok hd s2)
  have hrv : ∃ cell : Cell, H[ad0 (1000 + q)]? = some cell ∧ cell.vm.isStatics = false ∧ s.vm.findClass "java/lang/String" = some cell.cls := vk_recv (i := q) (adK := fun i => ad0 (1000 + i)) hB.2.2.2.2.2.2.2.2.2.2.2.2.1 hq hS.2.2.2.2.2.1
  rw [← hcl, ← hS.1 (1000 + q) (Or.inr (by omega))] at hrv
  have hrun := va_runV (l := l) (e := e) (below := below) (meth := meth) (locs := locs) (cells := σ.1 - n0) (slots := am_sz σ.1 - am_sz n0) (As := as3.map (am_v ad)) (rest := r.map (am_v ad)) (g := F0 m pc ls (st.map (am_v ad))) hfix (hC ad H.size hS.hf has) cw ⟨hblind, hrv, hpre⟩ rfl (by simp) hsize (by show st.map (am_v ad) = _; rw [hb1]; exact am_st_eq) hcat hdec hcells
  exact am_after hrun hB hS hr (Nat.le_refl _) (am_oke_nx ho rfl) k
set_option maxHeartbeats 4000000 in
/-- a call of a static method of any class -/
theorem am_callT {M' : am_M} {idx na d' : Nat} {as3 : List am_V} {Q' : Option am_V → am_H → Prop} (he : am_at M.2.2.2.2 i = some (pc, .invokestatic idx, nx, xs, kk)) (htk : am_tk na [] st = some (as3, r))
    (l1 : am_isin (Cond.methodLink M.1.cls idx M'.1) = true) (l2 : am_isin (Cond.static M'.1) = true) (l4 : am_isin (Cond.initialized M'.1.cls) = true) (l5 : am_sig M' 0 na = true) (lc : am_isin (Cond.code M'.1 M'.2.1 M'.2.2.1 M'.2.2.2.1) = true)
    (hC : am_Ct l dC dI tc M' d' σ.1 as3 σ Q') (hd : d' < d) (hn1 : σ.1 ≤ n1) (hr4 : r.length ≤ 4) (k : ∀ rv σ', Q' rv σ' → am_wp l dC dI tc M d n0 n1 Q nx lv (rv.toList ++ r) σ') : am_wp l dC dI tc M d n0 n1 Q i lv st σ := by
  intro hok p e s m args below meth c ad0 A hB ad H locs ls hS
  have ho := hok i _ he
  have hp : am_pcd M i = pc := by unfold am_pcd; rw [he]
  have k := fun rv σ' q => k rv σ' q hok p e s m args below meth c ad0 A hB
  have hcode := am_in_tb lc
  obtain ⟨b, hb1, hb2, hb3⟩ := am_tk_spec _ _ _ _ _ htk
  rw [List.append_nil] at hb2
  subst hb2
  have hvsall := hS.vs
  rw [hb1] at hvsall
  have hvm := am_vs_mem hvsall
  have hr : am_vs σ.1 r := am_vs_of (fun v hv => hvm v (List.mem_append_right _ hv))
  have has : am_vs σ.1 as3 := am_vs_of (fun v hv => hvm v (List.mem_append_left _ (List.mem_reverse.mpr hv)))
  have hn0 : n0 ≤ σ.1 := hS.2.1
  have hZ : ∀ U : State, U.heap = H → s.WarmedH U.vm → am_Z ad (va_A (am_w ad tc σ) H.size) U := fun U hU hW => am_Z.call hB.2.2.2.2.2.2.2.2.2.2 hS.2.2.2.2.2.1 (am_wA hS.2.2.2.2.1 hS.2.2.2.2.2.1 hB.2.2.2.2.2.2.2.2.2.1) (fun k hk => hS.1 k (Or.inr hk)) hU hW
  have hpre : ∀ U : State, U.heap = H → s.WarmedH U.vm → va_Pc (as3.map (am_v ad)) (fun U => U.heap.size = H.size ∧ va_P (dC, dI) classes (am_w ad tc σ) U.heap ∧ va_K (dC, dI) classes (am_tys tc) U ∧ va_D (fun _ => True) (am_w ad tc σ) ∧ am_Z ad (va_A (am_w ad tc σ) H.size) U) (as3.map (am_v ad)).toArray U := fun U hU hW =>
    ⟨rfl, by rw [hU], by rw [hU]; exact hS.2.2.2.1, va_K.moved hW.alike hB.2.2.2.2.2.2.2.2.1, hS.2.2.2.2.1.weaken (fun _ _ _ _ => trivial), hZ U hU hW⟩
  have hblind : FrameBlind (va_Pc (as3.map (am_v ad)) (fun U => U.heap.size = H.size ∧ va_P (dC, dI) classes (am_w ad tc σ) U.heap ∧ va_K (dC, dI) classes (am_tys tc) U ∧ va_D (fun _ => True) (am_w ad tc σ) ∧ am_Z ad (va_A (am_w ad tc σ) H.size) U)) := by
    intro a U g mk q
    obtain ⟨q0, q1, qP, qK, qD, qZ⟩ := q
    exact ⟨q0, q1, qP, va_K.moved (u := U) (U := U.calling g mk a) (Vm.Alike.refl U.vm) qK, qD, am_Z.blind qZ⟩
  have hcells : σ.1 - n0 + (σ.1 - σ.1) ≤ (am_rm d n0 n1).cells ∧ am_sz σ.1 - am_sz n0 + (am_sz σ.1 - am_sz σ.1) ≤ (am_rm d n0 n1).slots := by
    have hm0 := am_sz_mono hn0
    have hm2 := am_sz_mono hn1
    refine ⟨?_, ?_⟩
    · show _ ≤ n1 - n0
      omega
    · show _ ≤ am_sz n1 - am_sz n0
      omega
  have hfix : CallFix p m c M.2.1 M.2.2.1 s args am_tb M.1.cls := ⟨hB.1, hB.2.1, hB.2.2.2.1, hB.2.2.2.2.1, hB.2.2.2.2.2.1⟩
  have hsize : ls.size = M.2.2.1 := hS.lh.1
  rw [hp]
  have hcat : 2 * 0 + ((r.map (am_v ad)).map fun v => v.category).sum ≤ 8 := by
    have := am_cats ad r
    omega
  have hdec := am_oke_dec ho (fun a b c d h => by cases h)
  obtain ⟨s1, s2⟩ := am_sig_spec l5
  have hna : na - 0 = as3.length := by rw [← hb3]; simp
  rw [hna] at s1
  have cw := va_cwS (R := am_rm d n0 n1) (rm := am_rm d' σ.1 σ.1) (ws := Cond.code M'.1 M'.2.1 M'.2.2.1 M'.2.2.2.1 :: am_tb) as3.length hB.2.2.2.2.2.1 (am_goodIn (fun w hw => by
      unfold va_wsS at hw
      rcases List.mem_append.mp hw with z | z
      · simp only [List.mem_cons, List.not_mem_nil, or_false] at z
        rcases z with rfl | rfl | rfl
        · exact am_in_tb l1
        · exact am_in_tb l2
        · exact am_in_tb l4
      · rcases List.mem_cons.mp z with rfl | z
        · exact hcode
        · exact z)) rfl rfl rfl s1 (am_roomok hd s2)
  have hrun := va_runS (l := l) (e := e) (below := below) (meth := meth) (locs := locs) (cells := σ.1 - n0) (slots := am_sz σ.1 - am_sz n0) (As := as3.map (am_v ad)) (rest := r.map (am_v ad)) (g := F0 m pc ls (st.map (am_v ad))) hfix (hC ad H.size hS.hf has) cw ⟨hblind, hpre⟩ rfl (by simp) hsize (by show st.map (am_v ad) = _; rw [hb1]; simp) hcat hdec hcells
  exact am_after hrun hB hS hr (Nat.le_refl _) (am_oke_nx ho rfl) k
/-- a static of the JDK's -/
theorem am_gets {idx : Nat} {C n dd : String} {P : am_V → Prop} (he : am_at M.2.2.2.2 i = some (pc, .getstatic idx, nx, xs, kk)) (hl : am_isin (Cond.fieldLink M.1.cls idx C n dd) = true) (hz : ∀ ad0 A s, am_Z ad0 A s → ∃ v, va_Z C n dd (am_v ad0 v) A s s.heap ∧ am_vf 0 v ∧ P v) (k : ∀ v, P v → am_wp l dC dI tc M d n0 n1 Q nx lv (v :: st) σ) : am_wp l dC dI tc M d n0 n1 Q i lv st σ := by
  intro hok p e s m args below meth c ad0 A hB ad H locs ls hS
  have ho := hok i _ he
  have hp : am_pcd M i = pc := by unfold am_pcd; rw [he]
  have hd := am_oke_dec ho (fun a b c d h => by cases h)
  obtain ⟨v, v1, v2, v3⟩ := hz _ _ _ hB.2.2.2.2.2.2.2.2.2.2
  have hk := k v v3 hok p e s m args below meth c ad0 A hB ad H locs ls (hS.sk ⟨am_vf_up (Nat.zero_le _) v2, hS.vs⟩)
  rw [am_oke_nx ho rfl] at hk
  have e1 : am_v ad v = am_v ad0 v := by
    rcases v with x | y | o
    · rfl
    · rfl
    · cases o with
      | none => rfl
      | some k =>
        have h1 := v2 k rfl
        show Value.ref (ad k) = Value.ref (ad0 k)
        rw [hS.1 k (by omega)]
  rw [List.map_cons, e1] at hk
  rw [hp]
  exact va_gets hB.1 hB.2.1 v1 hS.2.2.2.2.2.1 hB.2.2.2.2.1 (hB.2.2.2.2.2.1 _ (am_in_tb hl)) (fun _ h => h) hd hk
/-- a String constant's coder -/
theorem am_coder {idx q : Nat} (he : am_at M.2.2.2.2 i = some (pc, .getfield idx, nx, xs, kk)) (hq : q < 2) (hl : am_isin (Cond.fieldLink M.1.cls idx "java/lang/String" "coder" "B") = true) (k : am_wp l dC dI tc M d n0 n1 Q nx lv (.inl 0 :: r) σ) : am_wp l dC dI tc M d n0 n1 Q i lv (.inr (.inr (some (1000 + q))) :: r) σ := by
  intro hok p e s m args below meth c ad0 A hB ad H locs ls hS
  have ho := hok i _ he
  have hp : am_pcd M i = pc := by unfold am_pcd; rw [he]
  have hd := am_oke_dec ho (fun a b c d h => by cases h)
  have hk := k hok p e s m args below meth c ad0 A hB ad H locs ls (hS.sk ⟨⟨by decide, by decide⟩, hS.vs.2⟩)
  rw [am_oke_nx ho rfl] at hk
  have h9 : va_OF "java/lang/String" "coder" "B" (.int 0) (ad0 (1000 + q)) A s s.heap := (hB.2.2.2.2.2.2.2.2.2.2.2.2.1.1 q hq).2.1
  rw [← hS.1 (1000 + q) (Or.inr (by omega))] at h9
  rw [hp]
  exact vk_getf hB.1 hB.2.1 h9 hS.2.2.2.2.2.1 hB.2.2.2.2.1 (hB.2.2.2.2.2.1 _ (am_in_tb hl)) (fun _ h => h) hd hk
/-- a String constant's bytes -/
theorem am_value {idx q : Nat} (he : am_at M.2.2.2.2 i = some (pc, .getfield idx, nx, xs, kk)) (hq : q < 2) (hl : am_isin (Cond.fieldLink M.1.cls idx "java/lang/String" "value" "[B") = true) (k : am_wp l dC dI tc M d n0 n1 Q nx lv (.inr (.inr (some (2000 + q))) :: r) σ) : am_wp l dC dI tc M d n0 n1 Q i lv (.inr (.inr (some (1000 + q))) :: r) σ := by
  intro hok p e s m args below meth c ad0 A hB ad H locs ls hS
  have ho := hok i _ he
  have hp : am_pcd M i = pc := by unfold am_pcd; rw [he]
  have hd := am_oke_dec ho (fun a b c d h => by cases h)
  have hk := k hok p e s m args below meth c ad0 A hB ad H locs ls (hS.sk ⟨fun z hz => by cases hz; exact Or.inr (by omega), hS.vs.2⟩)
  rw [am_oke_nx ho rfl] at hk
  have h9 : va_OF "java/lang/String" "value" "[B" (.ref (ad0 (2000 + q))) (ad0 (1000 + q)) A s s.heap := (hB.2.2.2.2.2.2.2.2.2.2.2.2.1.1 q hq).2.2.1
  rw [← hS.1 (1000 + q) (Or.inr (by omega)), ← hS.1 (2000 + q) (Or.inr (by omega))] at h9
  rw [hp]
  exact vk_getf hB.1 hB.2.1 h9 hS.2.2.2.2.2.1 hB.2.2.2.2.1 (hB.2.2.2.2.2.1 _ (am_in_tb hl)) (fun _ h => h) hd hk
theorem am_blen (he : am_at M.2.2.2.2 i = some (pc, .arraylength, nx, xs, kk)) (k : am_wp l dC dI tc M d n0 n1 Q nx lv (.inl 9 :: r) σ) : am_wp l dC dI tc M d n0 n1 Q i lv (.inr (.inr (some 2000)) :: r) σ := by
  intro hok p e s m args below meth c ad0 A hB ad H locs ls hS
  have ho := hok i _ he
  have hp : am_pcd M i = pc := by unfold am_pcd; rw [he]
  have hd := am_oke_dec ho (fun a b c d h => by cases h)
  have hk := k hok p e s m args below meth c ad0 A hB ad H locs ls (hS.sk ⟨⟨by decide, by decide⟩, hS.vs.2⟩)
  rw [am_oke_nx ho rfl] at hk
  have h9 : va_T .byte (ad0 2000) 9 (fun j => .int ((am_sbyt.getD 0 []).getD j 0)) A s s.heap := (hB.2.2.2.2.2.2.2.2.2.2.2.2.1.1 0 (by decide)).2.2.2
  rw [← hS.1 2000 (Or.inr (by omega))] at h9
  rw [hp]
  exact va_tlen hB.1 hB.2.1 h9 hS.2.2.2.2.2.1 (by decide) hd hk
theorem am_bald {x : Int} (he : am_at M.2.2.2.2 i = some (pc, .baload, nx, xs, kk)) (hx : 0 ≤ x ∧ x < 9) (k : am_wp l dC dI tc M d n0 n1 Q nx lv (.inl (zLet x) :: r) σ) : am_wp l dC dI tc M d n0 n1 Q i lv (.inl x :: .inr (.inr (some 2000)) :: r) σ := by
  intro hok p e s m args below meth c ad0 A hB ad H locs ls hS
  have ho := hok i _ he
  have hp : am_pcd M i = pc := by unfold am_pcd; rw [he]
  have hd := am_oke_dec ho (fun a b c d h => by cases h)
  have hz := zLet_r x
  have hk := k hok p e s m args below meth c ad0 A hB ad H locs ls (hS.sk ⟨⟨by omega, by omega⟩, hS.vs.2.2⟩)
  rw [am_oke_nx ho rfl] at hk
  have h9 : va_T .byte (ad0 2000) 9 (fun j => .int ((am_sbyt.getD 0 []).getD j 0)) A s s.heap := (hB.2.2.2.2.2.2.2.2.2.2.2.2.1.1 0 (by decide)).2.2.2
  rw [← hS.1 2000 (Or.inr (by omega))] at h9
  rw [hp]
  obtain ⟨a, rfl⟩ := Int.eq_ofNat_of_zero_le hx.1
  have e1 : Int32.ofInt (a : Int) = nI a := rfl
  have ec : (nI a).toNatClampNeg = a := nI_clamp (by omega)
  refine va_tb hB.1 hB.2.1 h9 hS.2.2.2.2.2.1 (i := Int32.ofInt (a : Int)) (v := .int (Int32.ofInt (zLet a))) ?_ ?_ hd hk
  · rw [e1]
    exact nI_in (by show a < 9; omega) (by decide)
  · rw [e1, ec]
    have := zLet_at hx
    rw [Int.toNat_natCast] at this
    rw [this]
theorem am_i2b {x : Int} (he : am_at M.2.2.2.2 i = some (pc, .i2b, nx, xs, kk)) (hx : 0 ≤ x ∧ x < 128) (k : am_wp l dC dI tc M d n0 n1 Q nx lv (.inl x :: r) σ) : am_wp l dC dI tc M d n0 n1 Q i lv (.inl x :: r) σ := by
  intro hok p e s m args below meth c ad0 A hB ad H locs ls hS
  have ho := hok i _ he
  have hp : am_pcd M i = pc := by unfold am_pcd; rw [he]
  have hd := am_oke_dec ho (fun a b c d h => by cases h)
  have hk := k hok p e s m args below meth c ad0 A hB ad H locs ls hS
  rw [am_oke_nx ho rfl] at hk
  rw [hp]
  refine lv_i2b hB.1 hB.2.1 hd ?_ hk
  obtain ⟨a, rfl⟩ := Int.eq_ofNat_of_zero_le hx.1
  exact am_i2bk ⟨a, by omega⟩
theorem am_pop {x : Int} (he : am_at M.2.2.2.2 i = some (pc, .pop, nx, xs, kk)) (k : am_wp l dC dI tc M d n0 n1 Q nx lv r σ) : am_wp l dC dI tc M d n0 n1 Q i lv (.inl x :: r) σ := by
  intro hok p e s m args below meth c ad0 A hB ad H locs ls hS
  have ho := hok i _ he
  have hp : am_pcd M i = pc := by unfold am_pcd; rw [he]
  have hd := am_oke_dec ho (fun a b c d h => by cases h)
  have hk := k hok p e s m args below meth c ad0 A hB ad H locs ls (hS.sk hS.vs.2)
  rw [am_oke_nx ho rfl] at hk
  rw [hp]
  exact lv_pop hB.1 hB.2.1 hd rfl hk
end Jdk

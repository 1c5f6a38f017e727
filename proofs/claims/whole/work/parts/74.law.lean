def R_law : String := "AddressGrammarLaw"
def lw_P (b : Addr) (xs : List Int32) (args : Array Value) (s : State) : Prop := args = #[.ref b] ∧ s.IntsAt b xs ∧ xs.length ≤ 3072 ∧ (Jvm.Cond.and given_1 narrow_1).before args s = true
def lw_Q (_ : Array Value) (s : State) (o : Outcome) (t : State) : Prop := o = .returned (some (.int 1)) ∧ Framed s o t [] 1084 13087
def lw_Z (below : List Frame) (a : Array Value) (s : State) : State → Prop := fun t => ∃ o, t.status = .running ∧ Ended t below o ∧ lw_Q a s o t
/-- the law's own end, with 1 on the stack, nothing written that was there before, its room as the claim has it -/
theorem lw_ret {p : Program} {l : Launch} {e : Env} {s : State} {m : MethodId} {below : List Frame} {meth : Method} {c : Code} {b : Nat} (hx : p.tables.exec = Jvm.exec) (hb : c.code = code) (hr : meth.sig.returnType = ret) (hlocks : meth.locks = false) {pc : Nat} {H : Heap} {ls : Array Slot} (hdg : decode code pc = .ok (.ireturn, 1)) : W p l e room_1 s m #[Value.ref b] below meth c H [] 1084 13087 (lw_Z below #[Value.ref b] s) (F0 m pc ls [.int 1]) := by
  intro T hT X
  obtain ⟨fs, hret, hrun, hended, hW, hframe⟩ := X.leave (v := some (.int 1)) (hlocks := hlocks) (fun h => by rw [hr] at h; cases h)
  have hmeth' : T.vm.method? m = some meth := X.method'
  refine ⟨T.setFrames fs, ?_, .returned (some (.int 1)), hrun, hended, rfl, ⟨_, rfl⟩, hW, hframe⟩
  jvm_step X.here [X.here.top, hx, hb, hdg, hmeth', hr, ret, narrow_b1]
  (try refine ⟨rfl, ?_⟩); (try refine ⟨rfl, ?_⟩)
  first | (intro acts; rw [hret _ acts rfl rfl rfl]) | rw [hret _ _ rfl rfl rfl]
  exact Steps.refl _
/-- what holds at the law's entry: the machine, the code, the tables' words (any of lw_tbl by 'hts w (by decide +kernel)'), the script of L ints xs at the cell b, what the Statement gives of the start (any of its parts by flat_of_before) -/
def lw_At (p : Program) (s : State) (m : MethodId) (meth : Method) (c : Code) (b L : Nat) (xs : Nat → Int32) : Prop :=
  p.tables.exec = Jvm.exec ∧ c.code = code ∧ meth.sig.returnType = ret ∧ c.maxLocals = 7 ∧ s.vm.findClass R_law = some m.cls ∧ (∀ w ∈ lw_tbl, w.before #[Value.ref b] s = true) ∧ va_X b L xs s s.heap ∧ b < s.heap.size ∧ meth.locks = false ∧ (Jvm.Cond.and given_1 narrow_1).before #[Value.ref b] s = true
/-! the law's rows -/
def lw_A (s : State) : Nat → Prop := fun q => s.heap.size ≤ q
def lw_X (oa : Nat) (cJ : ClassId) (fo : Nat → Int64) : Nat × va_E := (oa, .inl (cJ, 1, .inr (.inl fo)))
/-- the law's standing world -/
def lw_J (dC : Nat → ClassId) (dI : Nat → Nat → Nat) (tc : Nat → ClassId) (s : State) (ad0 : Nat → Nat) (oa : Nat) (cJ : ClassId) (H : Heap) (locs : List Loc) (ad : Nat → Nat) (fo : Nat → Int64) (σ : am_H) : Prop :=
  σ.1 = 58 ∧ am_hf σ ∧ va_P (dC, dI) classes (lw_X oa cJ fo :: am_w ad tc σ) H ∧ va_D (lw_A s) (lw_X oa cJ fo :: am_w ad tc σ) ∧ va_S (lw_A s) s.heap H locs ∧ ∀ k, 1000 ≤ k → ad k = ad0 k
/-- what stays -/
def lw_G (dC : Nat → ClassId) (dI : Nat → Nat → Nat) (tc : Nat → ClassId) (ad0 : Nat → Nat) (cJ : ClassId) (p : Program) (s : State) (m : MethodId) (meth : Method) (c : Code) (b L : Nat) (xs : Nat → Int32) : Prop :=
  lw_At p s m meth c b L xs ∧ L ≤ 3072 ∧ va_K (dC, dI) classes (am_tys tc ++ [(cJ, .long)]) s ∧ am_Z ad0 (lw_A s) s ∧ lx_E (lw_A s) s
section LwG
variable {p : Program} {l : Launch} {e : Env} {s : State} {m : MethodId} {below : List Frame} {meth : Method} {c : Code} {b L : Nat} {xs : Nat → Int32} {dC : Nat → ClassId} {dI : Nat → Nat → Nat} {tc : Nat → ClassId} {ad0 : Nat → Nat} {cJ : ClassId} {oa : Nat} {H : Heap} {locs : List Loc} {cells slots : Nat} {Q : State → Prop} {ad : Nat → Nat} {fo : Nat → Int64} {σ : am_H} {ls : Array Slot} {rest st : List Value} {i pc : Nat}
theorem lw_fix (G : lw_At p s m meth c b L xs) : CallFix p m c code 7 s #[Value.ref b] am_tb R_law := ⟨G.1, G.2.1, G.2.2.2.1, G.2.2.2.2.1, fun w hw => G.2.2.2.2.2.1 w (List.mem_filter.mp hw).1⟩
theorem lw_K3 {tc : Nat → ClassId} (hK : va_K (dC, dI) classes (am_tys tc ++ [(cJ, .long)]) s) : va_K (dC, dI) classes (am_tys tc) s := ⟨hK.1, fun k q hk => hK.2 k q (by rw [List.getElem?_append_left (List.getElem?_eq_some_iff.mp hk).1]; exact hk)⟩
theorem lw_JA (J : lw_J dC dI tc s ad0 oa cJ H locs ad fo σ) : ∀ q, va_A (lw_X oa cJ fo :: am_w ad tc σ) H.size q → lw_A s q := by
  rintro q (⟨k, e', hk⟩ | h)
  · exact J.2.2.2.1.2 k _ hk
  · exact Nat.le_trans J.2.2.2.2.1.1 h
set_option maxRecDepth 100000 in
set_option maxHeartbeats 4000000 in
theorem lw_one {M' : am_M} {d' mno ci c0 idx : Nat} {Q' : Option am_V → am_H → Prop} {as3 : List am_V} (G : lw_G dC dI tc ad0 cJ p s m meth c b L xs) (J : lw_J dC dI tc s ad0 oa cJ H locs ad fo σ)
    (hC : am_Ct l dC dI tc M' d' 58 (.inr (.inr (some c0)) :: as3) σ Q') (has : am_vs 58 as3) (hm : am_at am_mt mno = some M') (hmc : am_at am_mc mno = some ci) (hsh : am_at am_sh c0 = some (.inr ci)) (hc0 : c0 < 58)
    (hl : am_isin (Cond.methodLink R_law idx M'.1) = true ∧ am_isin (Cond.instanceMethod M'.1) = true ∧ am_isin (Cond.selects M'.1.cls M'.1 M'.1) = true ∧ am_isin (Cond.initialized M'.1.cls) = true ∧ am_sig M' 1 (as3.length + 1) = true)
    (hd : d' ≤ 12) (hr : cells ≤ 1084 ∧ slots ≤ 13087) (hsize : ls.size = 7) (hstack : st = (as3.map (am_v ad)).reverse ++ Value.ref (ad c0) :: rest) (hcat : (rest.map fun v => v.category).sum ≤ 8) (hdec : decode code pc = .ok (.invokevirtual idx, 3))
    (k : ∀ rv σ' ad' H' locs', Q' rv σ' → lw_J dC dI tc s ad0 oa cJ H' locs' ad' fo σ' → (∀ k, k < 58 → ad' k = ad k) → W p l e room_1 s m #[Value.ref b] below meth c H' locs' cells slots Q (F0 m (pc + 3) ls ((rv.map (am_v ad')).toList ++ rest))) :
    W p l e room_1 s m #[Value.ref b] below meth c H locs cells slots Q (F0 m pc ls st) := by
  obtain ⟨n, h1, h2, h3⟩ := σ
  obtain ⟨hn, hhf, hP, hD, hS, had⟩ := J
  have hn : n = 58 := hn
  subst hn
  obtain ⟨C0, hL, hK, hZ, hE⟩ := G
  have hDx := lw_Dx hD
  have holt : oa < H.size := (lw_Ph hP).lt
  have hnot : ¬ va_A (am_w ad tc (58, h1, h2, h3)) H.size oa := by
    rintro (⟨k, e', hk⟩ | h)
    · exact hDx.2 k _ hk rfl
    · exact absurd holt (Nat.not_lt.mpr h)
  refine lw_callV (mno := mno) (ci := ci) (as3 := as3) (c0 := c0) (rest := rest) (lw_fix C0) ⟨hhf, lw_Pt hP, lw_Dt hD, hS⟩ (fun q h => h) (lw_K3 hK) hZ had hC has hm hmc hsh hc0 (Nat.le_refl _) hl.1 hl.2.1 hl.2.2.1 hl.2.2.2.1 hl.2.2.2.2 ⟨?_, ?_⟩ ⟨?_, ?_⟩ hsize hstack hcat hdec (fun rv σ' ad' H' locs' hQ hB => ?_)
  · show d' + 1 ≤ 13
    omega
  · show 35 + 35 * d' ≤ 498
    omega
  · show cells + (58 - 58) ≤ 1084
    omega
  · show slots + (am_sz 58 - am_sz 58) ≤ 13087
    rw [Nat.sub_self]
    exact hr.2
  · obtain ⟨had', hnn, hvf, ⟨hhf', hP', hD', hS'⟩, hsz', hkeep, hDv⟩ := hB
    have kk := k rv σ' ad' H' locs' hQ ⟨hnn, hhf', lw_Pk ((lw_Ph hP).kept (hkeep oa holt hnot)) hP', lw_Dc hDx.1 hD' (fun k q' hk he => hnot (by have := hDv.2 k q' hk; rw [he] at this; exact this)), hS', fun k hk => (had' k (Or.inr hk)).trans (had k hk)⟩ (fun k hk => had' k (Or.inl hk))
    simp only [Nat.sub_self]
    exact kk
/-- rows that load a place of the script -/
def lw_ld (pc : Nat) (k : Nat) : Prop := decode code pc = .ok (.aload_n 0, 1) ∧ decode code (pc + 1) = .ok (.iload 4, 2) ∧ decode code (pc + 3) = .ok (.iconst (k : Int), 1) ∧ decode code (pc + 4) = .ok (.iadd, 1) ∧ decode code (pc + 5) = .ok (.iaload, 1)
theorem lw_arg (C0 : lw_At p s m meth c b L xs) (hL : L ≤ 3072) (hS : va_S (lw_A s) s.heap H locs) (hl : lv_has ls 7 [(0, .ref b), (1, .ref (ad 0)), (2, .ref (ad 38)), (3, .ref oa), (4, .int (nI i))]) {k : Nat} (hk : i + k < L) (hk5 : k ≤ 5) (hd : lw_ld pc k) (kk : W p l e room_1 s m #[Value.ref b] below meth c H locs cells slots Q (F0 m (pc + 6) ls (.int (xs (i + k)) :: rest))) : W p l e room_1 s m #[Value.ref b] below meth c H locs cells slots Q (F0 m pc ls rest) := by
  obtain ⟨d0, d1, d2, d3, d4⟩ := hd
  refine lv_aload_n C0.1 C0.2.1 d0 rfl (lv_at hl 0 rfl) ?_
  refine lv_iload C0.1 C0.2.1 d1 (lv_at hl 4 rfl) ?_
  refine lv_iconst (v := nI k) C0.1 C0.2.1 d2 (by
    have : k = 0 ∨ k = 1 ∨ k = 2 ∨ k = 3 ∨ k = 4 ∨ k = 5 := by omega
    rcases this with rfl | rfl | rfl | rfl | rfl | rfl <;> decide +kernel) ?_
  refine lv_iadd C0.1 C0.2.1 d3 ?_
  rw [nI_add]
  refine va_sld C0.1 C0.2.1 C0.2.2.2.2.2.2.1 C0.2.2.2.2.2.2.2.1 (fun h => absurd C0.2.2.2.2.2.2.2.1 (Nat.not_lt.mpr h)) hS (pk_in (i + k) L hk) d4 ?_
  rw [pk_cl (i + k)]
  exact kk
def lw_push (p : Program) (l : Launch) (e : Env) (s : State) (m : MethodId) (b : Nat) (below : List Frame) (meth : Method) (c : Code) (ls : Array Slot) (pc pc' : Nat) (as : List am_V) : Prop :=
  ∀ (H : Heap) (locs : List Loc) (cells slots : Nat) (Q : State → Prop) (rest : List Value) (ad : Nat → Nat), va_S (lw_A s) s.heap H locs → W p l e room_1 s m #[Value.ref b] below meth c H locs cells slots Q (F0 m pc' ls ((as.map (am_v ad)).reverse ++ rest)) → W p l e room_1 s m #[Value.ref b] below meth c H locs cells slots Q (F0 m pc ls rest)
theorem lw_ps0 {pc : Nat} : lw_push p l e s m b below meth c ls pc pc [] := fun _ _ _ _ _ _ _ _ h => h
theorem lw_iv (x : Int32) : Value.int x = am_v ad (.inl x.toInt) := by
  show Value.int x = Value.int (Int32.ofInt x.toInt)
  rw [Int32.ofInt_toInt]
theorem lw_lv (x : Int64) : Value.long x = am_v ad (.inr (.inl x.toInt)) := by
  show Value.long x = Value.long (Int64.ofInt x.toInt)
  rw [Int64.ofInt_toInt]
theorem lw_ps1 (C0 : lw_At p s m meth c b L xs) (hL : L ≤ 3072) (hl : lv_has ls 7 [(0, .ref b), (1, .ref (ad 0)), (2, .ref (ad 38)), (3, .ref oa), (4, .int (nI i))]) (hi : i + 5 < L) (h1 : lw_ld pc 1) : lw_push p l e s m b below meth c ls pc (pc + 6) [.inl (xs (i + 1)).toInt] := by
  intro H locs cells slots Q rest ad' hS hk
  refine lw_arg C0 hL hS hl (k := 1) (by omega) (by omega) h1 ?_
  rw [lw_iv (ad := ad')]
  exact hk
theorem lw_ps3 (C0 : lw_At p s m meth c b L xs) (hL : L ≤ 3072) (hl : lv_has ls 7 [(0, .ref b), (1, .ref (ad 0)), (2, .ref (ad 38)), (3, .ref oa), (4, .int (nI i))]) (hi : i + 5 < L) (h1 : lw_ld pc 1) (h2 : lw_ld (pc + 6) 2) (h3 : lw_ld (pc + 12) 3) : lw_push p l e s m b below meth c ls pc (pc + 18) [.inl (xs (i + 1)).toInt, .inl (xs (i + 2)).toInt, .inl (xs (i + 3)).toInt] := by
  intro H locs cells slots Q rest ad' hS hk
  refine lw_arg C0 hL hS hl (k := 1) (by omega) (by omega) h1 ?_
  refine lw_arg C0 hL hS hl (k := 2) (by omega) (by omega) h2 ?_
  refine lw_arg C0 hL hS hl (k := 3) (by omega) (by omega) h3 ?_
  rw [lw_iv (ad := ad') (xs (i + 1)), lw_iv (ad := ad') (xs (i + 2)), lw_iv (ad := ad') (xs (i + 3))]
  exact hk
def lw_wv (x y : Int32) : Int64 := (x.toInt64 <<< ((32 : Int32).toInt64 &&& 63)) ||| (y.toInt64 &&& 4294967295)
theorem lw_psw (C0 : lw_At p s m meth c b L xs) (hL : L ≤ 3072) (hl : lv_has ls 7 [(0, .ref b), (1, .ref (ad 0)), (2, .ref (ad 38)), (3, .ref oa), (4, .int (nI i))]) (hi : i + 5 < L) (h1 : lw_ld pc 1) (h2 : lw_ld (pc + 6) 2) (h3 : lw_ld (pc + 12) 3) (h4 : lw_ld (pc + 18) 4) (h5 : lw_ld (pc + 28) 5)
    (d1 : decode code (pc + 24) = .ok (.i2l, 1)) (d2 : decode code (pc + 25) = .ok (.bipush 32, 2)) (d3 : decode code (pc + 27) = .ok (.lshl, 1)) (d4 : decode code (pc + 34) = .ok (.i2l, 1)) (d5 : decode code (pc + 35) = .ok (.ldc2_w 37, 3)) (d6 : decode code (pc + 38) = .ok (.land, 1)) (d7 : decode code (pc + 39) = .ok (.lor, 1)) (hw : Cond.constantLong R_law 37 4294967295 ∈ lw_tbl) :
    lw_push p l e s m b below meth c ls pc (pc + 40) [.inl (xs (i + 1)).toInt, .inl (xs (i + 2)).toInt, .inl (xs (i + 3)).toInt, .inr (.inl (lw_wv (xs (i + 4)) (xs (i + 5))).toInt)] := by
  intro H locs cells slots Q rest ad' hS hk
  refine lw_arg C0 hL hS hl (k := 1) (by omega) (by omega) h1 ?_
  refine lw_arg C0 hL hS hl (k := 2) (by omega) (by omega) h2 ?_
  refine lw_arg C0 hL hS hl (k := 3) (by omega) (by omega) h3 ?_
  refine lw_arg C0 hL hS hl (k := 4) (by omega) (by omega) h4 ?_
  refine lv_i2l C0.1 C0.2.1 d1 rfl ?_
  refine lv_bipush (v := 32) C0.1 C0.2.1 d2 (by decide +kernel) ?_
  refine lv_lshl C0.1 C0.2.1 d3 rfl ?_
  refine lw_arg C0 hL hS hl (k := 5) (by omega) (by omega) h5 ?_
  refine lv_i2l C0.1 C0.2.1 d4 rfl ?_
  refine lv_ldc2 (v := 4294967295) C0.1 C0.2.1 C0.2.2.2.2.1 (C0.2.2.2.2.2.1 _ hw) d5 ?_
  refine lv_land C0.1 C0.2.1 d6 ?_
  refine lv_lor C0.1 C0.2.1 d7 ?_
  have e9 := lw_lv (ad := ad') (lw_wv (xs (i + 4)) (xs (i + 5)))
  unfold lw_wv at e9
  rw [e9, lw_iv (ad := ad') (xs (i + 1)), lw_iv (ad := ad') (xs (i + 2)), lw_iv (ad := ad') (xs (i + 3))]
  exact hk
theorem lw_lv2 {ad' : Nat → Nat} (hl : lv_has ls 7 [(0, .ref b), (1, .ref (ad 0)), (2, .ref (ad 38)), (3, .ref oa), (4, .int (nI i))]) (had : ∀ k, k < 58 → ad' k = ad k) : lv_has ls 7 [(0, .ref b), (1, .ref (ad' 0)), (2, .ref (ad' 38)), (3, .ref oa), (4, .int (nI i))] := by
  rw [had 0 (by omega), had 38 (by omega)]
  exact hl
/-- the two answers of one case -/
def lw_T (M1 M2 : am_M) (n1 n2 i1 i2 d1 d2 n : Nat) : Prop := am_at am_mt n1 = some M1 ∧ am_at am_mc n1 = some 0 ∧ am_at am_mt n2 = some M2 ∧ am_at am_mc n2 = some 6 ∧ d1 ≤ 12 ∧ d2 ≤ 12 ∧
  (am_isin (Cond.methodLink R_law i1 M1.1) = true ∧ am_isin (Cond.instanceMethod M1.1) = true ∧ am_isin (Cond.selects M1.1.cls M1.1 M1.1) = true ∧ am_isin (Cond.initialized M1.1.cls) = true ∧ am_sig M1 1 (n + 1) = true) ∧
  (am_isin (Cond.methodLink R_law i2 M2.1) = true ∧ am_isin (Cond.instanceMethod M2.1) = true ∧ am_isin (Cond.selects M2.1.cls M2.1 M2.1) = true ∧ am_isin (Cond.initialized M2.1.cls) = true ∧ am_sig M2 1 (n + 1) = true)
set_option maxRecDepth 100000 in
set_option maxHeartbeats 4000000 in
theorem lw_two {M1 M2 : am_M} {n1 n2 i1 i2 d1 d2 pB pD : Nat} {as3 : List am_V} (G : lw_G dC dI tc ad0 cJ p s m meth c b L xs) (J : lw_J dC dI tc s ad0 oa cJ H locs ad fo σ) (hz : zPair l dC dI tc M1 M2 d1 d2 (.inr (.inr (some 0)) :: as3) (.inr (.inr (some 38)) :: as3) σ) (hT : lw_T M1 M2 n1 n2 i1 i2 d1 d2 as3.length)
    (has : am_vs 58 as3) (hr : cells + 1 ≤ 1084 ∧ slots + 6 ≤ 13087) (hl : lv_has ls 7 [(0, .ref b), (1, .ref (ad 0)), (2, .ref (ad 38)), (3, .ref oa), (4, .int (nI i))])
    (q0 : decode code pc = .ok (.aload_n 1, 1)) (g1 : lw_push p l e s m b below meth c ls (pc + 1) pB as3) (q1 : decode code pB = .ok (.invokevirtual i1, 3)) (q2 : decode code (pB + 3) = .ok (.aload_n 2, 1)) (g2 : lw_push p l e s m b below meth c ls (pB + 4) pD as3) (q3 : decode code pD = .ok (.invokevirtual i2, 3))
    (end2 : ∀ r ad1 ad2 H' locs', zRt M1 r → W p l e room_1 s m #[Value.ref b] below meth c H' locs' (cells + 1) (slots + 6) Q (F0 m 504 ls []) → W p l e room_1 s m #[Value.ref b] below meth c H' locs' cells slots Q (F0 m (pD + 3) ls ((r.map (am_v ad2)).toList ++ (r.map (am_v ad1)).toList)))
    (hcat : ∀ r ad1, zRt M1 r → ((((Option.map (am_v ad1) r)).toList).map fun v => v.category).sum ≤ 8)
    (kont : ∀ H' locs' ad' σ', lw_J dC dI tc s ad0 oa cJ H' locs' ad' fo σ' → zSg σ' → lv_has ls 7 [(0, .ref b), (1, .ref (ad' 0)), (2, .ref (ad' 38)), (3, .ref oa), (4, .int (nI i))] → W p l e room_1 s m #[Value.ref b] below meth c H' locs' (cells + 1) (slots + 6) Q (F0 m 504 ls [])) :
    W p l e room_1 s m #[Value.ref b] below meth c H locs cells slots Q (F0 m pc ls []) := by
  obtain ⟨Q1, hC1, hsh1, h2⟩ := hz
  obtain ⟨t1, t2, t3, t4, t5, t6, t7, t8⟩ := hT
  have C0 := G.1
  refine lv_aload_n C0.1 C0.2.1 q0 rfl (lv_at hl 1 rfl) ?_
  refine g1 _ _ _ _ _ _ ad J.2.2.2.2.1 ?_
  refine lw_one G J hC1 has t1 t2 rfl (by omega) t7 t5 ⟨by omega, by omega⟩ hl.1 rfl (by simp) q1 (fun r1 σ1 ad1 H1 locs1 hQ1 J1 e1 => ?_)
  obtain ⟨Q2, hC2, h3⟩ := h2 r1 σ1 hQ1
  have hs1 := hsh1 r1 σ1 hQ1
  refine lv_aload_n C0.1 C0.2.1 q2 rfl (lv_at hl 2 rfl) ?_
  refine g2 _ _ _ _ _ _ ad1 J1.2.2.2.2.1 ?_
  refine lw_one G J1 hC2 has t3 t4 rfl (by omega) t8 t6 ⟨by omega, by omega⟩ hl.1 (by rw [e1 38 (by omega)]) (by rw [List.append_nil]; exact hcat r1 ad1 hs1) q3 (fun r2 σ2 ad2 H2 locs2 hQ2 J2 e2 => ?_)
  obtain ⟨rfl, hz2⟩ := h3 r2 σ2 hQ2
  rw [List.append_nil]
  exact end2 r1 ad1 ad2 H2 locs2 hs1 (kont H2 locs2 ad2 σ2 J2 hz2 (lw_lv2 hl (fun k hk => (e2 k hk).trans (e1 k hk))))
theorem lw_endI {M1 : am_M} {pE : Nat} {off : Int} (C0 : lw_At p s m meth c b L xs) (hM : M1.2.2.2.1 ≠ some .long) (q4 : decode code pE = .ok (.if_icmp .eq off, 3)) (ht : (pE : Int) + off = (504 : Nat)) : ∀ r ad1 ad2 H' locs', zRt M1 r → W p l e room_1 s m #[Value.ref b] below meth c H' locs' (cells + 1) (slots + 6) Q (F0 m 504 ls []) → W p l e room_1 s m #[Value.ref b] below meth c H' locs' cells slots Q (F0 m pE ls ((r.map (am_v ad2)).toList ++ (r.map (am_v ad1)).toList)) := by
  intro r ad1 ad2 H' locs' hr hk
  obtain ⟨q, rfl⟩ := hr.2 hM
  refine W.widen (k := cells + 1) (n := slots + 6) (Nat.le_add_right _ _) (Nat.le_add_right _ _) ?_
  exact lv_icmp_eq (x := Int32.ofInt q) (y := Int32.ofInt q) C0.1 C0.2.1 q4 ht (fun _ => hk) (fun h => absurd rfl h)
theorem lw_endL {M1 : am_M} {pE : Nat} {off : Int} (C0 : lw_At p s m meth c b L xs) (hM : M1.2.2.2.1 = some .long) (q4 : decode code pE = .ok (.lcmp, 1)) (q5 : decode code (pE + 1) = .ok (.ifCond .eq off, 3)) (ht : ((pE + 1 : Nat) : Int) + off = (504 : Nat)) : ∀ r ad1 ad2 H' locs', zRt M1 r → W p l e room_1 s m #[Value.ref b] below meth c H' locs' (cells + 1) (slots + 6) Q (F0 m 504 ls []) → W p l e room_1 s m #[Value.ref b] below meth c H' locs' cells slots Q (F0 m pE ls ((r.map (am_v ad2)).toList ++ (r.map (am_v ad1)).toList)) := by
  intro r ad1 ad2 H' locs' hr hk
  obtain ⟨q, rfl⟩ := hr.1 hM
  refine W.widen (k := cells + 1) (n := slots + 6) (Nat.le_add_right _ _) (Nat.le_add_right _ _) ?_
  refine W.lcmp (x := Int64.ofInt q) (y := Int64.ofInt q) C0.1 C0.2.1 q4 ?_
  have e0 : lg_cmp (Int64.ofInt q) (Int64.ofInt q) = 0 := by simp [lg_cmp]
  rw [e0]
  exact lv_if_eq C0.1 C0.2.1 q5 ht (fun _ => hk) (fun h => absurd rfl h)
theorem lw_catI {M1 : am_M} (hM : M1.2.2.2.1 ≠ some .long) : ∀ (r : Option am_V) (ad1 : Nat → Nat), zRt M1 r → ((((Option.map (am_v ad1) r)).toList).map fun v => v.category).sum ≤ 8 := by
  intro r ad1 hr
  obtain ⟨q, rfl⟩ := hr.2 hM
  exact Nat.le_of_ble_eq_true rfl
theorem lw_catL {M1 : am_M} (hM : M1.2.2.2.1 = some .long) : ∀ (r : Option am_V) (ad1 : Nat → Nat), zRt M1 r → ((((Option.map (am_v ad1) r)).toList).map fun v => v.category).sum ≤ 8 := by
  intro r ad1 hr
  obtain ⟨q, rfl⟩ := hr.1 hM
  exact Nat.le_of_ble_eq_true rfl
theorem lw_vs0 (x : Int32) : am_vf 58 (.inl x.toInt) := ⟨by have := x.le_toInt; show (-2147483648 : Int) ≤ _; omega, by have := x.toInt_lt; show _ ≤ (2147483647 : Int); omega⟩
theorem lw_vs1 (x : Int64) : am_vf 58 (.inr (.inl x.toInt)) := ⟨by have := x.le_toInt; show (-9223372036854775808 : Int) ≤ _; omega, by have := x.toInt_lt; show _ ≤ (9223372036854775807 : Int); omega⟩
end LwG

/-! the law's own read, where it catches; a static call of a method with handlers -/
theorem lr_wc : am_isin lr_cw = true := by decide +kernel
theorem lr_ws : am_isin (.static lr_y) = true := by decide +kernel
theorem lr_wi : am_isin (.initialized lr_y.cls) = true := by decide +kernel
theorem lr_sig : (parseMethodDescriptor mm0_read.1.desc).all (fun s => decide (s.parameters.length = 0)) = true := by decide +kernel
theorem lr_sgy : (parseMethodDescriptor lr_y.desc).all (fun s => decide (s.parameters.length = 2)) = true := by decide +kernel
section Lr2
variable {l : Launch} {dC : Nat → ClassId} {dI : Nat → Nat → Nat} {tc : Nat → ClassId} {f : Nat → Nat → Int} {g : Nat → Int → Int} {a b c : Nat}
variable {ad : Nat → Nat} {oa : Nat} {cJ : ClassId} {fo : Nat → Int64}
set_option maxRecDepth 100000 in
set_option maxHeartbeats 4000000 in
theorem lr_bad (hfl : l.flags = flags0) (hn : 0 ≤ f 0 1 ∧ f 0 1 ≤ 60) (ht : ∀ i : Nat, i < (f 0 1).toNat → 32 ≤ g 1 i ∧ g 1 i ≤ 126) (hbad : (zRun (g 1) (f 0 1).toNat 0 zS0).1 ≠ -1) (hhf : am_hf (58, f, g, pr_r a b c)) (sz : Nat) : Met l lr_y (lr_cw :: am_tb) lr_rm (lr_P dC dI tc ad (58, f, g, pr_r a b c) oa cJ fo sz) (lr_Q dC dI tc ad oa cJ (va_A ((oa, .inl (cJ, 1, .inr (.inl fo))) :: am_w ad tc (58, f, g, pr_r a b c)) sz) (fun k s v => k = 1 ∧ (fun s => ∃ F G, s = (58, F, G, pr_r a b c) ∧ zThr f g F G) s ∧ v = fo 0)) 1 6 (va_A ((oa, .inl (cJ, 1, .inr (.inl fo))) :: am_w ad tc (58, f, g, pr_r a b c)) sz) := by
  refine va_MetW (hh := [(0, 8, 11, 13)]) (by decide) rfl ?_
  intro p e s m args below meth cd s₁ B hml hv
  obtain ⟨rfl, hsz, hP, hK, hD0, hZ, hE⟩ := hv
  have hts := atoms_spec (ws := lr_cw :: am_tb) B.pre
  have hts' : ∀ w ∈ am_tb, w.before [Value.ref (ad 0), Value.ref oa].toArray s = true := fun w hw => hts w (List.mem_cons_of_mem _ hw)
  have hown : s.vm.findClass "AddressGrammarLaw" = some m.cls := findClass_of_methodNamed B.named
  have hlocks := B.notSynchronized
  have hret : meth.sig.returnType = some .int := B.returns
  have hx := B.exec
  have hb : cd.code = method_3_code := B.bytes
  have hmeth := B.method
  have hcd := (Stand.of_body B).code
  subst hsz
  have hD := hD0.self (sz := s.heap.size)
  have hA : ∀ q, s.heap.size ≤ q → va_A ((oa, .inl (cJ, 1, .inr (.inl fo))) :: am_w ad tc (58, f, g, pr_r a b c)) s.heap.size q := fun q h => Or.inr h
  have hK3 : va_K (dC, dI) classes (am_tys tc) s := ⟨hK.1, fun k q hk => hK.2 k q (by rw [List.getElem?_append_left (List.getElem?_eq_some_iff.mp hk).1]; exact hk)⟩
  obtain ⟨m9, meth9, c9, hn9, hm9, hc9, -, -, htab, -, -, -⟩ := Cond.codeWith_spec (hts lr_cw List.mem_cons_self)
  cases B.named.symm.trans hn9
  cases hmeth.symm.trans hm9
  cases hcd.symm.trans hc9
  obtain ⟨xt, hxt, hxe⟩ : ∃ xt, cd.exceptionTable.toList = [xt] ∧ (xt.startPc, xt.endPc, xt.handlerPc, xt.catchType) = (0, 8, 11, 13) := by
    cases hl9 : cd.exceptionTable.toList with
    | nil => rw [hl9] at htab; cases htab
    | cons q qs =>
      rw [hl9] at htab
      cases qs with
      | nil => exact ⟨q, rfl, List.head_eq_of_cons_eq htab⟩
      | cons _ _ => cases (List.tail_eq_of_cons_eq htab)
  have x1 : xt.startPc = 0 := congrArg (fun q => q.1) hxe
  have x2 : xt.endPc = 8 := congrArg (fun q => q.2.1) hxe
  have x3 : xt.handlerPc = 11 := congrArg (fun q => q.2.2.1) hxe
  have x4 : xt.catchType = 13 := congrArg (fun q => q.2.2.2) hxe
  have hl := lv_entry ([Value.ref (ad 0), Value.ref oa]) (n := 3) (Nat.le_of_ble_eq_true rfl)
  rw [lg_entry_eq]
  generalize (lg_sl ([Value.ref (ad 0), Value.ref oa]) ++ List.replicate (3 - (lg_sl ([Value.ref (ad 0), Value.ref oa])).length) Slot.unset).toArray = ls at hl ⊢
  have hl : lv_has ls 3 [(0, .ref (ad 0)), (1, .ref oa)] := hl
  refine lv_aload_n hx hb lr_d0 rfl (lv_at hl 1 rfl) ?_
  refine lv_iconst (v := 0) hx hb lr_d1 (by decide) ?_
  refine lv_aload_n hx hb lr_d2 rfl (lv_at hl 0 rfl) ?_
  have hDx := lw_Dx hD
  have holt : oa < s.heap.size := (lw_Ph hP).lt
  have hnot : ¬ va_A (am_w ad tc (58, f, g, pr_r a b c)) s.heap.size oa := by
    rintro (⟨k, e', hk⟩ | h)
    · exact hDx.2 k _ hk rfl
    · exact absurd holt (Nat.not_lt.mpr h)
  have hwA : ∀ q, va_A (am_w ad tc (58, f, g, pr_r a b c)) s.heap.size q → va_A ((oa, .inl (cJ, 1, .inr (.inl fo))) :: am_w ad tc (58, f, g, pr_r a b c)) s.heap.size q := am_wA (lw_Dt hD) va_S.rf hA
  intro T hT X
  have hsh0 : am_at am_sh 0 = some (.inr 0) := rfl
  obtain ⟨q, hq, hqn⟩ := am_Tmc 2 mm0_read 0 0 rfl rfl hsh0
  obtain ⟨-, ⟨ks, hks, -, -⟩, -, -⟩ := am_Tc 0 q hq
  obtain ⟨cellB, hcB, hobjB, hclsB⟩ := va_recv hK3 (lw_Pt hP) (by rw [← am_at_eq]; exact hq) (am_w_obj (ad := ad) (tc := tc) (σ := (58, f, g, pr_r a b c)) (x := 0) (show 0 < 58 by omega) hsh0 hks)
  rw [hqn] at hclsB
  obtain ⟨mk, methM, hnamed, hmethM, hstM, habM⟩ := Cond.instanceMethod_spec (hts' _ (am_in_tb lr_w2))
  obtain ⟨methM', cM, hmethM', -, -, -, -, -, -, hsigM⟩ := Cond.code_spec hnamed (hts' _ (am_Tcode 2 mm0_read rfl))
  cases hmethM.symm.trans hmethM'
  obtain ⟨c2, r2, m2, q1, q2, q3, q4, kP, hkP, hkPi⟩ := Cond.selects_spec (hts' _ (am_in_tb lr_w3))
  cases hclsB.symm.trans q1
  have hy : mm0_read.1.cls ≠ "java/lang/invoke/MethodHandle" ∧ mm0_read.1.cls ≠ "java/lang/invoke/VarHandle" := ⟨by decide +kernel, by decide +kernel⟩
  cases (State.methodFound?_of_named hnamed hy).symm.trans q2
  cases hnamed.symm.trans q3
  have hselP : selectMethod e.platform s.vm cellB.cls mk = .method mk := by rw [Launch.admits_selectMethod X.admits]; exact q4
  obtain ⟨vm₁, X₁, hstep₁⟩ := X.invokevirtual hx hown (hts' _ (am_in_tb lr_w1)) hnamed hmethM hstM hkP hkPi hy (a := ad 0) (cell := cellB) (by rw [hT]; exact hcB)
    (fun z h => by rw [h] at hobjB; cases hobjB) hselP hmethM habM hkP hkPi (g := F0 m 3 ls [.ref (ad 0), .int 0, .ref oa]) rfl (argsL := []) (rest := [.int 0, .ref oa]) (by have h9 := lr_sig; rw [hsigM] at h9; exact (of_decide_eq_true h9).symm) rfl (by rw [hb]; exact lr_d3)
  have hU : (T.setVm vm₁).heap = s.heap := hT
  have hW1 : s.WarmedH (T.setVm vm₁).vm := X₁.warmed
  obtain ⟨x, ⟨U', l2, c2', s2⟩, X', ⟨g', mk', t, L, e1, e2, hR, hLc, hLf, hBc, hBs⟩, hsteps⟩ := lr_back (dC := dC) (dI := dI) (tc := tc) (ad := ad) (p := p) (e := e) (below := below) (s := s) (sargs := [Value.ref (ad 0), Value.ref oa].toArray) (a := a) (b := b) (c := c) hfl hn ht hbad s.heap.size hhf hts' m meth cd ⟨T.setVm vm₁, [], 0, 0⟩ (F0 m 3 ls [.int 0, .ref oa]) (.invokevirtual 7) mk #[Value.ref (ad 0)] X₁ rfl (hl.1.trans hml.symm) (by show decode cd.code 3 = _; rw [hb]; exact lr_d3) (by show 2 * 0 + 2 ≤ 8; omega) (X₁.named hnamed)
    ⟨Nat.le_refl _, Nat.le_refl _, rfl, by show (T.setVm vm₁).heap.size = _; rw [hU], by show va_P _ _ _ (T.setVm vm₁).heap; rw [hU]; exact lw_Pt hP, va_K.moved hW1.alike hK3, (lw_Dt hD).weaken (fun _ _ _ _ => trivial), am_Z.call hZ va_S.rf hwA (fun _ _ => rfl) hU hW1, hE.go hW1 (fun q _ _ => by show (T.setVm vm₁).heap[q]? = _; rw [hU]) hwA⟩
  dsimp only [Pt.U, Pt.locs, Pt.cells, Pt.slots] at X' e1 e2 hLc hBc hBs hsteps hR
  subst hLc; subst hBc; subst hBs
  obtain ⟨-, ⟨σ', ad', hQ, had, hnn, hhf', hP', hD'⟩, hF, hxs, ce, hce, hcn, hcf⟩ := hR
  have hF1 : s.heap.size ≤ t.heap.size := by have := hF.1; rwa [show ((T.setVm vm₁).calling g' mk' #[Value.ref (ad 0)]).heap = s.heap from hU] at this
  have hF2 : ∀ q : Nat, q < s.heap.size → ¬ va_A (am_w ad tc (58, f, g, pr_r a b c)) s.heap.size q → t.heap[q]? = s.heap[q]? := fun q h1 h2 => by
    have := hF.2 q (by rw [show ((T.setVm vm₁).calling g' mk' #[Value.ref (ad 0)]).heap = s.heap from hU]; exact h1) h2
    rwa [show ((T.setVm vm₁).calling g' mk' #[Value.ref (ad 0)]).heap = s.heap from hU] at this
  have hcf0 : s.vm.findClass "java/lang/IllegalStateException" = some ce.cls := by rw [← hW1.alike.findClass]; exact hcf
  have hpl : e.platform.magicAccessors = ({} : Platform).magicAccessors := by rw [X.admits.platform]
  obtain ⟨cI, hfI, hcl⟩ := Cond.classLink_spec hown (hts' _ (am_in_tb lr_w6)) e.platform hpl
  cases hcf0.symm.trans hfI
  obtain ⟨hg₁, hwarm₁, hready₁⟩ := State.classEntry (e := e) X'.warmed hcl
  obtain ⟨cC, kC, hfc, hkC, -⟩ := Cond.instantiable_spec (hts' _ (am_in_tb lx_w2))
  cases hcf0.symm.trans hfc
  obtain ⟨k₁, hk₁, -⟩ := hwarm₁.alike.2.2 _ _ hkC
  have hcast : (Cond.castable "java/lang/IllegalStateException" "java/lang/IllegalStateException").before [Value.ref (ad 0), Value.ref oa].toArray s = true := va_Nw.use rfl hE.2.1
  obtain ⟨c7, t7, h71, h72, h73⟩ := Cond.castable_spec hcast
  cases hcf0.symm.trans h71
  cases hcf0.symm.trans h72
  have X2 := X'.noted hwarm₁
  have kk : W p l e lr_rm s m [Value.ref (ad 0), Value.ref oa].toArray below meth cd U'.heap l2 (0 + 1) (0 + 6) (MQ below (lr_Q dC dI tc ad oa cJ (va_A ((oa, .inl (cJ, 1, .inr (.inl fo))) :: am_w ad tc (58, f, g, pr_r a b c)) s.heap.size) (fun k s v => k = 1 ∧ (fun s => ∃ F G, s = (58, F, G, pr_r a b c) ∧ zThr f g F G) s ∧ v = fo 0)) [Value.ref (ad 0), Value.ref oa].toArray s 1 6 (va_A ((oa, .inl (cJ, 1, .inr (.inl fo))) :: am_w ad tc (58, f, g, pr_r a b c)) s.heap.size)) (F0 m 11 ls [.ref x]) := by
    have hS1 : va_S (va_A ((oa, .inl (cJ, 1, .inr (.inl fo))) :: am_w ad tc (58, f, g, pr_r a b c)) s.heap.size) s.heap U'.heap l2 := ⟨by rw [e1]; exact hF1, fun q h1 h2 => by rw [e1]; exact hF2 q h1 (fun z => h2 (hwA q z)), fun q hq => hwA _ (hLf q hq)⟩
    refine lv_astore_n hx hb lr_d11 rfl hl (by decide) rfl (fun ls' hl' => ?_)
    refine lv_iconst (v := 1) hx hb lr_d12 (by decide) ?_
    refine W.iret hx hb hret (fun t9 ht9 _ => ⟨⟨1, σ', ad', fo, rfl, ⟨rfl, hQ, rfl⟩, had, hnn, hhf', ?_, ?_⟩, hS1.F ht9⟩) hS1.2.2 lr_d13
    · rw [ht9, e1]
      exact lw_Pk ((lw_Ph hP).kept (hF2 oa holt hnot)) hP'
    · exact lw_Dc hDx.1 (hD'.weaken (fun _ q _ h => hwA q.1 h)) (fun k q' hk he => hnot (by have := hD'.2 k q' hk; rw [he] at this; exact this))
  obtain ⟨t2, a1, b1⟩ := kk (U'.setVm (U'.vm.noted m.cls 13 (.cls ce.cls))) rfl X2
  refine ⟨t2, hstep₁ _ fun acts => ?_, b1⟩
  rw [doInvoke_state]
  refine hsteps.trans ?_
  exact lx_caught (g := F0 m 3 ls [.int 0, .ref oa]) X'.here X'.method' hcd hxt (by simp [covers, x1, x2, F0]) (by rw [x4]; decide) (vm' := U'.vm.noted m.cls 13 (.cls ce.cls)) (cC := ce.cls) (by rw [x4]; exact hg₁) (by rw [Vm.size_noted]; exact Nat.le_refl _) (cell := ce) (by rw [e1]; exact hce) (fun k h => by rw [hcn] at h; cases h) ⟨k₁, hk₁⟩ ⟨k₁, hk₁⟩ (by rw [hwarm₁.alike.assignable]; exact h73) (by rw [x3]; exact a1)
end Lr2
section LrS
variable {p : Program} {l : Launch} {e : Env} {R : Room} {s : State} {m : MethodId} {args : Array Value} {below : List Frame} {meth : Method} {c : Code} {H : Heap} {locs : List Loc} {cells slots : Nat} {y : MethodName} {bytes cc : ByteArray} {maxL nL mc ms n index : Nat} {ret : Option FieldType} {hh : List (Nat × Nat × Nat × Nat)} {ws : List Cond} {rm : Room} {Pc : Array Value → State → Prop} {Qc : Array Value → State → Outcome → State → Prop} {free : Addr → Prop} {own : String} {As rest : List Value} {g : JFrame}
theorem lr_runS (S : CallFix p m c cc nL s args am_tb own) (hM : Met l y ws rm Pc Qc mc ms free) (hrc : rm.cells = mc) (hrs : rm.slots = ms) (hfr : rm.frames + 1 ≤ R.frames) (hlo : 8 + (maxL + 11) + rm.locals ≤ R.locals) (hws : ∀ w ∈ ws, w ∈ am_tb) (hcw : Cond.codeWith y bytes maxL ret hh ∈ ws) (hini : am_isin (.initialized y.cls) = true) (hlink : am_isin (.methodLink own index y) = true) (hstat : am_isin (.static y) = true) (hy : y.cls ≠ "java/lang/invoke/MethodHandle" ∧ y.cls ≠ "java/lang/invoke/VarHandle") (hlen : (parseMethodDescriptor y.desc).all (fun s => decide (s.parameters.length = n)) = true) (hp : FrameBlind Pc ∧ ∀ U : State, U.heap = H → s.WarmedH U.vm → Pc As.toArray U)
    (hg : g.method = m) (hn : As.length = n) (hsize : g.locals.size = nL) (hstack : g.stack = As.reverse ++ rest) (hW : 2 * g.monitorRoom + (rest.map fun v => v.category).sum ≤ 8) (hdg : decode cc g.pc = .ok (.invokestatic index, 3)) (hf : cells + mc ≤ R.cells ∧ slots + ms ≤ R.slots) :
    va_Run p l e R s m args below meth c H locs cells slots mc ms g rest (Qc As.toArray) (free) := by
  obtain ⟨hx, hb, hml, ho, hts⟩ := S
  have good : ∀ w ∈ am_tb, ∀ (a' : Array Value) (U : State), s.WarmedH U.vm → w.before a' U = true := fun w hw a' U hW => by
    have hg : goodWord w = true := (List.mem_filter.mp hw).2
    refine word_at hW ?_ (hts w hw)
    unfold goodWord at hg
    split at hg
    · exact Or.inr ⟨_, rfl⟩
    · exact Or.inl hg
  have hK : Back l R p e below s args y 3 8 (PreOf R mc ms Pc) (PostOf Qc mc ms free) := va_backW (hh := hh) (bytes := bytes) (maxL := maxL) (ret := ret) hM hp.1 hrc hrs hfr hlo (fun w hw => good w (hws w hw)) hcw (good _ (am_in_tb hini))
  intro T hT X
  obtain ⟨mk, methM, cM, hnamed, hmethM, -, -, -, -, -, -, hsigM⟩ := Cond.codeWith_spec (hts _ (hws _ hcw))
  have hstatic : methM.isStatic = true := Cond.static_spec hnamed hmethM (hts _ (am_in_tb hstat))
  obtain ⟨kP, hkP, -⟩ := className_of_methodNamed hnamed
  have hinitP : kP.init = .initialized := Cond.initialized_spec (findClass_of_methodNamed hnamed) hkP (hts _ (am_in_tb hini))
  obtain ⟨vm₁, X₁, hstep₁⟩ := X.invokestatic hx ho (hts _ (am_in_tb hlink)) hnamed hmethM hstatic hkP hinitP hy (g := g) hg (argsL := As) (rest := rest) (by rw [hsigM] at hlen; exact hn.trans (of_decide_eq_true hlen).symm) hstack (by rw [hb]; exact hdg)
  obtain ⟨v, ⟨U', l2, c2, s2⟩, X', ⟨g', mk', t, L, e1, e2, hq, h1, hL, h2, h3⟩, hsteps⟩ := hK m meth c ⟨T.setVm vm₁, locs, cells, slots⟩ { g with stack := rest } (.invokestatic index) mk As.toArray X₁ hg (hsize.trans hml.symm) (by rw [hb]; exact hdg) hW (X₁.named hnamed) ⟨hf.1, hf.2, hp.2 (T.setVm vm₁) hT X₁.warmed⟩
  dsimp only [Pt.U, Pt.locs, Pt.cells, Pt.slots] at X' e1 e2 h1 h2 h3 hsteps
  subst h1; subst h2; subst h3
  exact ⟨v, (T.setVm vm₁).calling g' mk' As.toArray, t, U', L, hT, X', hL, e1, e2, hq, fun target h => hstep₁ _ fun acts => by rw [doInvoke_state]; exact hsteps.trans h⟩
end LrS

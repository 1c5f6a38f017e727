/-! the contract of the throw; a catch whose class may be resolved there and then -/
theorem lx_catchStep {e : Env} {S : State} {a : Addr} {f : JFrame} {r : List Frame} {meth : Method} {c : Code} {x : ExceptionTableEntry} (hm : S.vm.method? f.method = some meth) (hc : meth.code = some c) (htab : c.exceptionTable.toList = [x]) (hx : covers x f.pc = true) (h0 : x.catchType ≠ 0) {cC : ClassId} {vm' : Vm} (hg : (Jvm.resolveClass f.method.cls x.catchType).Gives e.toSetting S.vm (.ok cC) vm') (hsz : vm'.classes.size ≤ S.vm.classes.size) {cell : Cell} (hcell : S.heap[a]? = some cell) (hobj : ∀ k, cell.vm ≠ .statics k) (hk : ∃ k, vm'.classes[cell.cls]? = some k) (hcl : ∃ k, vm'.classes[cC]? = some k) (hfit : vm'.assignable cell.cls cC = true) :
    (stepThrowing e S a (.java f :: r)).1 = (S.setVm vm').setFrames (.java { f with pc := x.handlerPc, stack := [.ref a] } :: r) := by
  obtain ⟨ha, ht⟩ := hg.op (op := VmOp.resolveClass f.method.cls x.catchType) rfl
  have hfind : ∀ (Q : Handler → Pre) (E : CtlPost) (d : Bool) (acts : List Action), wp (findHandler f a) Q E e d acts S ↔ Q (.found x.handlerPc) ((VmOp.resolveClass f.method.cls x.catchType).dirties d) ((VmOp.resolveClass f.method.cls x.catchType).acts acts) (S.setVm vm') := by
    intro Q E d acts
    simp only [covers] at hx
    rw [W.findHandler_eq hm hc, htab]
    simp [findHandler.go, hx, h0, W.vmOp_same, ht, hsz, ha, hcell, hobj, hk, hcl, hfit]
  simp only [stepThrowing, searchFrame, vmDo]
  generalize hr : Sem.go _ e false [] S = res
  obtain ⟨as, rfl, -⟩ := Sem.eq_ok_of hr (a := Handler.found x.handlerPc) (s' := S.setVm vm') (acts' := (VmOp.resolveClass f.method.cls x.catchType).acts (unmarked [])) (by simp [hfind _ _ _ _])
  rfl
theorem lx_caught {tb : Tables} [Ours tb] {e : Env} {s target : State} {g : JFrame} {c : Code} {below : List Frame} {a : Addr} (h : At s g.method c below) {meth : Method} {x : ExceptionTableEntry} (hm : s.vm.method? g.method = some meth) (hc : meth.code = some c) (htab : c.exceptionTable.toList = [x]) (hx : covers x g.pc = true) (h0 : x.catchType ≠ 0) {cC : ClassId} {vm' : Vm} (hg : (Jvm.resolveClass g.method.cls x.catchType).Gives e.toSetting s.vm (.ok cC) vm') (hsz : vm'.classes.size ≤ s.vm.classes.size) {cell : Cell} (hcell : s.heap[a]? = some cell) (hobj : ∀ k, cell.vm ≠ .statics k) (hk : ∃ k, vm'.classes[cell.cls]? = some k) (hcl : ∃ k, vm'.classes[cC]? = some k) (hfit : vm'.assignable cell.cls cC = true)
    (hrest : Steps tb e below ((s.setVm vm').setTop { g with pc := x.handlerPc, stack := [.ref a] }) target) : Steps tb e below ((s.setTop g).pushFrame (.throwing a)) target := by
  obtain ⟨hgo, hw⟩ := h.throwing a
  refine Steps.head hgo hw ?_
  obtain ⟨g₀, hg0⟩ := Option.isSome_iff_exists.mp h.top
  obtain ⟨r, hr⟩ := State.topJava?_eq_some.mp hg0
  have hvm : ((s.setTop g).pushFrame (.throwing a)).vm = s.vm := Stand.throwing_vm s g a
  have hhp : ((s.setTop g).pushFrame (.throwing a)).heap = s.heap := Stand.throwing_heap s g a
  rw [stepThread_throwing (frames_entered h.top _), lx_catchStep (S := (s.setTop g).pushFrame (.throwing a)) (by rw [hvm]; exact hm) hc htab hx h0 (by rw [hvm]; exact hg) (by rw [hvm]; exact hsz) (by rw [hhp]; exact hcell) hobj hk hcl hfit]
  have hr' : (s.setVm vm').frames = .java g₀ :: r := hr
  rw [State.setTop_of_frames _ hr'] at hrest
  have e1 : ((s.setTop g).pushFrame (.throwing a)).setVm vm' = (s.setVm vm').setFrames (.throwing a :: .java g :: r) := by
    rw [State.pushFrame, State.frames_setTop _ hr, State.setTop_of_frames _ hr, State.setFrames_setFrames]
    rfl
  rw [e1, State.setFrames_setFrames, hr]
  exact hrest
section Met3
variable {l : Launch} {dC : Nat → ClassId} {dI : Nat → Nat → Nat} {tc : Nat → ClassId} {f : Nat → Nat → Int} {g : Nat → Int → Int} {a b c : Nat}
set_option maxRecDepth 100000 in
set_option maxHeartbeats 4000000 in
theorem lx_met (hfl : l.flags = flags0) (hn : 0 ≤ f 0 1 ∧ f 0 1 ≤ 60) (ht : ∀ i : Nat, i < (f 0 1).toNat → 32 ≤ g 1 i ∧ g 1 i ≤ 126) (hbad : (zRun (g 1) (f 0 1).toNat 0 zS0).1 ≠ -1) (ad : Nat → Nat) (sz : Nat) (hhf : am_hf (58, f, g, pr_r a b c)) :
    MetFree l mm0_read.1 (headSpec (Cond.code mm0_read.1 mm0_read.2.1 mm0_read.2.2.1 mm0_read.2.2.2.1 :: am_tb) (az_rm 6 58 58)) (va_Pc [Value.ref (ad 0)] (fun U => U.heap.size = sz ∧ va_P (dC, dI) classes (am_w ad tc (58, f, g, pr_r a b c)) U.heap ∧ va_K (dC, dI) classes (am_tys tc) U ∧ va_D (fun _ => True) (am_w ad tc (58, f, g, pr_r a b c)) ∧ am_Z ad (va_A (am_w ad tc (58, f, g, pr_r a b c)) sz) U ∧ lx_E (va_A (am_w ad tc (58, f, g, pr_r a b c)) sz) U)) (fun _ _ _ _ _ => True) (fun _ st o t => ∃ x, o = .threw x ∧ lx_R dC dI tc (fun s => ∃ F G, s = (58, F, G, pr_r a b c) ∧ zThr f g F G) [] st ad (va_A (am_w ad tc (58, f, g, pr_r a b c)) sz) t x) := by
  refine MetFree.of_bodyS (code := mm0_read.2.1) (maxLocals := mm0_read.2.2.1) (ret := mm0_read.2.2.2.1) (by decide) ?_ ?_
  · intro args s m h hn
    obtain ⟨meth, cd, h1, h2, h3, h4, h5, h6, -, -⟩ := Cond.code_spec hn (atoms_spec (ws := Cond.code mm0_read.1 mm0_read.2.1 mm0_read.2.2.1 mm0_read.2.2.2.1 :: am_tb) h _ List.mem_cons_self)
    exact ⟨meth, cd, h1, h2, h3, h4, h5, h6⟩
  · intro p e s m args below meth cd s₁ B hml hv _
    obtain ⟨rfl, hsz, hP, hK, hD0, hZ, hE⟩ := hv
    have hts := atoms_spec (ws := Cond.code mm0_read.1 mm0_read.2.1 mm0_read.2.2.1 mm0_read.2.2.2.1 :: am_tb) B.pre
    have hown : s.vm.findClass mm0_read.1.cls = some m.cls := findClass_of_methodNamed B.named
    have hin : meth.name = mm0_read.1.name := (name_of_methodNamed B.named B.method).1
    subst hsz
    have hD := hD0.self (sz := s.heap.size)
    have hl0 := lv_entry ([Value.ref (ad 0)]) (n := mm0_read.2.2.1) (Nat.le_of_ble_eq_true rfl)
    have hh0 : s₁.heap = s.heap := by rw [B.state]; rfl
    have hempty := B.noHandlers (hts _ List.mem_cons_self)
    have key : W p l e (az_rm 6 58 58) s m #[Value.ref (ad 0)] below meth cd s.heap [] 0 0 (lx_ZT dC dI tc (fun s => ∃ F G, s = (58, F, G, pr_r a b c) ∧ zThr f g F G) below #[Value.ref (ad 0)] s ad (va_A (am_w ad tc (58, f, g, pr_r a b c)) s.heap.size)) (entryFrame m [Value.ref (ad 0)].toArray mm0_read.2.2.1) := by
      rw [lg_entry_eq]
      generalize (lg_sl ([Value.ref (ad 0)]) ++ List.replicate (mm0_read.2.2.1 - (lg_sl ([Value.ref (ad 0)])).length) Slot.unset).toArray = ls at hl0 ⊢
      have hk := lx_read (l := l) (dC := dC) (dI := dI) (tc := tc) (a := a) (b := b) (c := c) hfl hn ht hbad ok_0_read p e s m #[Value.ref (ad 0)] below meth cd ad (va_A (am_w ad tc (58, f, g, pr_r a b c)) s.heap.size) ⟨B.exec, B.bytes, B.returns, hml, hown, fun w hw => hts w (List.mem_cons_of_mem _ hw), B.notSynchronized, hin, hK, fun q h => Or.inr h, hZ⟩ ad s.heap [] ls
        ⟨fun _ _ => rfl, Nat.le_refl _, ⟨hhf, trivial, fun j v hj => ?_⟩, hP, hD, va_S.rf, ⟨hl0.1, hl0.2.1, Nat.le_of_ble_eq_true rfl, fun j v hj => ?_⟩⟩
      · simp only [Nat.sub_self] at hk
        exact hk
      · match j, hj with
        | 0, hj => cases hj; exact fun k hk => by cases hk; exact Or.inl (by show 0 < 58; omega)
        | 1, hj => cases hj
        | j + 2, hj => cases hj
      · match j, hj with
        | 0, hj => cases hj; exact hl0.2.2 (0, .ref (ad 0)) (by simp [lv_args])
        | 1, hj => cases hj
        | j + 2, hj => cases hj
    obtain ⟨t, t1, t2⟩ := key s₁ hh0 (Stand.of_body B)
    obtain ⟨x, x1, x2, x3⟩ := t2 ⟨hE, fun m' meth' c' h1 h2 h3 => by
      have e1 := B.frames.symm.trans h1
      cases e1
      cases B.method.symm.trans h2
      cases (Stand.of_body B).code.symm.trans h3
      exact hempty⟩
    exact ⟨t, .threw x, t1, x1, x2, x, rfl, x3⟩
end Met3

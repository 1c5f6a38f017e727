/-! the class's read throws -/
def lx_S (C n d : String) (A : Nat → Prop) (U : State) (H : Heap) : Prop := ∃ (cf : ClassId) (kf : Class) (fi : Nat) (f : Field) (a : Nat) (cell : Cell) (v : Value), U.vm.findClass C = some cf ∧ U.fieldFound? C n d = some (cf, kf, fi, f) ∧ f.isStatic = true ∧ kf.statics = some a ∧ H[a]? = some cell ∧ cell.vm.isStatics = true ∧ cell.cls = cf ∧ f.slot < cell.slots.size ∧ kf.staticTypes[f.slot]? = some f.type ∧ cell.slots[f.slot]? = some v ∧ v.isRef = true ∧ ¬ A a
theorem lx_S.go {C n d : String} {A A1 : Nat → Prop} {u U : State} {H H1 : Heap} (hvm : u.vm.Alike U.vm) (hq : ∀ a : Nat, a < H.size → ¬ A a → H1[a]? = H[a]?) (hA : ∀ q, A1 q → A q) (h : lx_S C n d A u H) : lx_S C n d A1 U H1 := by
  obtain ⟨cf, kf, fi, f, a, cell, v, h0, h1, h2, h3, h4, h5, h6, h7, h8, h9, h10, h11⟩ := h
  obtain ⟨k', hi', he⟩ := State.fieldFound?_setVm hvm h1
  exact ⟨cf, k', fi, f, a, cell, v, by rw [hvm.findClass]; exact h0, hi', h2, by rw [he]; exact h3, by rw [hq a (Array.getElem?_eq_some_iff.mp h4).1 h11]; exact h4, h5, h6, h7, by rw [he]; exact h8, h9, h10, fun z => h11 (hA a z)⟩
theorem lx_S.lays {C n d : String} {A : Nat → Prop} {U : State} (h : lx_S C n d A U U.heap) (args : Array Value) : (Cond.laysStatic C n d).before args U = true := by
  obtain ⟨cf, kf, fi, f, a, cell, v, h0, h1, h2, h3, h4, h5, h6, h7, h8, h9, h10, h11⟩ := h
  simp [Cond.before, Cond.holds, Cond.value, h0, h1, h2, h3, h4, h5, h6, h7, h8]
theorem lx_S.ref {C n d : String} {A : Nat → Prop} {U : State} (h : lx_S C n d A U U.heap) (args : Array Value) : (Cond.isRef (.static C n d)).before args U = true := by
  obtain ⟨cf, kf, fi, f, a, cell, v, h0, h1, h2, h3, h4, h5, h6, h7, h8, h9, h10, h11⟩ := h
  cases v <;> first | (simp [Value.isRef] at h10; done) | simp [Cond.before, Cond.holds, Cond.value, Term.eval, State.fieldNamed?, h0, h1, h2, h3, h4, h5, h9]
theorem lx_S.of {args : Array Value} {s : State} {C n d : String} {A : Nat → Prop} (hl : (Cond.laysStatic C n d).before args s = true) (hv : (Cond.isRef (.static C n d)).before args s = true) (hA : ∀ a : Nat, a < s.heap.size → ¬ A a) : lx_S C n d A s s.heap := by
  obtain ⟨c, k, i, f, a, cell, hc, hi, hst, ha, hcell, hs, hcls, hlt, hty⟩ := Cond.laysStatic_spec hl
  have hval : (Term.static C n d).eval args s none [] s = cell.slots[f.slot]? := by simp [Term.eval, State.fieldNamed?, hi, hst, ha, hcell, hs]
  cases hsl : cell.slots[f.slot]? with
  | none => simp [Cond.before, Cond.holds, Cond.value, hval, hsl] at hv
  | some v =>
    refine ⟨c, k, i, f, a, cell, v, hc, hi, hst, ha, hcell, hs, hcls, hlt, hty, hsl, ?_, hA a (Array.getElem?_eq_some_iff.mp hcell).1⟩
    cases v <;> simp [Cond.before, Cond.holds, Cond.value, hval, hsl, Value.isRef] at hv ⊢
/-- what a throw needs that the tables' good words don't say -/
def lx_D : List Cond := [.declares (Bundle.initS "java/lang/RuntimeException"), .declares (Bundle.initS "java/lang/Exception"), .declares (Bundle.initS "java/lang/Throwable")]
def lx_E (A : Nat → Prop) (U : State) : Prop := (∀ w ∈ lx_D, va_Nw w U) ∧ va_Nw (.castable "java/lang/IllegalStateException" "java/lang/IllegalStateException") U ∧ lx_S Bundle.tN "UNASSIGNED_STACK" Bundle.steD A U U.heap ∧ lx_S Bundle.tN "SUPPRESSED_SENTINEL" Bundle.listD A U U.heap
theorem lx_E.go {A A1 : Nat → Prop} {s U : State} (h : lx_E A s) (hW : s.WarmedH U.vm) (hq : ∀ a : Nat, a < s.heap.size → ¬ A a → U.heap[a]? = s.heap[a]?) (hA : ∀ q, A1 q → A q) : lx_E A1 U := by
  obtain ⟨h1, h2, h3, h4⟩ := h
  refine ⟨fun w hw => ?_, va_Nw.warmC hW h2, h3.go hW.alike hq hA, h4.go hW.alike hq hA⟩
  have := h1 w hw
  simp only [lx_D, List.mem_cons, List.not_mem_nil, or_false] at hw
  rcases hw with rfl | rfl | rfl <;> exact va_Nw.warmD hW this
def lx_oa : List Cond := Bundle.ownAtoms "AddressGrammar" 67 "java/lang/IllegalStateException" ["java/lang/RuntimeException", "java/lang/Exception"]
def lx_ck (w : Cond) : Bool := am_isin w && w.onTables || decide (w ∈ lx_D) || decide (w = .castable "java/lang/IllegalStateException" "java/lang/IllegalStateException") || decide (w = .laysStatic Bundle.tN "UNASSIGNED_STACK" Bundle.steD) || decide (w = .laysStatic Bundle.tN "SUPPRESSED_SENTINEL" Bundle.listD) || decide (w = .isRef (.static Bundle.tN "UNASSIGNED_STACK" Bundle.steD)) || decide (w = .isRef (.static Bundle.tN "SUPPRESSED_SENTINEL" Bundle.listD))
theorem lx_cks : lx_oa.all lx_ck = true := by decide +kernel
theorem lx_atoms {A : Nat → Prop} {s U : State} {args : Array Value} (hts : ∀ w ∈ am_tb, w.before args s = true) (hvm : s.vm = U.vm) (hE : lx_E A U) : ∀ w ∈ lx_oa, w.before args U = true := by
  intro w hw
  have h := List.all_eq_true.mp lx_cks w hw
  simp only [lx_ck, Bool.or_eq_true, Bool.and_eq_true, decide_eq_true_eq] at h
  rcases h with (((((⟨h, h2⟩ | h) | h) | h) | h) | h) | h
  · exact va_tabs h2 hvm (hts w (am_in_tb h))
  · have h3 := hE.1 w h
    simp only [lx_D, List.mem_cons, List.not_mem_nil, or_false] at h
    rcases h with rfl | rfl | rfl <;> exact va_Nw.use rfl h3
  · rw [h]
    exact va_Nw.use rfl hE.2.1
  · rw [h]
    exact hE.2.2.1.lays args
  · rw [h]
    exact hE.2.2.2.lays args
  · rw [h]
    exact hE.2.2.1.ref args
  · rw [h]
    exact hE.2.2.2.ref args
section Base
variable {p : Program} {l : Launch} {e : Env} {R : Room} {s : State} {m : MethodId} {args : Array Value} {below : List Frame} {meth : Method} {c : Code} {T : State} {locs : List Loc}
/-- the invocation, looked at from the heap at hand -/
theorem lx_base (X : Stand p l e R s m args below meth c T locs 0 0) : Stand p l e R { s with heap := T.heap, slotsUsed := T.slotsUsed } m args below meth c T [] 0 0 := by
  have h1 := X.heapSize
  have h2 := X.used
  have hsz := X.same.2.1
  have h3 := X.book
  have hroom := X.room
  refine ⟨X.admits, X.cas, X.clock, X.frames, ?_, ?_, X.method, X.code, X.here, X.tail, X.warmed, X.limits, X.bytes, ?_⟩
  · simp only [State.hasRoom, Bool.and_eq_true, decide_eq_true_eq] at hroom ⊢
    obtain ⟨⟨⟨⟨r1, r2⟩, r3⟩, r4⟩, r5⟩ := hroom
    refine ⟨⟨⟨⟨r1, r2⟩, ?_⟩, ?_⟩, h3⟩
    · exact Nat.le_trans (Nat.add_le_add_right h1 _) r3
    · exact Nat.le_trans (Nat.add_le_add_right h2 _) r4
  · exact X.hears
  · have h0 := X.same.1
    refine ⟨?_, Nat.le_refl _, Nat.le_refl _, ?_, ?_, fun a cc hc => ⟨cc, hc, rfl, rfl, fun _ _ => rfl⟩⟩
    · exact h0
    · have : (T.setVm s.vm).heap.toList.drop T.heap.size = [] := List.drop_eq_nil_of_le (by simp [State.setVm])
      show T.slotsUsed = T.slotsUsed + _
      rw [this]
      rfl
    · have : (T.setVm s.vm).heap.toList.drop T.heap.size = [] := List.drop_eq_nil_of_le (by simp [State.setVm])
      show _ ≤ 0
      rw [this]
      exact Nat.le_refl _
end Base

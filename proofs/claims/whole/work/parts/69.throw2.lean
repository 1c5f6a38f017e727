/-! the class's read, where it throws -/
section Thr
variable {p : Program} {l : Launch} {e : Env} {R : Room} {s : State} {m : MethodId} {args : Array Value} {below : List Frame} {meth : Method} {c : Code} {T U : State} {locs : List Loc}
theorem lx_tr (X : Stand p l e R s m args below meth c T locs 0 0) (h : State.sameButNew { s with heap := T.heap, slotsUsed := T.slotsUsed } ({ U with vm := s.vm } : State) [] 1 6) : s.sameButNew ({ U with vm := s.vm } : State) locs 1 6 ∧ ∀ q : Nat, q < T.heap.size → U.heap[q]? = T.heap[q]? := by
  have hsz : T.heap.size = s.heap.size := Nat.le_antisymm X.heapSize X.same.2.1
  obtain ⟨b1, b2, b3, b4, b5, b6⟩ := h
  obtain ⟨a1, a2, a3, a4, a5, a6⟩ := X.same
  have hnil : (T.setVm s.vm).heap.toList.drop s.heap.size = [] := List.drop_eq_nil_of_le (by show T.heap.toList.length ≤ _; rw [Array.length_toList, hsz]; exact Nat.le_refl _)
  have hus : T.slotsUsed = s.slotsUsed := by
    have a4' : T.slotsUsed = s.slotsUsed + (((T.setVm s.vm).heap.toList.drop s.heap.size).map (·.slots.size)).sum := a4
    rw [hnil] at a4'
    exact a4'
  have key : ∀ (q : Nat) (cc : Cell), T.heap[q]? = some cc → U.heap[q]? = some cc := by
    intro q cc hc
    obtain ⟨c', c1, c2, c3, c4⟩ := b6 q cc hc
    have : c'.slots = cc.slots := Array.ext_getElem? (fun i => c4 i (by simp))
    rw [this] at c2
    have c1 : U.heap[q]? = some c' := c1
    rw [c1, c2]
  refine ⟨⟨b1, ?_, ?_, ?_, ?_, fun q cc hc => ?_⟩, fun q hq => ?_⟩
  · exact Nat.le_trans a2 b2
  · show U.heap.size ≤ s.heap.size + 1
    rw [← hsz]
    exact b3
  · show U.slotsUsed = s.slotsUsed + _
    rw [← hus, ← hsz]
    exact b4
  · rw [← hsz]
    exact b5
  · obtain ⟨c', c1, c2, c3, c4⟩ := a6 q cc hc
    exact ⟨c', key q c' c1, c2, c3, c4⟩
  · obtain ⟨cc, hc⟩ : ∃ cc, T.heap[q]? = some cc := ⟨_, Array.getElem?_eq_getElem hq⟩
    rw [hc]
    exact key q cc hc
end Thr
/-- how a throw of the class's read ends -/
def lx_R (dC : Nat → ClassId) (dI : Nat → Nat → Nat) (tc : Nat → ClassId) (QT : am_H → Prop) (below : List Frame) (s : State) (ad0 : Nat → Nat) (A : Nat → Prop) (t : State) (x : Addr) : Prop :=
  (∃ L, Jvm.Free.FrameEndT s (.threw x) t L 1 6 ∧ ∀ q ∈ L, A q.base) ∧ (∃ (σ : am_H) (ad : Nat → Nat), QT σ ∧ (∀ k, k < 58 ∨ 1000 ≤ k → ad k = ad0 k) ∧ σ.1 = 58 ∧ am_hf σ ∧ va_P (dC, dI) classes (am_w ad tc σ) t.heap ∧ va_D A (am_w ad tc σ)) ∧ va_F A s t ∧ s.heap.size ≤ x ∧ ∃ ce : Cell, t.heap[x]? = some ce ∧ ce.vm = .none ∧ s.vm.findClass "java/lang/IllegalStateException" = some ce.cls
def lx_ZT (dC : Nat → ClassId) (dI : Nat → Nat → Nat) (tc : Nat → ClassId) (QT : am_H → Prop) : az_T := fun below args s ad0 A t => (lx_E A s ∧ ∀ (m : MethodId) (meth : Method) (c : Code), s.frames = .invoking m args :: below → s.vm.method? m = some meth → meth.code = some c → c.exceptionTable.isEmpty = true) → ∃ x, t.status = .running ∧ Ended t below (.threw x) ∧ lx_R dC dI tc QT below s ad0 A t x
theorem lx_d31 : decode mm0_read.2.1 31 = .ok (.new 63, 3) := by decide +kernel
theorem lx_d34 : decode mm0_read.2.1 34 = .ok (.dup, 1) := by decide +kernel
theorem lx_d35 : decode mm0_read.2.1 35 = .ok (.ldc 65, 2) := by decide +kernel
theorem lx_d37 : decode mm0_read.2.1 37 = .ok (.invokespecial 67, 3) := by decide +kernel
theorem lx_d40 : decode mm0_read.2.1 40 = .ok (.athrow, 1) := by decide +kernel
theorem lx_w1 : am_isin (.classLink "AddressGrammar" 63 "java/lang/IllegalStateException") = true := by decide +kernel
theorem lx_w2 : am_isin (.instantiable "java/lang/IllegalStateException" 6) = true := by decide +kernel
theorem lx_w3 : am_isin (.initialized "java/lang/IllegalStateException") = true := by decide +kernel
theorem lx_off {l : Launch} {e : Env} (hfl : l.flags = flags0) (h : l.admits e) : e.platform.stackTraces = false := by
  have := congrArg Platform.stackTraces h.2.2.2.2.1
  rw [this]
  show l.stackTraces = false
  unfold Launch.stackTraces
  rw [hfl]
  decide +kernel
section Thr2
variable {l : Launch} {dC : Nat → ClassId} {dI : Nat → Nat → Nat} {tc : Nat → ClassId} {f : Nat → Nat → Int} {g : Nat → Int → Int} {a b c : Nat}
set_option maxRecDepth 100000 in
set_option maxHeartbeats 4000000 in
theorem lx_place17 (hfl : l.flags = flags0) {QT : am_H → Prop} (x : Int) (hQ : QT (58, f, g, pr_r a b c)) : az_wp l dC dI tc mm0_read 6 58 58 (lx_ZT dC dI tc QT) 17 [some (.inr (.inr (some 0))), some (.inl x)] [] (58, f, g, pr_r a b c) := by
  intro hok p e s m args below meth cd ad0 A hB ad HH locs ls hS T hT X
  by_cases hx : lx_E A s ∧ ∀ (m : MethodId) (meth : Method) (c : Code), s.frames = .invoking m args :: below → s.vm.method? m = some meth → meth.code = some c → c.exceptionTable.isEmpty = true
  · obtain ⟨hE, hexc⟩ := hx
    have hex := hexc m meth cd X.frames X.method X.code
    have X0 : Stand p l e (az_rm 6 58 58) s m args below meth cd T locs 0 0 := by
      have := X
      simp only [Nat.sub_self] at this
      exact this
    have X1 := lx_base X0
    obtain ⟨hadk, hn0, hsf, hP, hD, hSS, hlh⟩ := hS
    obtain ⟨bx, bb, br, bml, bown, bts, block, bname, bK, bA, bZ⟩ := hB
    subst hT
    have hsz : T.heap.size = s.heap.size := Nat.le_antisymm X0.heapSize X0.same.2.1
    have hE1 : lx_E A { s with heap := T.heap, slotsUsed := T.slotsUsed } := hE.go (U := { s with heap := T.heap, slotsUsed := T.slotsUsed }) (State.WarmedH.refl s) (fun q h1 h2 => hSS.2.1 q h1 h2) (fun _ h => h)
    have hat := lx_atoms (U := { s with heap := T.heap, slotsUsed := T.slotsUsed }) bts rfl hE1
    have tabs : ∀ w, am_isin w = true → w.onTables = true → w.before args { s with heap := T.heap, slotsUsed := T.slotsUsed } = true := fun w h1 h2 => va_tabs (u := s) (A := args) h2 rfl (bts w (am_in_tb h1))
    have hown1 : ({ s with heap := T.heap, slotsUsed := T.slotsUsed } : State).vm.findClass "AddressGrammar" = some m.cls := bown
    have h9 : vk_R "AddressGrammar" 65 (am_texts.getD 1 "") (ad0 (1000 + 1)) s := bZ.2.1 ("AddressGrammar", 65, 1) (by decide)
    have h9' : vk_R "AddressGrammar" 65 (am_texts.getD 1 "") (ad0 (1000 + 1)) { s with heap := T.heap, slotsUsed := T.slotsUsed } := vk_R.same rfl h9
    have K : W p l e (az_rm 6 58 58) { s with heap := T.heap, slotsUsed := T.slotsUsed } m args below meth cd T.heap [] 0 0 (fun t => ∃ x, t.status = .running ∧ Ended t below (.threw x) ∧ lx_R dC dI tc QT below s ad0 A t x) (F0 m 31 ls []) := by
      refine W.newc (C := "java/lang/IllegalStateException") (index := 63) (n := 6) bx bb hown1 (tabs _ lx_w1 rfl) (tabs _ lx_w2 rfl) (tabs _ lx_w3 rfl) rfl lx_d31 (Nat.le_of_ble_eq_true rfl) (Nat.le_of_ble_eq_true rfl) (fun cC kC h1 h2 h3 h4 => ?_)
      show W p l e (az_rm 6 58 58) { s with heap := T.heap, slotsUsed := T.slotsUsed } m args below meth cd (T.heap.push { cls := cC, slots := kC.instanceTypes.map defaultValue, vm := .none }) [] (0 + 1) (0 + 6) _ (F0 m 34 ls [.ref T.heap.size])
      refine lv_dup bx bb lx_d34 rfl ?_
      refine va_ldcS bx bb hown1 h9' lx_d35 ?_
      intro T2 hT2 X2
      have hsize : ls.size = cd.maxLocals := by rw [bml]; exact hlh.1
      obtain ⟨U, u1, u2, u3, u4, u5, ce, u6, u7⟩ := X2.ctorThrowS bx (lx_off hfl X0.admits) (own := "AddressGrammar") (cls := "java/lang/IllegalStateException") (names := ["java/lang/RuntimeException", "java/lang/Exception"]) (ic := 67) hown1 (by decide +kernel) (by decide +kernel) hat (fun x hx => by cases hx) (a := T.heap.size) h1 h2 (by rw [hT2]; simp [freshCell]) (Nat.le_refl _) (msg := .ref (ad0 (1000 + 1))) rfl (g := F0 m 37 ls [.ref (ad0 (1000 + 1)), .ref T.heap.size, .ref T.heap.size]) rfl hsize rfl rfl (rest := []) rfl (by rw [bb]; exact lx_d37) (by rw [bb]; exact lx_d40) (fun x hx => by
        have : cd.exceptionTable.toList = [] := by
          rw [Array.toList_eq_nil_iff]
          exact Array.isEmpty_iff.mp hex
        rw [this] at hx
        cases hx) (by decide) (Nat.le_of_ble_eq_true rfl) block
      obtain ⟨v1, v2⟩ := lx_tr X0 u5
      have hUsz : T.heap.size ≤ U.heap.size := u5.2.1
      refine ⟨U, u1, T.heap.size, u2, u3, ⟨locs, ⟨⟨_, rfl⟩, u4, v1⟩, fun q hq => hSS.2.2 q hq⟩, ⟨(58, f, g, pr_r a b c), ad, hQ, fun k hk => hadk k hk, rfl, hsf.1, ?_, hD⟩, ⟨?_, fun q h1 h2 => ?_⟩, by rw [hsz]; exact Nat.le_refl _, ce, u6, u7.vm, u7.cls⟩
      · intro k q hk
        exact (hP k q hk).kept (v2 q.1 (hP k q hk).lt)
      · rw [← hsz]
        exact hUsz
      · rw [v2 q (by rw [hsz]; exact h1)]
        exact hSS.2.1 q h1 h2
    obtain ⟨t, t1, t2⟩ := K T rfl X1
    exact ⟨t, t1, fun _ => t2⟩
  · exact ⟨_, Steps.refl _, fun h => absurd h hx⟩
set_option maxRecDepth 100000 in
set_option maxHeartbeats 4000000 in
theorem lx_read (hfl : l.flags = flags0) (hn : 0 ≤ f 0 1 ∧ f 0 1 ≤ 60) (ht : ∀ i : Nat, i < (f 0 1).toNat → 32 ≤ g 1 i ∧ g 1 i ≤ 126) (hbad : (zRun (g 1) (f 0 1).toNat 0 zS0).1 ≠ -1) : az_wp l dC dI tc mm0_read 6 58 58 (lx_ZT dC dI tc (fun s => ∃ F G, s = (58, F, G, pr_r a b c) ∧ zThr f g F G)) 0 [some (.inr (.inr (some 0))), none] [] (58, f, g, pr_r a b c) := by
  iterate 6 (refine zam_go rfl (by first | exact True.intro | omega) ?_)
  have hGe := zRun_ge (g 1) (f 0 1).toNat 0 zS0
  refine zam_call rfl (as := [.inr (.inr (some 7)), .inr (.inr (some 1)), .inl (f 0 1)]) (by rw [show f 0 1 = (((f 0 1).toNat : Nat) : Int) by omega]; exact ct_fill (f 0 1).toNat (by omega) ht) (by decide) (Nat.le_of_ble_eq_true rfl) (Nat.le_of_ble_eq_true rfl) (Nat.le_of_ble_eq_true rfl) (fun rv s q => ?_)
  obtain ⟨rfl, F, G, rfl, q1, q2⟩ := q
  iterate 6 (refine zam_go rfl (by first | exact True.intro | omega) ?_)
  refine zam_if rfl (fun c1 => absurd c1 hbad) (fun c1 => ?_)
  iterate 3 (refine zam_go rfl (by first | exact True.intro | omega) ?_)
  refine lx_place17 hfl _ ⟨_, G, rfl, fun y j h1 h2 => ?_, q1.2, ?_, am_u1_s⟩
  · rw [am_u1_ne (by omega), am_u1_ne (by omega)]
    exact q1.1 y j h1
  · rw [am_u1_ne (by decide), am_u1_s]
end Thr2

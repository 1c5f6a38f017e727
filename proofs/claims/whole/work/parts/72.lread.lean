/-! the law's own read: it catches -/
section Cons
variable {D : va_G} {cl : List vw_C} {A : Nat → Prop} {x : Nat × va_E} {w : va_W} {H : Heap}
theorem lw_Pt (h : va_P D cl (x :: w) H) : va_P D cl w H := fun k q hk => h (k + 1) q hk
theorem lw_Ph (h : va_P D cl (x :: w) H) : va_at D cl x H := h 0 x rfl
theorem lw_Pk (h : va_at D cl x H) (h2 : va_P D cl w H) : va_P D cl (x :: w) H := fun k q hk => by
  cases k with
  | zero => cases hk; exact h
  | succ k => exact h2 k q hk
theorem lw_Dt (h : va_D A (x :: w)) : va_D A w := ⟨fun i j p q h1 h2 h3 => Nat.succ.inj (h.1 (i + 1) (j + 1) p q h1 h2 h3), fun k q hk => h.2 (k + 1) q hk⟩
theorem lw_Dx (h : va_D A (x :: w)) : A x.1 ∧ ∀ (k : Nat) (q : Nat × va_E), w[k]? = some q → q.1 ≠ x.1 := ⟨h.2 0 x rfl, fun k q hk he => by
  have := h.1 (k + 1) 0 q x hk rfl he
  omega⟩
theorem lw_Dc (h1 : A x.1) (h2 : va_D A w) (h3 : ∀ (k : Nat) (q : Nat × va_E), w[k]? = some q → q.1 ≠ x.1) : va_D A (x :: w) := by
  refine ⟨fun i j p q hi hj he => ?_, fun k q hk => ?_⟩
  · cases i with
    | zero =>
      cases j with
      | zero => rfl
      | succ j => cases hi; exact absurd he.symm (h3 j q hj)
    | succ i =>
      cases j with
      | zero => cases hj; exact absurd he (h3 i p hi)
      | succ j => rw [h2.1 i j p q hi hj he]
  · cases k with
    | zero => cases hk; exact h1
    | succ k => exact h2.2 k q hk
end Cons
def lr_y : MethodName := ⟨"AddressGrammarLaw", "read", "(LAddressGrammar;[J)I"⟩
def lr_cw : Cond := .codeWith lr_y method_3_code 3 (some .int) [(0, 8, 11, 13)]
def lr_rm : Room := { frames := 7, cells := 1, slots := 6, locals := 245 }
def lr_P (dC : Nat → ClassId) (dI : Nat → Nat → Nat) (tc : Nat → ClassId) (ad : Nat → Nat) (σ : am_H) (oa : Nat) (cJ : ClassId) (fo : Nat → Int64) (sz : Nat) : Array Value → State → Prop := va_Pc [.ref (ad 0), .ref oa] (fun U => U.heap.size = sz ∧ va_P (dC, dI) classes ((oa, .inl (cJ, 1, .inr (.inl fo))) :: am_w ad tc σ) U.heap ∧ va_K (dC, dI) classes (am_tys tc ++ [(cJ, .long)]) U ∧ va_D (fun _ => True) ((oa, .inl (cJ, 1, .inr (.inl fo))) :: am_w ad tc σ) ∧ am_Z ad (va_A ((oa, .inl (cJ, 1, .inr (.inl fo))) :: am_w ad tc σ) sz) U ∧ lx_E (va_A ((oa, .inl (cJ, 1, .inr (.inl fo))) :: am_w ad tc σ) sz) U)
def lr_Q (dC : Nat → ClassId) (dI : Nat → Nat → Nat) (tc : Nat → ClassId) (ad : Nat → Nat) (oa : Nat) (cJ : ClassId) (A : Nat → Prop) (RR : Int → am_H → Int64 → Prop) : Array Value → State → Outcome → State → Prop := fun _ st o t => (∃ (k : Int) (σ' : am_H) (ad' : Nat → Nat) (fo' : Nat → Int64), o = .returned (some (.int (Int32.ofInt k))) ∧ RR k σ' (fo' 0) ∧ (∀ j, j < 58 ∨ 1000 ≤ j → ad' j = ad j) ∧ σ'.1 = 58 ∧ am_hf σ' ∧ va_P (dC, dI) classes ((oa, .inl (cJ, 1, .inr (.inl fo'))) :: am_w ad' tc σ') t.heap ∧ va_D A ((oa, .inl (cJ, 1, .inr (.inl fo'))) :: am_w ad' tc σ')) ∧ va_F A st t
theorem lr_d0 : decode method_3_code 0 = .ok (.aload_n 1, 1) := by decide +kernel
theorem lr_d1 : decode method_3_code 1 = .ok (.iconst 0, 1) := by decide +kernel
theorem lr_d2 : decode method_3_code 2 = .ok (.aload_n 0, 1) := by decide +kernel
theorem lr_d3 : decode method_3_code 3 = .ok (.invokevirtual 7, 3) := by decide +kernel
theorem lr_d6 : decode method_3_code 6 = .ok (.i2l, 1) := by decide +kernel
theorem lr_d7 : decode method_3_code 7 = .ok (.lastore, 1) := by decide +kernel
theorem lr_d8 : decode method_3_code 8 = .ok (.goto 6, 3) := by decide +kernel
theorem lr_d11 : decode method_3_code 11 = .ok (.astore_n 2, 1) := by decide +kernel
theorem lr_d12 : decode method_3_code 12 = .ok (.iconst 1, 1) := by decide +kernel
theorem lr_d13 : decode method_3_code 13 = .ok (.ireturn, 1) := by decide +kernel
theorem lr_d14 : decode method_3_code 14 = .ok (.iconst 0, 1) := by decide +kernel
theorem lr_d15 : decode method_3_code 15 = .ok (.ireturn, 1) := by decide +kernel
theorem lr_w1 : am_isin (.methodLink "AddressGrammarLaw" 7 mm0_read.1) = true := by decide +kernel
theorem lr_w2 : am_isin (.instanceMethod mm0_read.1) = true := by decide +kernel
theorem lr_w3 : am_isin (.selects mm0_read.1.cls mm0_read.1 mm0_read.1) = true := by decide +kernel
theorem lr_w4 : am_isin (.initialized mm0_read.1.cls) = true := by decide +kernel
theorem lr_w5 : am_sig mm0_read 1 1 = true := by decide +kernel
theorem lr_w6 : am_isin (.classLink "AddressGrammarLaw" 13 "java/lang/IllegalStateException") = true := by decide +kernel
theorem am_szz : am_sz 58 - am_sz 58 = 0 := Nat.sub_self _
section Lr
variable {l : Launch} {dC : Nat → ClassId} {dI : Nat → Nat → Nat} {tc : Nat → ClassId} {f : Nat → Nat → Int} {g : Nat → Int → Int} {a b c : Nat}
variable {ad : Nat → Nat} {oa : Nat} {cJ : ClassId} {fo : Nat → Int64}
set_option maxRecDepth 100000 in
set_option maxHeartbeats 4000000 in
theorem lr_ok {Q1 : Option am_V → am_H → Prop} (hC : am_Ct l dC dI tc mm0_read 6 58 [(.inr (.inr (some 0)))] (58, f, g, pr_r a b c) Q1) (hhf : am_hf (58, f, g, pr_r a b c)) (hQ1 : ∀ r s, Q1 r s → ∃ q, r = some (.inl q)) (sz : Nat) : Met l lr_y (lr_cw :: am_tb) lr_rm (lr_P dC dI tc ad (58, f, g, pr_r a b c) oa cJ fo sz) (lr_Q dC dI tc ad oa cJ (va_A ((oa, .inl (cJ, 1, .inr (.inl fo))) :: am_w ad tc (58, f, g, pr_r a b c)) sz) (fun k s v => k = 0 ∧ ∃ q, Q1 (some (.inl q)) s ∧ v = (Int32.ofInt q).toInt64)) 1 6 (va_A ((oa, .inl (cJ, 1, .inr (.inl fo))) :: am_w ad tc (58, f, g, pr_r a b c)) sz) := by
  refine va_MetW (hh := [(0, 8, 11, 13)]) (by decide) rfl ?_
  intro p e s m args below meth cd s₁ B hml hv
  obtain ⟨rfl, hsz, hP, hK, hD0, hZ, hE⟩ := hv
  have hts := atoms_spec (ws := lr_cw :: am_tb) B.pre
  have hown : s.vm.findClass "AddressGrammarLaw" = some m.cls := findClass_of_methodNamed B.named
  have hlocks := B.notSynchronized
  have hret : meth.sig.returnType = some .int := B.returns
  have hx := B.exec
  have hb : cd.code = method_3_code := B.bytes
  subst hsz
  have hD := hD0.self (sz := s.heap.size)
  have hfix : CallFix p m cd method_3_code 3 s [Value.ref (ad 0), Value.ref oa].toArray am_tb "AddressGrammarLaw" := ⟨hx, hb, hml, hown, fun w hw => hts w (List.mem_cons_of_mem _ hw)⟩
  have hA : ∀ q, s.heap.size ≤ q → va_A ((oa, .inl (cJ, 1, .inr (.inl fo))) :: am_w ad tc (58, f, g, pr_r a b c)) s.heap.size q := fun q h => Or.inr h
  have hK3 : va_K (dC, dI) classes (am_tys tc) s := ⟨hK.1, fun k q hk => hK.2 k q (by rw [List.getElem?_append_left (List.getElem?_eq_some_iff.mp hk).1]; exact hk)⟩
  have hl := lv_entry ([Value.ref (ad 0), Value.ref oa]) (n := 3) (Nat.le_of_ble_eq_true rfl)
  rw [lg_entry_eq]
  generalize (lg_sl ([Value.ref (ad 0), Value.ref oa]) ++ List.replicate (3 - (lg_sl ([Value.ref (ad 0), Value.ref oa])).length) Slot.unset).toArray = ls at hl ⊢
  have hl : lv_has ls 3 [(0, .ref (ad 0)), (1, .ref oa)] := hl
  refine lv_aload_n hx hb lr_d0 rfl (lv_at hl 1 rfl) ?_
  refine lv_iconst (v := 0) hx hb lr_d1 (by decide) ?_
  refine lv_aload_n hx hb lr_d2 rfl (lv_at hl 0 rfl) ?_
  have hDx := lw_Dx hD
  have holt : oa < s.heap.size := (lw_Ph hP).lt
  have hnot : ¬ va_A (am_w ad tc (58, f, g, pr_r a b c)) s.heap.size oa := by
    rintro (⟨k, e', hk⟩ | h)
    · exact hDx.2 k _ hk rfl
    · exact absurd holt (Nat.not_lt.mpr h)
  refine lw_callV (mno := 2) (ci := 0) (as3 := []) (c0 := 0) (rest := [.int 0, .ref oa]) hfix ⟨hhf, lw_Pt hP, lw_Dt hD, va_S.rf⟩ hA hK3 hZ (fun _ _ => rfl) hC trivial rfl rfl rfl (by show 0 < 58; omega) (Nat.le_refl _) lr_w1 lr_w2 lr_w3 lr_w4 lr_w5 ⟨Nat.le_of_ble_eq_true rfl, Nat.le_of_ble_eq_true rfl⟩ ⟨Nat.le_of_ble_eq_true rfl, Nat.le_of_ble_eq_true rfl⟩ hl.1 rfl (Nat.le_of_ble_eq_true rfl) lr_d3 (fun rv σ' ad' H' locs' hQ hB => ?_)
  obtain ⟨had, hnn, hvf, ⟨hhf', hP', hD', hS'⟩, hsz', hkeep, hDv⟩ := hB
  obtain ⟨q, rfl⟩ := hQ1 rv σ' hQ
  have hPx : va_P (dC, dI) classes ((oa, .inl (cJ, 1, .inr (.inl fo))) :: am_w ad' tc σ') H' := lw_Pk ((lw_Ph hP).kept (hkeep oa holt hnot)) hP'
  have hDx' : va_D (va_A ((oa, .inl (cJ, 1, .inr (.inl fo))) :: am_w ad tc (58, f, g, pr_r a b c)) s.heap.size) ((oa, .inl (cJ, 1, .inr (.inl fo))) :: am_w ad' tc σ') := lw_Dc hDx.1 hD' (fun k q' hk he => hnot (by have := hDv.2 k q' hk; rw [he] at this; exact this))
  refine lv_i2l (v := (Int32.ofInt q).toInt64) hx hb lr_d6 rfl ?_
  refine va_last hx hb hK hPx hDx' hS' 0 3 rfl rfl (i := 0) (vp_in_iff.mpr (by decide)) lr_d7 (fun H1 locs1 hP1 hD1 hS1 => ?_)
  refine lv_goto (tgt := 14) hx hb lr_d8 (by decide) ?_
  refine lv_iconst (v := 0) hx hb lr_d14 (by decide) ?_
  refine W.widen (k := 1) (n := 6) (Nat.le_of_ble_eq_true rfl) (Nat.le_of_ble_eq_true rfl) ?_
  refine W.iret hx hb hret (fun t ht _ => ⟨⟨0, σ', ad', _, rfl, ⟨rfl, q, hQ, ?_⟩, had, hnn, hhf', by rw [ht]; exact hP1, hD1⟩, hS1.F ht⟩) hS1.2.2 lr_d15
  rfl
set_option maxRecDepth 100000 in
set_option maxHeartbeats 4000000 in
theorem lr_back {p : Program} {e : Env} {below : List Frame} {s : State} {sargs : Array Value} (hfl : l.flags = flags0) (hn : 0 ≤ f 0 1 ∧ f 0 1 ≤ 60) (ht : ∀ i : Nat, i < (f 0 1).toNat → 32 ≤ g 1 i ∧ g 1 i ≤ 126) (hbad : (zRun (g 1) (f 0 1).toNat 0 zS0).1 ≠ -1) (sz : Nat) (hhf : am_hf (58, f, g, pr_r a b c)) (hts : ∀ w ∈ am_tb, w.before sargs s = true) :
    Jvm.Free.BackT l lr_rm p e below s sargs mm0_read.1 3 8 (fun A aa => A.cells + 1 ≤ 1 ∧ A.slots + 6 ≤ 6 ∧ aa = #[Value.ref (ad 0)] ∧ A.U.heap.size = sz ∧ va_P (dC, dI) classes (am_w ad tc (58, f, g, pr_r a b c)) A.U.heap ∧ va_K (dC, dI) classes (am_tys tc) A.U ∧ va_D (fun _ => True) (am_w ad tc (58, f, g, pr_r a b c)) ∧ am_Z ad (va_A (am_w ad tc (58, f, g, pr_r a b c)) sz) A.U ∧ lx_E (va_A (am_w ad tc (58, f, g, pr_r a b c)) sz) A.U)
      (fun A aa v B => ∃ (g' : JFrame) (mk : MethodId) (t : State) (L : List Loc), B.U.heap = t.heap ∧ B.U.vm = t.vm ∧ lx_R dC dI tc (fun s => ∃ F G, s = (58, F, G, pr_r a b c) ∧ zThr f g F G) [] (A.U.calling g' mk aa) ad (va_A (am_w ad tc (58, f, g, pr_r a b c)) sz) t v ∧ B.locs = A.locs ++ L ∧ (∀ q ∈ L, va_A (am_w ad tc (58, f, g, pr_r a b c)) sz q.base) ∧ B.cells = A.cells + 1 ∧ B.slots = A.slots + 6) := by
  refine Jvm.Free.BackT.of_free (bytes := mm0_read.2.1) (maxL := mm0_read.2.2.1) (ret := mm0_read.2.2.2.1) (E := fun _ _ _ _ L k n => k = 1 ∧ n = 6 ∧ ∀ q ∈ L, va_A (am_w ad tc (58, f, g, pr_r a b c)) sz q.base) (lx_met (dC := dC) (dI := dI) (tc := tc) (a := a) (b := b) (c := c) hfl hn ht hbad ad sz hhf) (Nat.le_of_ble_eq_true rfl) (Nat.le_of_ble_eq_true rfl) ?_ ?_ (fun _ _ _ _ _ _ _ _ _ => trivial) ?_ ?_
  · intro m meth cd Pt aa X hp
    have good : ∀ w ∈ am_tb, w.before aa Pt.U = true := fun w hw => by
      have hg : goodWord w = true := (List.mem_filter.mp hw).2
      refine word_at X.warmed ?_ (hts w hw)
      unfold goodWord at hg
      split at hg
      · exact Or.inr ⟨_, rfl⟩
      · exact Or.inl hg
    have hcode : Cond.code mm0_read.1 mm0_read.2.1 mm0_read.2.2.1 mm0_read.2.2.2.1 ∈ am_tb := am_Tcode 2 _ rfl
    exact ⟨atoms_intro (fun w hw => by
      rcases List.mem_cons.mp hw with rfl | hw
      · exact good _ hcode
      · exact good w hw), good _ hcode, good _ (am_in_tb lr_w4), hp.1, hp.2.1⟩
  · intro m meth cd Pt aa g' mk X hp
    obtain ⟨-, -, q0, q1, qP, qK, qD, qZ, qE⟩ := hp
    exact ⟨q0, q1, qP, va_K.moved (u := Pt.U) (U := Pt.U.calling g' mk aa) (Vm.Alike.refl _) qK, qD, am_Z.blind qZ, qE.go (U := Pt.U.calling g' mk aa) (State.WarmedH.refl _) (fun _ _ _ => rfl) (fun _ h => h)⟩
  · intro aa first oo t hq
    obtain ⟨x, rfl, hR⟩ := hq
    obtain ⟨L, hF, hL⟩ := hR.1
    exact ⟨L, 1, 6, hF, rfl, rfl, hL⟩
  · intro m meth cd Pt aa g' mk v t L k n X hp hq hF hE
    obtain ⟨rfl, rfl, hL⟩ := hE
    obtain ⟨x, hxe, hR⟩ := hq
    cases hxe
    exact ⟨g', mk, t, L, rfl, rfl, hR, rfl, hL, rfl, rfl⟩
end Lr

/-! a call of a contract from outside the machine: the law's own calls -/
section LwCall
variable {p : Program} {l : Launch} {e : Env} {R : Room} {s : State} {m : MethodId} {args : Array Value} {below : List Frame} {meth : Method} {c : Code} {H : Heap} {locs : List Loc} {cells slots : Nat} {Q : State → Prop}
variable {dC : Nat → ClassId} {dI : Nat → Nat → Nat} {tc : Nat → ClassId} {A : Nat → Prop} {ad0 ad : Nat → Nat} {σ : am_H} {M' : am_M} {d' n1' : Nat} {Q' : Option am_V → am_H → Prop} {cc : ByteArray} {nL pc idx : Nat} {own : String} {ls : Array Slot} {rest st : List Value} {as3 : List am_V} {c0 : Nat}
/-- the world's cells -/
def lw_I (dC : Nat → ClassId) (dI : Nat → Nat → Nat) (tc : Nat → ClassId) (s : State) (A : Nat → Prop) (ad : Nat → Nat) (σ : am_H) (H : Heap) (locs : List Loc) : Prop := am_hf σ ∧ va_P (dC, dI) classes (am_w ad tc σ) H ∧ va_D A (am_w ad tc σ) ∧ va_S A s.heap H locs
/-- behind the call -/
def lw_B (dC : Nat → ClassId) (dI : Nat → Nat → Nat) (tc : Nat → ClassId) (s : State) (A : Nat → Prop) (ad : Nat → Nat) (σ : am_H) (H : Heap) (n1' : Nat) (rv : Option am_V) (ad' : Nat → Nat) (σ' : am_H) (H' : Heap) (locs' : List Loc) : Prop :=
  (∀ k, k < σ.1 ∨ 1000 ≤ k → ad' k = ad k) ∧ σ'.1 = n1' ∧ (∀ v, rv = some v → am_vf n1' v) ∧ lw_I dC dI tc s A ad' σ' H' locs' ∧ H.size ≤ H'.size ∧ (∀ q : Nat, q < H.size → ¬ va_A (am_w ad tc σ) H.size q → H'[q]? = H[q]?) ∧ va_D (va_A (am_w ad tc σ) H.size) (am_w ad' tc σ')
theorem lw_run {aa : Array Value} {g : JFrame} (hI : lw_I dC dI tc s A ad σ H locs) (hA : ∀ q, s.heap.size ≤ q → A q) (hn1 : σ.1 ≤ n1')
    (hrun : va_Run p l e R s m args below meth c H locs cells slots (n1' - σ.1) (am_sz n1' - am_sz σ.1) g rest (am_Qc dC dI tc ad σ.1 n1' (va_A (am_w ad tc σ) H.size) Q' aa) (va_A (am_w ad tc σ) H.size))
    (k : ∀ rv σ' ad' H' locs', Q' rv σ' → lw_B dC dI tc s A ad σ H n1' rv ad' σ' H' locs' → W p l e R s m args below meth c H' locs' (cells + (n1' - σ.1)) (slots + (am_sz n1' - am_sz σ.1)) Q { g with pc := g.pc + 3, stack := (rv.map (am_v ad')).toList ++ rest }) :
    W p l e R s m args below meth c H locs cells slots Q g := by
  intro T hT X
  obtain ⟨v, st₀, t, T', L, h0, X', hL, e1, e2, ⟨⟨rv, σ', ad', ho, hQ, had, hnn, hhf, hvf, hP', hD'⟩, hz, hk⟩, hst⟩ := hrun T hT X
  have hv : v = rv.map (am_v ad') := Outcome.returned.inj ho
  subst hv
  obtain ⟨hf, hP, hD, hSS⟩ := hI
  have hwA := am_wA hD hSS hA
  rw [h0] at hz hk
  have hS1 : va_S A s.heap T'.heap (locs ++ L) := ⟨Nat.le_trans hSS.1 (by rw [e1]; exact hz), fun q g1 g2 => by
      rw [e1, hk q (Nat.lt_of_lt_of_le g1 hSS.1) (fun z => g2 (hwA q z))]
      exact hSS.2.1 q g1 g2, fun q hq => by
      rcases List.mem_append.mp hq with g | g
      · exact hSS.2.2 q g
      · exact hwA _ (hL q g)⟩
  have kk := k rv σ' ad' T'.heap (locs ++ L) hQ ⟨had, hnn, hvf, ⟨hhf, by rw [e1]; exact hP', hD'.weaken (fun _ q _ h => hwA q.1 h), hS1⟩, by rw [e1]; exact hz, fun q g1 g2 => by rw [e1]; exact hk q g1 g2, hD'⟩
  obtain ⟨t2, a1, b1⟩ := kk T' rfl X'
  exact ⟨t2, hst t2 a1, b1⟩
variable (hfix : CallFix p m c cc nL s args am_tb own) (hI : lw_I dC dI tc s A ad σ H locs) (hA : ∀ q, s.heap.size ≤ q → A q) (hK : va_K (dC, dI) classes (am_tys tc) s) (hZ : am_Z ad0 A s) (had : ∀ k, 1000 ≤ k → ad k = ad0 k)
theorem lw_pre {as2 : List am_V} (hI : lw_I dC dI tc s A ad σ H locs) (hA : ∀ q, s.heap.size ≤ q → A q) (hK : va_K (dC, dI) classes (am_tys tc) s) (hZ : am_Z ad0 A s) (had : ∀ k, 1000 ≤ k → ad k = ad0 k) : FrameBlind (va_Pc (as2.map (am_v ad)) (fun U => U.heap.size = H.size ∧ va_P (dC, dI) classes (am_w ad tc σ) U.heap ∧ va_K (dC, dI) classes (am_tys tc) U ∧ va_D (fun _ => True) (am_w ad tc σ) ∧ am_Z ad (va_A (am_w ad tc σ) H.size) U)) ∧ ∀ U : State, U.heap = H → s.WarmedH U.vm → va_Pc (as2.map (am_v ad)) (fun U => U.heap.size = H.size ∧ va_P (dC, dI) classes (am_w ad tc σ) U.heap ∧ va_K (dC, dI) classes (am_tys tc) U ∧ va_D (fun _ => True) (am_w ad tc σ) ∧ am_Z ad (va_A (am_w ad tc σ) H.size) U) (as2.map (am_v ad)).toArray U := by
  obtain ⟨hf, hP, hD, hSS⟩ := hI
  refine ⟨?_, fun U hU hW => ⟨rfl, by rw [hU], by rw [hU]; exact hP, va_K.moved hW.alike hK, hD.weaken (fun _ _ _ _ => trivial), am_Z.call hZ hSS (am_wA hD hSS hA) had hU hW⟩⟩
  intro a U g mk q
  obtain ⟨q0, q1, qP, qK, qD, qZ⟩ := q
  exact ⟨q0, q1, qP, va_K.moved (u := U) (U := U.calling g mk a) (Vm.Alike.refl U.vm) qK, qD, am_Z.blind qZ⟩
set_option maxHeartbeats 4000000 in
theorem lw_callV {mno ci : Nat} (hfix : CallFix p m c cc nL s args am_tb own) (hI : lw_I dC dI tc s A ad σ H locs) (hA : ∀ q, s.heap.size ≤ q → A q) (hK : va_K (dC, dI) classes (am_tys tc) s) (hZ : am_Z ad0 A s) (had : ∀ k, 1000 ≤ k → ad k = ad0 k)
    (hC : am_Ct l dC dI tc M' d' n1' (.inr (.inr (some c0)) :: as3) σ Q') (has : am_vs σ.1 as3) (hm : am_at am_mt mno = some M') (hmc : am_at am_mc mno = some ci) (hsh : am_at am_sh c0 = some (.inr ci)) (hc0 : c0 < σ.1) (hn1 : σ.1 ≤ n1')
    (l1 : am_isin (Cond.methodLink own idx M'.1) = true) (l2 : am_isin (Cond.instanceMethod M'.1) = true) (l3 : am_isin (Cond.selects M'.1.cls M'.1 M'.1) = true) (l4 : am_isin (Cond.initialized M'.1.cls) = true) (l5 : am_sig M' 1 (as3.length + 1) = true)
    (hroom : d' + 1 ≤ R.frames ∧ 35 + 35 * d' ≤ R.locals) (hcells : cells + (n1' - σ.1) ≤ R.cells ∧ slots + (am_sz n1' - am_sz σ.1) ≤ R.slots) (hsize : ls.size = nL) (hstack : st = (as3.map (am_v ad)).reverse ++ Value.ref (ad c0) :: rest) (hcat : (rest.map fun v => v.category).sum ≤ 8) (hdec : decode cc pc = .ok (.invokevirtual idx, 3))
    (k : ∀ rv σ' ad' H' locs', Q' rv σ' → lw_B dC dI tc s A ad σ H n1' rv ad' σ' H' locs' → W p l e R s m args below meth c H' locs' (cells + (n1' - σ.1)) (slots + (am_sz n1' - am_sz σ.1)) Q (F0 m (pc + 3) ls ((rv.map (am_v ad')).toList ++ rest))) :
    W p l e R s m args below meth c H locs cells slots Q (F0 m pc ls st) := by
  obtain ⟨hblind, hpre⟩ := lw_pre (as2 := .inr (.inr (some c0)) :: as3) hI hA hK hZ had
  have hcode := am_Tcode mno _ hm
  obtain ⟨s1, s2⟩ := am_sig_spec l5
  obtain ⟨q, hq, hqn⟩ := am_Tmc mno _ _ _ hm hmc hsh
  obtain ⟨-, ⟨ks, hks, -, -⟩, -, -⟩ := am_Tc ci q hq
  rw [Nat.add_sub_cancel] at s1
  have cw : CallW R s args own M'.1.cls idx M'.1 M'.2.1 M'.2.2.1 M'.2.2.2.1 (Cond.code M'.1 M'.2.1 M'.2.2.1 M'.2.2.2.1 :: am_tb) (am_rm d' σ.1 n1') (n1' - σ.1) (am_sz n1' - am_sz σ.1) as3.length :=
    cwV as3.length hfix.2.2.2.2 (am_goodIn (fun w hw => by
      unfold wsV at hw
      rcases List.mem_append.mp hw with z | z
      · simp only [List.mem_cons, List.not_mem_nil, or_false] at z
        rcases z with rfl | rfl | rfl | rfl
        · exact am_in_tb l1
        · exact am_in_tb l2
        · exact am_in_tb l3
        · exact am_in_tb l4
      · rcases List.mem_cons.mp z with rfl | z
        · exact hcode
        · exact z)) rfl rfl rfl ⟨rfl, s1⟩ ⟨hroom.1, by show 8 + (M'.2.2.1 + 11) + 35 * d' ≤ R.locals; omega⟩
  have hrv := va_recv hK hI.2.1 (by rw [← am_at_eq]; exact hq) (am_w_obj hc0 hsh hks)
  rw [hqn] at hrv
  have hrun := va_runV (l := l) (e := e) (below := below) (meth := meth) (locs := locs) (cells := cells) (slots := slots) (As := as3.map (am_v ad)) (rest := rest) (g := F0 m pc ls st) hfix (hC ad H.size hI.1 ⟨fun z hz => by cases hz; exact Or.inl hc0, has⟩) cw ⟨hblind, hrv, hpre⟩ rfl (by simp) hsize hstack (by show 2 * 0 + _ ≤ 8; omega) hdec hcells
  exact lw_run hI hA hn1 hrun k
set_option maxHeartbeats 4000000 in
theorem lw_callI {mno : Nat} (hfix : CallFix p m c cc nL s args am_tb own) (hI : lw_I dC dI tc s A ad σ H locs) (hA : ∀ q, s.heap.size ≤ q → A q) (hK : va_K (dC, dI) classes (am_tys tc) s) (hZ : am_Z ad0 A s) (had : ∀ k, 1000 ≤ k → ad k = ad0 k)
    (hC : am_Ct l dC dI tc M' d' n1' (.inr (.inr (some c0)) :: as3) σ Q') (has : am_vs σ.1 as3) (hm : am_at am_mt mno = some M') (hc0 : c0 < σ.1) (hn1 : σ.1 ≤ n1')
    (l1 : am_isin (Cond.methodLink own idx M'.1) = true) (l2 : am_isin (Cond.instanceMethod M'.1) = true) (l3 : am_isin (Cond.initialized M'.1.cls) = true) (l4 : M'.1.name = "<init>") (l6 : M'.2.2.2.1 = none) (l5 : am_sig M' 1 (as3.length + 1) = true)
    (hroom : d' + 1 ≤ R.frames ∧ 35 + 35 * d' ≤ R.locals) (hcells : cells + (n1' - σ.1) ≤ R.cells ∧ slots + (am_sz n1' - am_sz σ.1) ≤ R.slots) (hsize : ls.size = nL) (hstack : st = (as3.map (am_v ad)).reverse ++ Value.ref (ad c0) :: rest) (hcat : (rest.map fun v => v.category).sum ≤ 8) (hdec : decode cc pc = .ok (.invokespecial idx, 3))
    (k : ∀ rv σ' ad' H' locs', Q' rv σ' → lw_B dC dI tc s A ad σ H n1' rv ad' σ' H' locs' → W p l e R s m args below meth c H' locs' (cells + (n1' - σ.1)) (slots + (am_sz n1' - am_sz σ.1)) Q (F0 m (pc + 3) ls ((rv.map (am_v ad')).toList ++ rest))) :
    W p l e R s m args below meth c H locs cells slots Q (F0 m pc ls st) := by
  obtain ⟨hblind, hpre⟩ := lw_pre (as2 := .inr (.inr (some c0)) :: as3) hI hA hK hZ had
  have hcode := am_Tcode mno _ hm
  obtain ⟨s1, s2⟩ := am_sig_spec l5
  rw [Nat.add_sub_cancel] at s1
  have cw := cwI (R := R) (rm := am_rm d' σ.1 n1') (ws := Cond.code M'.1 M'.2.1 M'.2.2.1 M'.2.2.2.1 :: am_tb) as3.length hfix.2.2.2.2 (am_goodIn (fun w hw => by
    rcases List.mem_cons.mp hw with rfl | z
    · exact hcode
    · exact z)) (by rw [l6]) rfl rfl (hfix.2.2.2.2 _ (am_in_tb l3)) (hfix.2.2.2.2 _ (am_in_tb l1)) (hfix.2.2.2.2 _ (am_in_tb l2)) l4 s1 ⟨hroom.1, by show 8 + (M'.2.2.1 + 11) + 35 * d' ≤ R.locals; omega⟩
  have hrun := va_runI (l := l) (e := e) (below := below) (meth := meth) (locs := locs) (cells := cells) (slots := slots) (As := as3.map (am_v ad)) (rest := rest) (g := F0 m pc ls st) hfix (hC ad H.size hI.1 ⟨fun z hz => by cases hz; exact Or.inl hc0, has⟩) cw ⟨hblind, hpre⟩ rfl (by simp) hsize hstack (by show 2 * 0 + _ ≤ 8; omega) hdec hcells
  exact lw_run hI hA hn1 hrun k
end LwCall

section AmCall
variable {l : Launch} {dC : Nat → ClassId} {dI : Nat → Nat → Nat} {tc : Nat → ClassId} {M : am_M} {d n0 n1 : Nat} {Q : Option am_V → am_H → Prop} {i : Nat} {lv : am_L} {st : List am_V} {σ : am_H}
def am_in0 : List am_V → am_L
  | [] => []
  | .inl x :: l => some (.inl x) :: am_in0 l
  | .inr (.inl y) :: l => some (.inr (.inl y)) :: none :: am_in0 l
  | .inr (.inr k) :: l => some (.inr (.inr k)) :: am_in0 l
def am_pad : Nat → am_L → Option am_L
  | 0, _ => some []
  | n + 1, [] => match am_pad n [] with
    | some l => some (none :: l)
    | none => none
  | n + 1, o :: l => match am_pad n l with
    | some l' => some (o :: l')
    | none => none
theorem am_pad_spec : ∀ (n : Nat) (L lv : am_L), am_pad n L = some lv → lv.length = n ∧ ∀ i v, am_get lv i = some v → am_get L i = some v := by
  intro n
  induction n with
  | zero =>
    intro L lv h
    simp only [am_pad, Option.some.injEq] at h
    subst h
    exact ⟨rfl, fun i v h => by simp [am_get] at h⟩
  | succ n ih =>
    intro L lv h
    cases L with
    | nil =>
      simp only [am_pad] at h
      split at h
      · rename_i l hl
        simp only [Option.some.injEq] at h
        subst h
        obtain ⟨h1, h2⟩ := ih [] l hl
        refine ⟨by simp [h1], fun i v hi => ?_⟩
        cases i with
        | zero => simp [am_get] at hi
        | succ i => exact absurd (h2 i v hi) (by simp [am_get])
      · cases h
    | cons q L =>
      simp only [am_pad] at h
      split at h
      · rename_i l hl
        simp only [Option.some.injEq] at h
        subst h
        obtain ⟨h1, h2⟩ := ih L l hl
        refine ⟨by simp [h1], fun i v hi => ?_⟩
        cases i with
        | zero => exact hi
        | succ i => exact h2 i v hi
      · cases h
theorem am_in0_args (ad : Nat → Nat) : ∀ (as : List am_V) (b i : Nat) (v : am_V), am_get (am_in0 as) i = some v → (b + i, am_v ad v) ∈ lv_args b (as.map (am_v ad)) := by
  intro as
  induction as with
  | nil => intro b i v h; simp [am_in0, am_get] at h
  | cons a as ih =>
    intro b i v h
    rcases a with x | y | k
    · cases i with
      | zero =>
        simp only [am_in0, am_get, Option.some.injEq] at h
        subst h
        exact List.mem_cons_self
      | succ i =>
        refine List.mem_cons_of_mem _ ?_
        have := ih (b + 1) i v h
        rw [show b + (i + 1) = b + 1 + i by omega]
        exact this
    · cases i with
      | zero =>
        simp only [am_in0, am_get, Option.some.injEq] at h
        subst h
        exact List.mem_cons_self
      | succ i =>
        cases i with
        | zero => simp [am_in0, am_get] at h
        | succ i =>
          refine List.mem_cons_of_mem _ ?_
          have := ih (b + 2) i v h
          rw [show b + (i + 1 + 1) = b + 2 + i by omega]
          exact this
    · have hc : ¬ (am_v ad (.inr (.inr k))).category = 2 := by rw [am_catr]; decide
      cases i with
      | zero =>
        simp only [am_in0, am_get, Option.some.injEq] at h
        subst h
        exact List.mem_cons_self
      | succ i =>
        refine List.mem_cons_of_mem _ ?_
        have := ih (b + 1) i v h
        rw [show b + (i + 1) = b + 1 + i by omega]
        simp only [hc, if_false]
        exact this
theorem am_in0_len (ad : Nat → Nat) : ∀ (as : List am_V), (lg_sl (as.map (am_v ad))).length = (am_in0 as).length := by
  intro as
  induction as with
  | nil => rfl
  | cons a as ih =>
    rcases a with x | y | k
    · simp [lg_sl, am_in0, am_v, Value.category] at ih ⊢
      omega
    · simp [lg_sl, am_in0, am_v, Value.category] at ih ⊢
      omega
    · cases k <;> simp [lg_sl, am_in0, am_v, Value.category] at ih ⊢ <;> omega
theorem am_in0_vf {n : Nat} : ∀ (as : List am_V) (i : Nat) (v : am_V), am_vs n as → am_get (am_in0 as) i = some v → am_vf n v := by
  intro as
  induction as with
  | nil => intro i v _ h; simp [am_in0, am_get] at h
  | cons a as ih =>
    intro i v hv h
    rcases a with x | y | k
    · cases i with
      | zero => simp only [am_in0, am_get, Option.some.injEq] at h; subst h; exact hv.1
      | succ i => exact ih i v hv.2 h
    · cases i with
      | zero => simp only [am_in0, am_get, Option.some.injEq] at h; subst h; exact hv.1
      | succ i =>
        cases i with
        | zero => simp [am_in0, am_get] at h
        | succ i => exact ih i v hv.2 h
    · cases i with
      | zero => simp only [am_in0, am_get, Option.some.injEq] at h; subst h; exact hv.1
      | succ i => exact ih i v hv.2 h
theorem am_enter {as : List am_V} (hok : am_okM M) (h0 : am_pcd M 0 = 0) (hy : plainName M.1.cls = true) (hlen : (am_in0 as).length ≤ M.2.2.1) (hl : am_pad M.2.2.1 (am_in0 as) = some lv) (k : am_wp l dC dI tc M d σ.1 n1 Q 0 lv [] σ) : am_Ct l dC dI tc M d n1 as σ Q := by
  intro ad sz hhf has
  refine Met.ofW (cc := M.2.1) (maxL := M.2.2.1) (ret := M.2.2.2.1) hy rfl ?_
  intro p e s m args below meth c s₁ B hml hv
  obtain ⟨rfl, hsz, hP, hK, hD0, hZ⟩ := hv
  have hts := atoms_spec (ws := Cond.code M.1 M.2.1 M.2.2.1 M.2.2.2.1 :: am_tb) B.pre
  have hown : s.vm.findClass M.1.cls = some m.cls := findClass_of_methodNamed B.named
  have hlocks := B.notSynchronized
  have hin : meth.name = M.1.name := (name_of_methodNamed B.named B.method).1
  subst hsz
  have hD := hD0.self (sz := s.heap.size)
  obtain ⟨p1, p2⟩ := am_pad_spec _ _ _ hl
  have hl0 := lv_entry (as.map (am_v ad)) (n := M.2.2.1) (by rw [am_in0_len]; exact hlen)
  rw [lg_entry_eq]
  generalize (lg_sl (as.map (am_v ad)) ++ List.replicate (M.2.2.1 - (lg_sl (as.map (am_v ad))).length) Slot.unset).toArray = ls at hl0 ⊢
  have hk := k hok p e s m (as.map (am_v ad)).toArray below meth c ad (va_A (am_w ad tc σ) s.heap.size) ⟨B.exec, B.bytes, B.returns, hml, hown, fun w hw => hts w (List.mem_cons_of_mem _ hw), hlocks, hin, hK, fun q h => Or.inr h, hZ⟩ ad s.heap [] ls
    ⟨fun _ _ => rfl, Nat.le_refl _, ⟨hhf, trivial, fun j v hj => am_in0_vf as j v has (p2 j v hj)⟩, hP, hD, va_S.rf, ⟨hl0.1, hl0.2.1, by omega, fun j v hj => by
      have := hl0.2.2 (0 + j, am_v ad v) (am_in0_args ad as 0 j v (p2 j v hj))
      rw [Nat.zero_add] at this
      exact this⟩⟩
  rw [h0, Nat.sub_self, Nat.sub_self] at hk
  exact hk
variable {p : Program} {e : Env} {s : State} {m : MethodId} {args : Array Value} {below : List Frame} {meth : Method} {c : Code} {ad0 : Nat → Nat} {A : Nat → Prop}
variable {pc nx : Nat} {r : List am_V}
theorem am_wA {ad : Nat → Nat} {H : Heap} {locs : List Loc} (hD : va_D A (am_w ad tc σ)) (hS : va_S A s.heap H locs) (hA : ∀ q, s.heap.size ≤ q → A q) : ∀ q, va_A (am_w ad tc σ) H.size q → A q := by
  intro q h
  rcases h with ⟨k, e, hk⟩ | h
  · exact hD.2 k _ hk
  · exact hA q (Nat.le_trans hS.1 h)
theorem am_after {ad : Nat → Nat} {H : Heap} {locs : List Loc} {ls : Array Slot} {st0 : List Value} {aa : Array Value} {n1' : Nat} {Q' : Option am_V → am_H → Prop} {st1 : List am_V}
    (hrun : va_Run p l e (am_rm d n0 n1) s m args below meth c H locs (σ.1 - n0) (am_sz σ.1 - am_sz n0) (n1' - σ.1) (am_sz n1' - am_sz σ.1) (F0 m pc ls st0) (r.map (am_v ad)) (am_Qc dC dI tc ad σ.1 n1' (va_A (am_w ad tc σ) H.size) Q' aa) (va_A (am_w ad tc σ) H.size))
    (hB : am_B dC dI tc M ad0 A p s m args meth c) (hS : am_S dC dI tc s A n0 ad0 M.2.2.1 lv st1 σ ad H locs ls) (hr : am_vs σ.1 r) (hn1 : σ.1 ≤ n1') (hnx : am_pcd M nx = pc + 3) (k : ∀ rv σ', Q' rv σ' → am_K l dC dI tc M d n0 n1 Q p e s m args below meth c ad0 A nx lv (rv.toList ++ r) σ') :
    W p l e (am_rm d n0 n1) s m args below meth c H locs (σ.1 - n0) (am_sz σ.1 - am_sz n0) (MQ below (am_Qc dC dI tc ad0 n0 n1 A Q) args s (n1 - n0) (am_sz n1 - am_sz n0) A) (F0 m pc ls st0) := by
  intro T hT X
  obtain ⟨v, st₀, t, T', L, h0, X', hL, e1, e2, ⟨⟨rv, σ', ad', ho, hQ, had, hnn, hhf, hvf, hP', hD'⟩, hz, hk⟩, st⟩ := hrun T hT X
  have hv : v = rv.map (am_v ad') := Outcome.returned.inj ho
  subst hv
  have hn0 : n0 ≤ σ.1 := hS.2.1
  have hwA := am_wA hS.2.2.2.2.1 hS.2.2.2.2.2.1 hB.2.2.2.2.2.2.2.2.2.1
  rw [h0] at hz hk
  have hSS := hS.2.2.2.2.2.1
  have hS1 : va_S A s.heap T'.heap (locs ++ L) := ⟨Nat.le_trans hSS.1 (by rw [e1]; exact hz), fun q g1 g2 => by
      rw [e1, hk q (Nat.lt_of_lt_of_le g1 hSS.1) (fun z => g2 (hwA q z))]
      exact hSS.2.1 q g1 g2, fun q hq => by
      rcases List.mem_append.mp hq with g | g
      · exact hSS.2.2 q g
      · exact hwA _ (hL q g)⟩
  have hadk : ∀ k, k < n0 ∨ 1000 ≤ k → ad' k = ad0 k := fun k hk => by rw [had k (by omega)]; exact hS.1 k hk
  have hvs : am_vs σ'.1 (rv.toList ++ r) := by
    have hr' : am_vs σ'.1 r := am_vs_up (by omega) hr
    cases rv with
    | none => exact hr'
    | some w => exact ⟨by rw [hnn]; exact hvf w rfl, hr'⟩
  have kk := k rv σ' hQ ad' T'.heap (locs ++ L) ls ⟨hadk, by omega, ⟨hhf, hvs, fun j w hj => am_vf_up (by omega) (hS.lvf hj)⟩, by rw [e1]; exact hP', hD'.weaken (fun _ q _ h => hwA q.1 h), hS1, am_lh_ad had (fun j w hj => hS.lvf hj) hS.lh⟩
  have hm0 := am_sz_mono hn0
  have hm1 := am_sz_mono hn1
  have e3 : σ.1 - n0 + (n1' - σ.1) = σ'.1 - n0 := by omega
  have e4 : am_sz σ.1 - am_sz n0 + (am_sz n1' - am_sz σ.1) = am_sz σ'.1 - am_sz n0 := by rw [hnn]; omega
  rw [e3, e4] at X'
  obtain ⟨t2, a1, b1⟩ := kk T' rfl X'
  refine ⟨t2, st t2 ?_, b1⟩
  have e5 : (rv.toList ++ r).map (am_v ad') = (rv.map (am_v ad')).toList ++ r.map (am_v ad) := by
    rw [List.map_append, am_vs_ad had hr]
    cases rv <;> rfl
  rw [hnx, e5] at a1
  exact a1
def am_tk : Nat → List am_V → List am_V → Option (List am_V × List am_V)
  | 0, acc, st => some (acc, st)
  | n + 1, acc, v :: st => am_tk n (v :: acc) st
  | _ + 1, _, [] => none
theorem am_tk_spec : ∀ (n : Nat) (acc st as r : List am_V), am_tk n acc st = some (as, r) → ∃ b, st = b.reverse ++ r ∧ as = b ++ acc ∧ b.length = n := by
  intro n
  induction n with
  | zero =>
    intro acc st as r h
    simp only [am_tk, Option.some.injEq, Prod.mk.injEq] at h
    exact ⟨[], by simp [h.2], by simp [h.1], rfl⟩
  | succ n ih =>
    intro acc st as r h
    cases st with
    | nil => simp [am_tk] at h
    | cons v st =>
      obtain ⟨b, h1, h2, h3⟩ := ih (v :: acc) st as r h
      exact ⟨b ++ [v], by simp [h1], by simp [h2], by simp [h3]⟩
def am_cx (M : am_M) (n i : Nat) (st : List am_V) : Option (am_M × List am_V × Nat × List am_V) := match am_at M.2.2.2.2 i with
  | some (_, ins, nx, xs, _) => match xs with
    | mno :: na :: xs2 => match am_at am_mt mno, am_tk na [] st with
      | some M', some (as, r) => match ins with
        | .invokevirtual _ => match xs2, as with
          | [], .inr (.inr (some c)) :: as3 => match am_at am_sh c, am_at am_mc mno with
            | some (.inr ci), some ci' => cond (Nat.beq ci ci' && Nat.blt c n) (some (M', .inr (.inr (some c)) :: as3, nx, r)) none
            | _, _ => none
          | _, _ => none
        | .invokespecial _ => match xs2, as with
          | [], .inr (.inr (some c)) :: as3 => some (M', .inr (.inr (some c)) :: as3, nx, r)
          | [_], .inr (.inr (some c)) :: as3 => some (M', .inr (.inr (some c)) :: as3, nx, r)
          | _, _ => none
        | .invokestatic _ => match xs2 with
          | [] => some (M', as, nx, r)
          | _ => none
        | _ => none
      | _, _ => none
    | _ => none
  | none => none
theorem am_sig_spec {M' : am_M} {b na : Nat} (h : am_sig M' b na = true) : (M'.1.cls ≠ "java/lang/invoke/MethodHandle" ∧ M'.1.cls ≠ "java/lang/invoke/VarHandle" ∧ (parseMethodDescriptor M'.1.desc).map (fun d => d.parameters.length) = some (na - b)) ∧ M'.2.2.1 ≤ 16 := by
  simp only [am_sig, Bool.and_eq_true, decide_eq_true_eq] at h
  obtain ⟨⟨⟨h1, h2⟩, h3⟩, h4⟩ := h
  refine ⟨⟨h2, h3, ?_⟩, h4⟩
  cases hp : parseMethodDescriptor M'.1.desc with
  | none => rw [hp] at h1; simp at h1
  | some q =>
    rw [hp] at h1
    simp only [Option.map_some, Option.some.injEq] at h1 ⊢
    omega
theorem am_injc {a b : am_M} {x1 x2 : List am_V} {y1 y2 : Nat} {z1 z2 : List am_V} (h : (some (a, x1, y1, z1) : Option (am_M × List am_V × Nat × List am_V)) = some (b, x2, y2, z2)) : a = b ∧ x1 = x2 ∧ y1 = y2 ∧ z1 = z2 := by
  cases h
  exact ⟨rfl, rfl, rfl, rfl⟩
theorem am_condc {b : Bool} {X : Option (am_M × List am_V × Nat × List am_V)} {y : am_M × List am_V × Nat × List am_V} (h : cond b X none = some y) : b = true ∧ X = some y := by
  cases b
  · cases h
  · exact ⟨rfl, h⟩
theorem am_goodIn {ws : List Cond} (h : ∀ w ∈ ws, w ∈ am_tb) : GoodIn am_tb ws := fun w hw => ⟨h w hw, am_tb_good (h w hw)⟩
theorem am_roomok {d' : Nat} {M' : am_M} {n n' : Nat} (hd : d' < d) (hm : M'.2.2.1 ≤ 16) : (am_rm d' n n').frames + 1 ≤ (am_rm d n0 n1).frames ∧ 8 + (M'.2.2.1 + 11) + (am_rm d' n n').locals ≤ (am_rm d n0 n1).locals := by
  constructor
  · show d' + 1 ≤ d
    omega
  · show 8 + (M'.2.2.1 + 11) + 35 * d' ≤ 35 * d
    omega
theorem am_st_eq {ad : Nat → Nat} {c : Nat} {as3 r : List am_V} : List.map (am_v ad) ((.inr (.inr (some c)) :: as3).reverse ++ r) = (as3.map (am_v ad)).reverse ++ Value.ref (ad c) :: r.map (am_v ad) := by
  simp [am_v]
set_option maxHeartbeats 4000000 in
theorem am_call {M' : am_M} {as : List am_V} {d' n1' : Nat} {Q' : Option am_V → am_H → Prop} (h : am_cx M σ.1 i st = some (M', as, nx, r)) (hC : am_Ct l dC dI tc M' d' n1' as σ Q') (hd : d' < d) (hn : σ.1 ≤ n1') (hn1 : n1' ≤ n1) (hr4 : r.length ≤ 4) (k : ∀ rv σ', Q' rv σ' → am_wp l dC dI tc M d n0 n1 Q nx lv (rv.toList ++ r) σ') : am_wp l dC dI tc M d n0 n1 Q i lv st σ := by
  unfold am_cx at h
  split at h
  · rename_i pc ins nx0 xs kk he
    split at h
    · rename_i mno na xs2
      split at h
      · rename_i M2 as2 r2 hm htk
        intro hok p e s m args below meth c ad0 A hB ad H locs ls hS
        have ho := hok i _ he
        have hp : am_pcd M i = pc := by unfold am_pcd; rw [he]
        have k := fun rv σ' q => k rv σ' q hok p e s m args below meth c ad0 A hB
        have hcode := am_Tcode mno _ hm
        obtain ⟨b, hb1, hb2, hb3⟩ := am_tk_spec _ _ _ _ _ htk
        rw [List.append_nil] at hb2
        subst hb2
        have hvsall := hS.vs
        rw [hb1] at hvsall
        have hvm := am_vs_mem hvsall
        have hr : am_vs σ.1 r2 := am_vs_of (fun v hv => hvm v (List.mem_append_right _ hv))
        have has : am_vs σ.1 as2 := am_vs_of (fun v hv => hvm v (List.mem_append_left _ (List.mem_reverse.mpr hv)))
        have hl := am_oke_lk ho
        have hn0 : n0 ≤ σ.1 := hS.2.1
        have hZ : ∀ U : State, U.heap = H → s.WarmedH U.vm → am_Z ad (va_A (am_w ad tc σ) H.size) U := fun U hU hW => am_Z.call hB.2.2.2.2.2.2.2.2.2.2 hS.2.2.2.2.2.1 (am_wA hS.2.2.2.2.1 hS.2.2.2.2.2.1 hB.2.2.2.2.2.2.2.2.2.1) (fun k hk => hS.1 k (Or.inr hk)) hU hW
        have hpre : ∀ U : State, U.heap = H → s.WarmedH U.vm → va_Pc (as2.map (am_v ad)) (fun U => U.heap.size = H.size ∧ va_P (dC, dI) classes (am_w ad tc σ) U.heap ∧ va_K (dC, dI) classes (am_tys tc) U ∧ va_D (fun _ => True) (am_w ad tc σ) ∧ am_Z ad (va_A (am_w ad tc σ) H.size) U) (as2.map (am_v ad)).toArray U := fun U hU hW =>
          ⟨rfl, by rw [hU], by rw [hU]; exact hS.2.2.2.1, va_K.moved hW.alike hB.2.2.2.2.2.2.2.2.1, hS.2.2.2.2.1.weaken (fun _ _ _ _ => trivial), hZ U hU hW⟩
        have hblind : FrameBlind (va_Pc (as2.map (am_v ad)) (fun U => U.heap.size = H.size ∧ va_P (dC, dI) classes (am_w ad tc σ) U.heap ∧ va_K (dC, dI) classes (am_tys tc) U ∧ va_D (fun _ => True) (am_w ad tc σ) ∧ am_Z ad (va_A (am_w ad tc σ) H.size) U)) := by
          intro a U g mk q
          obtain ⟨q0, q1, qP, qK, qD, qZ⟩ := q
          exact ⟨q0, q1, qP, va_K.moved (u := U) (U := U.calling g mk a) (Vm.Alike.refl U.vm) qK, qD, am_Z.blind qZ⟩
        have hcells : σ.1 - n0 + (n1' - σ.1) ≤ (am_rm d n0 n1).cells ∧ am_sz σ.1 - am_sz n0 + (am_sz n1' - am_sz σ.1) ≤ (am_rm d n0 n1).slots := by
          have hm0 := am_sz_mono hn0
          have hm1 := am_sz_mono hn
          have hm2 := am_sz_mono hn1
          refine ⟨?_, ?_⟩
          · show _ ≤ n1 - n0
            omega
          · show _ ≤ am_sz n1 - am_sz n0
            omega
        have hfix : CallFix p m c M.2.1 M.2.2.1 s args am_tb M.1.cls := ⟨hB.1, hB.2.1, hB.2.2.2.1, hB.2.2.2.2.1, hB.2.2.2.2.2.1⟩
        have hsize : ls.size = M.2.2.1 := hS.lh.1
        rw [hp]
        split at h
        · rename_i idx
          split at h
          · rename_i c0 as3
            split at h
            · rename_i ci ci' hsh hmc
              obtain ⟨hc0, h2⟩ := am_condc h
              obtain ⟨hc1, hc2⟩ := am_and2 hc0
              subst hc1
              obtain ⟨rfl, rfl, rfl, rfl⟩ := am_injc h2
              have hcat : 2 * 0 + ((r2.map (am_v ad)).map fun v => v.category).sum ≤ 8 := by
                have := am_cats ad r2
                omega
              have hdec := am_oke_dec ho (fun a b c d h => by cases h)
              simp only [am_lk, hm, Bool.and_eq_true] at hl
              obtain ⟨⟨⟨⟨l1, l2⟩, l3⟩, l4⟩, l5⟩ := hl
              obtain ⟨s1, s2⟩ := am_sig_spec l5
              obtain ⟨q, hq, hqn⟩ := am_Tmc mno _ _ _ hm hmc hsh
              obtain ⟨-, ⟨ks, hks, -, -⟩, -, -⟩ := am_Tc ci q hq
              have hna : na - 1 = as3.length := by rw [← hb3]; simp
              rw [hna] at s1
              have cw : CallW (am_rm d n0 n1) s args M.1.cls M2.1.cls idx M2.1 M2.2.1 M2.2.2.1 M2.2.2.2.1 (Cond.code M2.1 M2.2.1 M2.2.2.1 M2.2.2.2.1 :: am_tb) (am_rm d' σ.1 n1') (n1' - σ.1) (am_sz n1' - am_sz σ.1) as3.length :=
                cwV as3.length hB.2.2.2.2.2.1 (am_goodIn (fun w hw => by
                  unfold wsV at hw
                  rcases List.mem_append.mp hw with z | z
                  · simp only [List.mem_cons, List.not_mem_nil, or_false] at z
                    rcases z with rfl | rfl | rfl | rfl
                    · exact am_in_tb l1
                    · exact am_in_tb l2
                    · exact am_in_tb l3
                    · exact am_in_tb l4
                  · rcases List.mem_cons.mp z with rfl | z
                    · exact hcode
                    · exact z)) rfl rfl rfl ⟨rfl, s1⟩ (am_roomok hd s2)
              have hrv := va_recv hB.2.2.2.2.2.2.2.2.1 hS.2.2.2.1 (by rw [← am_at_eq]; exact hq) (am_w_obj hc2 hsh hks)
              rw [hqn] at hrv
              have hrun := va_runV (l := l) (e := e) (below := below) (meth := meth) (locs := locs) (cells := σ.1 - n0) (slots := am_sz σ.1 - am_sz n0) (As := as3.map (am_v ad)) (rest := r2.map (am_v ad)) (g := F0 m pc ls (st.map (am_v ad))) hfix (hC ad H.size hS.hf has) cw ⟨hblind, hrv, hpre⟩ rfl (by simp) hsize (by show st.map (am_v ad) = _; rw [hb1]; exact am_st_eq) hcat hdec hcells
              exact am_after hrun hB hS hr hn (am_oke_nx ho rfl) k
            · cases h
          · cases h
        · rename_i idx
          split at h
          · rename_i c0 as3
            obtain ⟨rfl, rfl, rfl, rfl⟩ := am_injc h
            have hcat : 2 * 0 + ((r2.map (am_v ad)).map fun v => v.category).sum ≤ 8 := by
              have := am_cats ad r2
              omega
            have hdec := am_oke_dec ho (fun a b c d h => by cases h)
            simp only [am_lk, hm, Bool.and_eq_true, decide_eq_true_eq] at hl
            obtain ⟨⟨⟨⟨⟨l1, l2⟩, l3⟩, l4⟩, l6⟩, l5⟩ := hl
            obtain ⟨s1, s2⟩ := am_sig_spec l5
            have hna : na - 1 = as3.length := by rw [← hb3]; simp
            rw [hna] at s1
            have cw := cwI (R := am_rm d n0 n1) (rm := am_rm d' σ.1 n1') (ws := Cond.code M2.1 M2.2.1 M2.2.2.1 M2.2.2.2.1 :: am_tb) as3.length hB.2.2.2.2.2.1 (am_goodIn (fun w hw => by
                rcases List.mem_cons.mp hw with rfl | z
                · exact hcode
                · exact z)) (by rw [l6]) rfl rfl (hB.2.2.2.2.2.1 _ (am_in_tb l3)) (hB.2.2.2.2.2.1 _ (am_in_tb l1)) (hB.2.2.2.2.2.1 _ (am_in_tb l2)) l4 s1 (am_roomok hd s2)
            have hrun := va_runI (l := l) (e := e) (below := below) (meth := meth) (locs := locs) (cells := σ.1 - n0) (slots := am_sz σ.1 - am_sz n0) (As := as3.map (am_v ad)) (rest := r2.map (am_v ad)) (g := F0 m pc ls (st.map (am_v ad))) hfix (hC ad H.size hS.hf has) cw ⟨hblind, hpre⟩ rfl (by simp) hsize (by show st.map (am_v ad) = _; rw [hb1]; exact am_st_eq) hcat hdec hcells
            exact am_after hrun hB hS hr hn (am_oke_nx ho rfl) k
          · rename_i z0 c0 as3
            obtain ⟨rfl, rfl, rfl, rfl⟩ := am_injc h
            have hcat : 2 * 0 + ((r2.map (am_v ad)).map fun v => v.category).sum ≤ 8 := by
              have := am_cats ad r2
              omega
            have hdec := am_oke_dec ho (fun a b c d h => by cases h)
            simp only [am_lk, hm, Bool.and_eq_true, decide_eq_true_eq] at hl
            obtain ⟨⟨⟨⟨⟨l1, l2⟩, l3⟩, l4⟩, l6⟩, l5⟩ := hl
            obtain ⟨s1, s2⟩ := am_sig_spec l5
            have hna : na - 1 = as3.length := by rw [← hb3]; simp
            rw [hna] at s1
            have cw := va_cnB (R := am_rm d n0 n1) (rm := am_rm d' σ.1 n1') (ret := none) (ws := Cond.code M2.1 M2.2.1 M2.2.2.1 M2.2.2.2.1 :: am_tb) as3.length hB.2.2.2.2.2.1 (am_goodIn (fun w hw => by
                rcases List.mem_cons.mp hw with rfl | z
                · exact hcode
                · exact z)) (by rw [l6]) rfl rfl (hB.2.2.2.2.2.2.2.2.2.2.1 _ l1) (hB.2.2.2.2.2.1 _ (am_in_tb l3)) s1 (am_roomok hd s2)
            have hrun := va_runIN (l := l) (e := e) (below := below) (meth := meth) (locs := locs) (cells := σ.1 - n0) (slots := am_sz σ.1 - am_sz n0) (As := as3.map (am_v ad)) (rest := r2.map (am_v ad)) (g := F0 m pc ls (st.map (am_v ad))) hfix (hC ad H.size hS.hf has) ⟨cw, l4, hB.2.2.2.2.2.1 _ (am_in_tb l2)⟩ ⟨hblind, hpre⟩ rfl (by simp) hsize (by show st.map (am_v ad) = _; rw [hb1]; exact am_st_eq) hcat hdec hcells
            exact am_after hrun hB hS hr hn (am_oke_nx ho rfl) k
          · cases h
        · rename_i idx
          split at h
          · obtain ⟨rfl, rfl, rfl, rfl⟩ := am_injc h
            have hcat : 2 * 0 + ((r2.map (am_v ad)).map fun v => v.category).sum ≤ 8 := by
              have := am_cats ad r2
              omega
            have hdec := am_oke_dec ho (fun a b c d h => by cases h)
            simp only [am_lk, hm, Bool.and_eq_true, decide_eq_true_eq] at hl
            obtain ⟨⟨⟨⟨l1, l2⟩, l3⟩, l4⟩, l5⟩ := hl
            obtain ⟨s1, s2⟩ := am_sig_spec l5
            have hna : na - 0 = as2.length := by rw [← hb3]; simp
            rw [hna] at s1
            have cw := cwS (R := am_rm d n0 n1) (rm := am_rm d' σ.1 n1') (ws := Cond.code M2.1 M2.2.1 M2.2.2.1 M2.2.2.2.1 :: am_tb) as2.length hB.2.2.2.2.2.1 (am_goodIn (fun w hw => by
                  unfold wsS at hw
                  rcases List.mem_append.mp hw with z | z
                  · simp only [List.mem_cons, List.not_mem_nil, or_false] at z
                    rcases z with rfl | rfl | rfl
                    · exact am_in_tb l1
                    · exact am_in_tb l2
                    · exact am_in_tb l3
                  · rcases List.mem_cons.mp z with rfl | z
                    · exact hcode
                    · exact z)) rfl rfl rfl ⟨l4, s1⟩ (am_roomok hd s2)
            have hrun := va_runS (l := l) (e := e) (below := below) (meth := meth) (locs := locs) (cells := σ.1 - n0) (slots := am_sz σ.1 - am_sz n0) (As := as2.map (am_v ad)) (rest := r2.map (am_v ad)) (g := F0 m pc ls (st.map (am_v ad))) hfix (hC ad H.size hS.hf has) cw ⟨hblind, hpre⟩ rfl (by simp) hsize (by show st.map (am_v ad) = _; rw [hb1]; simp) hcat hdec hcells
            exact am_after hrun hB hS hr hn (am_oke_nx ho rfl) k
          · cases h
        · cases h
      · cases h
    · cases h
  · cases h
end AmCall

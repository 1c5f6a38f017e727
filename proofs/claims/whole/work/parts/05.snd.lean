/-! WHAT THE SMALL MACHINE SAYS OF THE LARGE ONE -/
def am_v (ad : Nat → Nat) : am_V → Value
  | .inl x => .int (Int32.ofInt x)
  | .inr (.inl y) => .long (Int64.ofInt y)
  | .inr (.inr none) => .null
  | .inr (.inr (some k)) => .ref (ad k)
def am_ln : Instr → Nat
  | .bipush _ => 2
  | .ldc _ => 2
  | .iload _ => 2
  | .lload _ => 2
  | .aload _ => 2
  | .istore _ => 2
  | .astore _ => 2
  | .newarray _ => 2
  | .sipush _ => 3
  | .ldc2_w _ => 3
  | .getfield _ => 3
  | .getstatic _ => 3
  | .putfield _ => 3
  | .invokevirtual _ => 3
  | .invokespecial _ => 3
  | .invokestatic _ => 3
  | .new _ => 3
  | .goto _ => 3
  | .ifCond _ _ => 3
  | .if_icmp _ _ => 3
  | .iinc _ _ => 3
  | _ => 1
def am_pcd (M : am_M) (i : Nat) : Nat := match am_at M.2.2.2.2 i with
  | some e => e.1
  | none => 0
def am_fty (ci j : Nat) : Option FieldType := match am_at classes ci with
  | some q => parseFieldDescriptor (q.2.1 j).2.2.1
  | none => none
def am_tb : List Cond := lw_tbl.filter goodWord
def am_isin (w : Cond) : Bool := decide (w ∈ lw_tbl) && goodWord w
theorem am_in_tb {w : Cond} (h : am_isin w = true) : w ∈ am_tb := by
  simp only [am_isin, Bool.and_eq_true, decide_eq_true_eq] at h
  exact List.mem_filter.mpr h
theorem am_tb_good {w : Cond} (h : w ∈ am_tb) : (w.onTables && w.keeps) = true ∨ ∃ ty, w = .arrayClass ty := by
  have h2 := (List.mem_filter.mp h).2
  unfold goodWord at h2
  split at h2
  · exact Or.inr ⟨_, rfl⟩
  · exact Or.inl h2
/-- a callee's parameters, its room -/
def am_sig (M' : am_M) (b na : Nat) : Bool := decide ((parseMethodDescriptor M'.1.desc).map (fun d => d.parameters.length + b) = some na) && decide (M'.1.cls ≠ "java/lang/invoke/MethodHandle") && decide (M'.1.cls ≠ "java/lang/invoke/VarHandle") && decide (M'.2.2.1 ≤ 16)
/-- what the tables say of an instruction's link -/
def am_lk (M : am_M) (ins : Instr) (xs : List Nat) (kk : Int) : Bool := match ins with
  | .ldc idx => match xs with
    | [] => am_isin (Cond.constant M.1.cls idx (Int32.ofInt kk))
    | [q] => decide ((M.1.cls, idx, q) ∈ am_strs)
    | _ => false
  | .ldc2_w idx => am_isin (Cond.constantLong M.1.cls idx (Int64.ofInt kk))
  | .lconst n => decide ((n.val : Int) = kk)
  | .getfield idx => match xs with
    | [ci, j] => match am_at classes ci with
      | some q => decide (j < q.2.2) && decide ((q.2.1 j).1 = q.1) && am_isin (Cond.fieldLink M.1.cls idx q.1 (q.2.1 j).2.1 (q.2.1 j).2.2.1)
      | none => false
    | [] => true
    | _ => false
  | .putfield idx => match xs with
    | [ci, j] => match am_at classes ci with
      | some q => decide (j < q.2.2) && decide ((q.2.1 j).1 = q.1) && am_isin (Cond.fieldLink M.1.cls idx q.1 (q.2.1 j).2.1 (q.2.1 j).2.2.1) && ((q.2.1 j).2.2.2 == false || (decide (M.1.name = "<init>") && decide (q.1 = M.1.cls)))
      | none => false
    | _ => false
  | .newarray ty => match xs with
    | [0] => decide (ty = .int)
    | [1] => decide (ty = .char)
    | [2] => decide (ty = .boolean)
    | _ => false
  | .new idx => match xs with
    | [ci] => match am_at classes ci with
      | some q => am_isin (Cond.classLink M.1.cls idx q.1) && am_isin (Cond.instantiable q.1 q.2.2) && am_isin (Cond.initialized q.1)
      | none => false
    | _ => true
  | .invokespecial idx => match xs with
    | [] => am_isin (Cond.methodLink M.1.cls idx objectInit)
    | [mno, na] => match am_at am_mt mno with
      | some M' => am_isin (Cond.methodLink M.1.cls idx M'.1) && am_isin (Cond.instanceMethod M'.1) && am_isin (Cond.initialized M'.1.cls) && decide (M'.1.name = "<init>") && decide (M'.2.2.2.1 = none) && am_sig M' 1 na
      | none => false
    | [mno, na, _] => match am_at am_mt mno with
      | some M' => decide ((M.1.cls, idx, M'.1, "AddressGrammar") ∈ am_nest) && am_isin (Cond.instanceMethod M'.1) && am_isin (Cond.initialized M'.1.cls) && decide (M'.1.name = "<init>") && decide (M'.2.2.2.1 = none) && am_sig M' 1 na
      | none => false
    | _ => true
  | .invokevirtual idx => match xs with
    | [mno, na] => match am_at am_mt mno with
      | some M' => am_isin (Cond.methodLink M.1.cls idx M'.1) && am_isin (Cond.instanceMethod M'.1) && am_isin (Cond.selects M'.1.cls M'.1 M'.1) && am_isin (Cond.initialized M'.1.cls) && am_sig M' 1 na
      | none => false
    | _ => true
  | .invokestatic idx => match xs with
    | [] => am_isin (Cond.methodLink M.1.cls idx Lib.Math.max.name)
    | [mno, na] => match am_at am_mt mno with
      | some M' => am_isin (Cond.methodLink M.1.cls idx M'.1) && am_isin (Cond.static M'.1) && am_isin (Cond.initialized M.1.cls) && decide (M'.1.cls = M.1.cls) && am_sig M' 0 na
      | none => false
    | _ => true
  | _ => true
def am_off : Instr → Option Int
  | .goto o => some o
  | .ifCond _ o => some o
  | .if_icmp _ o => some o
  | _ => none
def am_end : Instr → Bool
  | .goto _ => true
  | .ireturn => true
  | .lreturn => true
  | .areturn => true
  | .return_ => true
  | .athrow => true
  | .tableswitch _ _ _ _ => true
  | _ => false
def am_oke (M : am_M) (e : am_I) : Bool := match e with
  | (pc, ins, nx, xs, kk) => (match ins with
      | .tableswitch _ _ _ _ => decide (decode M.2.1 pc = .ok (ins, kk.toNat))
      | _ => decide (decode M.2.1 pc = .ok (ins, am_ln ins))) && (am_end ins || decide (am_pcd M nx = pc + am_ln ins)) && (match am_off ins, xs with
      | some o, [t] => decide ((pc : Int) + o = (am_pcd M t : Int))
      | some _, _ => false
      | none, _ => true) && am_lk M ins xs kk
def am_okM (M : am_M) : Prop := ∀ (i : Nat) (e : am_I), am_at M.2.2.2.2 i = some e → am_oke M e = true
theorem am_okM_of {M : am_M} (h : M.2.2.2.2.all (am_oke M) = true) : am_okM M := by
  intro i e he
  rw [am_at_eq] at he
  exact List.all_eq_true.mp h e (List.mem_of_getElem? he)
/-- the world's cells -/
def am_f (ad : Nat → Nat) (σ : am_H) (c j kd : Nat) : Value := if kd = 1 then am_v ad (.inr (.inr (σ.2.2.2 c j))) else .int (Int32.ofInt (σ.2.1 c j))
def am_fs (ad : Nat → Nat) (σ : am_H) (c : Nat) (ks : List Nat) : List Value := ks.mapIdx (fun j kd => am_f ad σ c j kd)
def am_c (ad : Nat → Nat) (tc : Nat → ClassId) (σ : am_H) (c : Nat) : Nat × va_E := match am_at am_sh c with
  | some (.inl (t, n)) => (ad c, .inl (tc t, n, .inl (fun j => Int32.ofInt (σ.2.2.1 c (j : Int)))))
  | some (.inr ci) => (ad c, .inr (ci, am_fs ad σ c ((am_at am_ks ci).getD [])))
  | none => (ad c, .inr (0, []))
def am_w (ad : Nat → Nat) (tc : Nat → ClassId) (σ : am_H) : va_W := (List.range σ.1).map (am_c ad tc σ)
theorem am_w_at {ad : Nat → Nat} {tc : Nat → ClassId} {σ : am_H} {c : Nat} (h : c < σ.1) : (am_w ad tc σ)[c]? = some (am_c ad tc σ c) := by
  simp [am_w, h]
theorem am_w_len {ad : Nat → Nat} {tc : Nat → ClassId} {σ : am_H} : (am_w ad tc σ).length = σ.1 := by simp [am_w]
abbrev am_tys (tc : Nat → ClassId) : List (ClassId × FieldType) := [(tc 0, .int), (tc 1, .char), (tc 2, .boolean)]
def am_vf (n : Nat) : am_V → Prop
  | .inl x => -2147483648 ≤ x ∧ x ≤ 2147483647
  | .inr (.inl y) => -9223372036854775808 ≤ y ∧ y ≤ 9223372036854775807
  | .inr (.inr o) => ∀ k, o = some k → k < n ∨ 1000 ≤ k
def am_hf (σ : am_H) : Prop := σ.1 ≤ 1000 ∧ ∀ c, c < σ.1 → (∀ j, -2147483648 ≤ σ.2.1 c j ∧ σ.2.1 c j ≤ 2147483647) ∧ (∀ j, -2147483648 ≤ σ.2.2.1 c j ∧ σ.2.2.1 c j ≤ 2147483647) ∧ ∀ j k, σ.2.2.2 c j = some k → k < σ.1
def am_lh (ad : Nat → Nat) (ls : Array Slot) (nL : Nat) (lv : am_L) : Prop := ls.size = nL ∧ lv_wf ls ∧ lv.length ≤ nL ∧ ∀ i v, am_get lv i = some v → ls[i]? = some (.val (am_v ad v))
def am_pl (ad : Nat → Nat) (lv : am_L) : List (Nat × Value) := (List.range lv.length).filterMap (fun i => (am_get lv i).map (fun v => (i, am_v ad v)))
theorem am_get_lt {lv : am_L} : ∀ {i : Nat} {v : am_V}, am_get lv i = some v → i < lv.length := by
  induction lv with
  | nil => intro i v h; simp [am_get] at h
  | cons o l ih =>
    intro i v h
    cases i with
    | zero => simp
    | succ i => have := ih (i := i) (v := v) h; simp; omega
theorem am_lh.has {ad : Nat → Nat} {ls : Array Slot} {nL : Nat} {lv : am_L} (h : am_lh ad ls nL lv) : lv_has ls nL (am_pl ad lv) := by
  refine ⟨h.1, h.2.1, fun q hq => ?_⟩
  obtain ⟨i, -, hi⟩ := List.mem_filterMap.mp hq
  cases hg : am_get lv i with
  | none => rw [hg] at hi; simp at hi
  | some v =>
    rw [hg] at hi
    simp at hi
    rw [← hi]
    exact h.2.2.2 i v hg
theorem am_pl_mem {ad : Nat → Nat} {lv : am_L} {i : Nat} {v : am_V} (h : am_get lv i = some v) : (i, am_v ad v) ∈ am_pl ad lv :=
  List.mem_filterMap.mpr ⟨i, List.mem_range.mpr (am_get_lt h), by rw [h]; rfl⟩
theorem am_sto_spec : ∀ {lv : am_L} {i : Nat} {v : am_V} {lv' : am_L}, am_sto lv i v = some lv' → i < lv.length ∧ lv'.length = lv.length ∧ (∀ j, am_get lv' j = if j = i then some v else am_get lv j) ∧ ∀ j y, j + 1 = i → am_get lv j ≠ some (.inr (.inl y)) := by
  intro lv
  induction lv with
  | nil => intro i v lv' h; simp [am_sto] at h
  | cons o l ih =>
    intro i v lv' h
    cases i with
    | zero =>
      simp only [am_sto, Option.some.injEq] at h
      subst h
      refine ⟨by simp, by simp, fun j => ?_, fun j y hj => by omega⟩
      cases j with
      | zero => simp [am_get]
      | succ j => simp [am_get]
    | succ i =>
      have main : ∀ l', am_sto l i v = some l' → (∀ y, i = 0 → o ≠ some (.inr (.inl y))) → lv' = o :: l' → (i + 1 < (o :: l).length ∧ lv'.length = (o :: l).length ∧ (∀ j, am_get lv' j = if j = i + 1 then some v else am_get (o :: l) j) ∧ ∀ j y, j + 1 = i + 1 → am_get (o :: l) j ≠ some (.inr (.inl y))) := by
        intro l' h1 h2 h3
        obtain ⟨a1, a2, a3, a4⟩ := ih h1
        subst h3
        exact (show i + 1 < (o :: l).length ∧ (o :: l').length = (o :: l).length ∧ (∀ j, am_get (o :: l') j = if j = i + 1 then some v else am_get (o :: l) j) ∧ ∀ j y, j + 1 = i + 1 → am_get (o :: l) j ≠ some (.inr (.inl y)) from
          ⟨by simp; omega, by simp; omega, fun j => by
            cases j with
            | zero => simp [am_get]
            | succ j => simp [am_get, a3 j], fun j y hj => by
            cases j with
            | zero => exact h2 y (by omega)
            | succ j => exact a4 j y (by omega)⟩)
      unfold am_sto at h
      split at h
      · cases h
      · rename_i hno
        cases hs : am_sto l i v with
        | none => rw [hs] at h; simp at h
        | some l' =>
          rw [hs] at h
          simp only [Option.some.injEq] at h
          refine main l' hs (fun y hi ho => ?_) h.symm
          subst hi
          subst ho
          exact hno y rfl rfl
theorem am_cat (ad : Nat → Nat) (v : am_V) : (am_v ad v).category = 2 ↔ ∃ y, v = .inr (.inl y) := by
  rcases v with x | y | k
  · simp [am_v, Value.category]
  · simp [am_v, Value.category]
  · cases k <;> simp [am_v, Value.category]
/-- a store's new list is what the large machine keeps -/
theorem am_lh.sto {ad : Nat → Nat} {ls' : Array Slot} {nL i : Nat} {lv lv' : am_L} {v : am_V} (hn : lv.length ≤ nL) (hs : am_sto lv i v = some lv')
    (h : lv_has ls' nL ((i, am_v ad v) :: (am_pl ad lv).filter (fun q => !(q.1 == i) && !(q.1 + 1 == i && q.2.category == 2)))) : am_lh ad ls' nL lv' := by
  obtain ⟨h1, h2, h3, h4⟩ := am_sto_spec hs
  refine ⟨h.1, h.2.1, by omega, fun j w hj => ?_⟩
  rw [h3 j] at hj
  by_cases e : j = i
  · rw [if_pos e] at hj
    cases hj
    subst e
    exact h.2.2 (j, am_v ad v) List.mem_cons_self
  · rw [if_neg e] at hj
    refine h.2.2 (j, am_v ad w) (List.mem_cons_of_mem _ (List.mem_filter.mpr ⟨am_pl_mem hj, ?_⟩))
    simp only [Bool.and_eq_true, Bool.not_eq_true', beq_eq_false_iff_ne, ne_eq, Bool.and_eq_false_iff]
    refine ⟨e, ?_⟩
    by_cases e2 : j + 1 = i
    · right
      intro hc
      obtain ⟨y, hy⟩ := (am_cat ad w).mp (by simpa using hc)
      exact h4 j y e2 (by rw [hj, hy])
    · left
      exact e2
/-! numbers -/
theorem am_ti {x : Int} (h : -2147483648 ≤ x ∧ x ≤ 2147483647) : (Int32.ofInt x).toInt = x := Int32.toInt_ofInt_of_le (by omega) (by omega)
theorem am_tl {x : Int} (h : -9223372036854775808 ≤ x ∧ x ≤ 9223372036854775807) : (Int64.ofInt x).toInt = x := Int64.toInt_ofInt_of_le (by omega) (by omega)
theorem am_lt {x y : Int} (hx : -2147483648 ≤ x ∧ x ≤ 2147483647) (hy : -2147483648 ≤ y ∧ y ≤ 2147483647) : Int32.ofInt x < Int32.ofInt y ↔ x < y := by
  rw [Int32.lt_iff_toInt_lt, am_ti hx, am_ti hy]
theorem am_le {x y : Int} (hx : -2147483648 ≤ x ∧ x ≤ 2147483647) (hy : -2147483648 ≤ y ∧ y ≤ 2147483647) : Int32.ofInt x ≤ Int32.ofInt y ↔ x ≤ y := by
  rw [Int32.le_iff_toInt_le, am_ti hx, am_ti hy]
theorem am_eq {x y : Int} (hx : -2147483648 ≤ x ∧ x ≤ 2147483647) (hy : -2147483648 ≤ y ∧ y ≤ 2147483647) : Int32.ofInt x = Int32.ofInt y ↔ x = y := by
  rw [← Int32.toInt_inj, am_ti hx, am_ti hy]
theorem am_lt0 {x : Int} (hx : -2147483648 ≤ x ∧ x ≤ 2147483647) : Int32.ofInt x < 0 ↔ x < 0 := am_lt hx (y := 0) (by omega)
theorem am_0lt {x : Int} (hx : -2147483648 ≤ x ∧ x ≤ 2147483647) : 0 < Int32.ofInt x ↔ 0 < x := am_lt (x := 0) (by omega) hx
theorem am_le0 {x : Int} (hx : -2147483648 ≤ x ∧ x ≤ 2147483647) : Int32.ofInt x ≤ 0 ↔ x ≤ 0 := am_le hx (y := 0) (by omega)
theorem am_0le {x : Int} (hx : -2147483648 ≤ x ∧ x ≤ 2147483647) : 0 ≤ Int32.ofInt x ↔ 0 ≤ x := am_le (x := 0) (by omega) hx
theorem am_eq0 {x : Int} (hx : -2147483648 ≤ x ∧ x ≤ 2147483647) : Int32.ofInt x = 0 ↔ x = 0 := am_eq hx (y := 0) (by omega)
theorem am_cl {x : Int} (hx : -2147483648 ≤ x ∧ x ≤ 2147483647) : (Int32.ofInt x).toNatClampNeg = x.toNat := by
  show (Int32.ofInt x).toInt.toNat = x.toNat
  rw [am_ti hx]
theorem am_in {x : Int} {n : Nat} (hx : -2147483648 ≤ x ∧ x ≤ 2147483647) (h : 0 ≤ x ∧ x < (n : Int)) : vp_in (Int32.ofInt x) n := vp_in_iff.mpr (by rw [am_ti hx]; exact h)
theorem am_nI (a : Nat) : Int32.ofInt (a : Int) = nI a := rfl
theorem am_div {x y : Int} (hx : -2147483648 ≤ x ∧ x ≤ 2147483647) (hy : -2147483648 ≤ y ∧ y ≤ 2147483647) (h : 0 ≤ x ∧ 0 < y) : Int32.ofInt x / Int32.ofInt y = Int32.ofInt (x / y) := by
  obtain ⟨a, rfl⟩ := Int.eq_ofNat_of_zero_le h.1
  obtain ⟨b, rfl⟩ := Int.eq_ofNat_of_zero_le (Int.le_of_lt h.2)
  exact pk_div (a := a) (d := b) (by omega) (by omega) (by omega)
theorem am_rem {x y : Int} (hx : -2147483648 ≤ x ∧ x ≤ 2147483647) (hy : -2147483648 ≤ y ∧ y ≤ 2147483647) (h : 0 ≤ x ∧ 0 < y) : Int32.ofInt x - Int32.ofInt x / Int32.ofInt y * Int32.ofInt y = Int32.ofInt (x % y) := by
  obtain ⟨a, rfl⟩ := Int.eq_ofNat_of_zero_le h.1
  obtain ⟨b, rfl⟩ := Int.eq_ofNat_of_zero_le (Int.le_of_lt h.2)
  exact pk_rem (a := a) (d := b) (by omega) (by omega) (by omega)
theorem am_rng (z : Int32) : -2147483648 ≤ z.toInt ∧ z.toInt ≤ 2147483647 := by
  have h1 := Int32.le_toInt z
  have h2 := Int32.toInt_lt z
  omega
theorem am_oti (z : Int32) : Int32.ofInt z.toInt = z := Int32.ofInt_toInt z
theorem am_divr {x y : Int} (hx : -2147483648 ≤ x ∧ x ≤ 2147483647) (h : 0 ≤ x ∧ 0 < y) : -2147483648 ≤ x / y ∧ x / y ≤ 2147483647 := by
  have h1 : 0 ≤ x / y := Int.ediv_nonneg h.1 (Int.le_of_lt h.2)
  have h2 : x / y ≤ x := Int.ediv_le_self y h.1
  omega
theorem am_remr {x y : Int} (hy : -2147483648 ≤ y ∧ y ≤ 2147483647) (h : 0 ≤ x ∧ 0 < y) : -2147483648 ≤ x % y ∧ x % y ≤ 2147483647 := by
  have h1 : 0 ≤ x % y := Int.emod_nonneg x (by omega)
  have h2 : x % y < y := Int.emod_lt_of_pos x h.2
  omega

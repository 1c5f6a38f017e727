/-! WEAKEST PRECONDITIONS OVER THE SMALL MACHINE, as statements of the large one -/
theorem am_c_same {ad : Nat → Nat} {tc : Nat → ClassId} {σ σ' : am_H} {c : Nat} (h1 : ∀ j, σ'.2.1 c j = σ.2.1 c j) (h3 : ∀ j, σ'.2.2.1 c j = σ.2.2.1 c j) (h2 : ∀ j, σ'.2.2.2 c j = σ.2.2.2 c j) : am_c ad tc σ' c = am_c ad tc σ c := by
  have e : ∀ ks : List Nat, am_fs ad σ' c ks = am_fs ad σ c ks := fun ks => by
    unfold am_fs
    congr 1
    funext j kd
    simp only [am_f, h1, h2]
  unfold am_c
  simp only [e, h3]
theorem am_w_put {ad : Nat → Nat} {tc : Nat → ClassId} {σ σ' : am_H} {c : Nat} {q : va_E} (hc : c < σ.1) (h1 : σ'.1 = σ.1) (h2 : am_c ad tc σ' c = (ad c, q)) (h3 : ∀ b, b ≠ c → am_c ad tc σ' b = am_c ad tc σ b) : (am_w ad tc σ).set c (ad c, q) = am_w ad tc σ' := by
  apply List.ext_getElem?
  intro k
  rw [List.getElem?_set]
  by_cases e : c = k
  · subst e
    rw [if_pos rfl, if_pos (by rw [am_w_len]; exact hc), am_w_at (by omega), h2]
  · rw [if_neg e]
    by_cases hk : k < σ.1
    · rw [am_w_at hk, am_w_at (by omega), h3 k (Ne.symm e)]
    · rw [List.getElem?_eq_none (by rw [am_w_len]; omega), List.getElem?_eq_none (by rw [am_w_len]; omega)]
theorem am_fs_at {ad : Nat → Nat} {σ : am_H} {c j kd : Nat} {ks : List Nat} (h : ks[j]? = some kd) : (am_fs ad σ c ks)[j]? = some (am_f ad σ c j kd) := by
  simp [am_fs, h]
theorem am_fs_set {ad : Nat → Nat} {σ σ' : am_H} {c j kd : Nat} {ks : List Nat} {v : Value} (h : ks[j]? = some kd) (hv : am_f ad σ' c j kd = v) (hne : ∀ i kd, i ≠ j → am_f ad σ' c i kd = am_f ad σ c i kd) : (am_fs ad σ c ks).set j v = am_fs ad σ' c ks := by
  apply List.ext_getElem?
  intro k
  rw [List.getElem?_set]
  by_cases e : j = k
  · subst e
    have hl : j < ks.length := (List.getElem?_eq_some_iff.mp h).1
    rw [if_pos rfl, if_pos (by simpa [am_fs] using hl), am_fs_at h, hv]
  · rw [if_neg e]
    simp only [am_fs, List.getElem?_mapIdx]
    cases ks[k]? with
    | none => rfl
    | some q => simp only [Option.map_some, hne k q (Ne.symm e)]
def am_vs (n : Nat) : List am_V → Prop
  | [] => True
  | v :: r => am_vf n v ∧ am_vs n r
theorem am_vs_mem {n : Nat} : ∀ {st : List am_V}, am_vs n st → ∀ v ∈ st, am_vf n v := by
  intro st
  induction st with
  | nil => intro _ v h; cases h
  | cons a l ih =>
    intro h v hv
    rcases List.mem_cons.mp hv with rfl | hv
    · exact h.1
    · exact ih h.2 v hv
theorem am_vs_of {n : Nat} : ∀ {st : List am_V}, (∀ v ∈ st, am_vf n v) → am_vs n st := by
  intro st
  induction st with
  | nil => intro _; trivial
  | cons a l ih => intro h; exact ⟨h a List.mem_cons_self, ih (fun v hv => h v (List.mem_cons_of_mem _ hv))⟩
theorem am_vf_up {n n' : Nat} (h : n ≤ n') {v : am_V} (hv : am_vf n v) : am_vf n' v := by
  rcases v with x | y | k
  · exact hv
  · exact hv
  · intro q hq
    rcases hv q hq with z | z
    · exact Or.inl (by omega)
    · exact Or.inr z
theorem am_vs_up {n n' : Nat} (h : n ≤ n') {st : List am_V} (hv : am_vs n st) : am_vs n' st := am_vs_of (fun v q => am_vf_up h (am_vs_mem hv v q))
def am_sf (σ : am_H) (lv : am_L) (st : List am_V) : Prop := am_hf σ ∧ am_vs σ.1 st ∧ ∀ i v, am_get lv i = some v → am_vf σ.1 v
def am_rm (d n0 n1 : Nat) : Room := { frames := d, cells := n1 - n0, slots := am_sz n1 - am_sz n0, locals := 35 * d }
def am_B (dC : Nat → ClassId) (dI : Nat → Nat → Nat) (tc : Nat → ClassId) (M : am_M) (ad0 : Nat → Nat) (A : Nat → Prop) (p : Program) (s : State) (m : MethodId) (args : Array Value) (meth : Method) (c : Code) : Prop :=
  p.tables.exec = Jvm.exec ∧ c.code = M.2.1 ∧ meth.sig.returnType = M.2.2.2.1 ∧ c.maxLocals = M.2.2.1 ∧ s.vm.findClass M.1.cls = some m.cls ∧ (∀ w ∈ am_tb, w.before args s = true) ∧ meth.locks = false ∧ meth.name = M.1.name ∧ va_K (dC, dI) classes (am_tys tc) s ∧ (∀ q, s.heap.size ≤ q → A q) ∧ am_Z ad0 A s
def am_S (dC : Nat → ClassId) (dI : Nat → Nat → Nat) (tc : Nat → ClassId) (s : State) (A : Nat → Prop) (n0 : Nat) (ad0 : Nat → Nat) (nL : Nat) (lv : am_L) (st : List am_V) (σ : am_H) (ad : Nat → Nat) (H : Heap) (locs : List Loc) (ls : Array Slot) : Prop :=
  (∀ k, k < n0 ∨ 1000 ≤ k → ad k = ad0 k) ∧ n0 ≤ σ.1 ∧ am_sf σ lv st ∧ va_P (dC, dI) classes (am_w ad tc σ) H ∧ va_D A (am_w ad tc σ) ∧ va_S A s.heap H locs ∧ am_lh ad ls nL lv
def am_Qc (dC : Nat → ClassId) (dI : Nat → Nat → Nat) (tc : Nat → ClassId) (ad0 : Nat → Nat) (n0 n1 : Nat) (A : Nat → Prop) (Q : Option am_V → am_H → Prop) : Array Value → State → Outcome → State → Prop := fun _ st o t =>
  (∃ (r : Option am_V) (σ : am_H) (ad : Nat → Nat), o = .returned (r.map (am_v ad)) ∧ Q r σ ∧ (∀ k, k < n0 ∨ 1000 ≤ k → ad k = ad0 k) ∧ σ.1 = n1 ∧ am_hf σ ∧ (∀ v, r = some v → am_vf n1 v) ∧ va_P (dC, dI) classes (am_w ad tc σ) t.heap ∧ va_D A (am_w ad tc σ)) ∧ va_F A st t
def am_K (l : Launch) (dC : Nat → ClassId) (dI : Nat → Nat → Nat) (tc : Nat → ClassId) (M : am_M) (d n0 n1 : Nat) (Q : Option am_V → am_H → Prop) (p : Program) (e : Env) (s : State) (m : MethodId) (args : Array Value) (below : List Frame) (meth : Method) (c : Code) (ad0 : Nat → Nat) (A : Nat → Prop) (i : Nat) (lv : am_L) (st : List am_V) (σ : am_H) : Prop :=
  ∀ (ad : Nat → Nat) (H : Heap) (locs : List Loc) (ls : Array Slot), am_S dC dI tc s A n0 ad0 M.2.2.1 lv st σ ad H locs ls →
      W p l e (am_rm d n0 n1) s m args below meth c H locs (σ.1 - n0) (am_sz σ.1 - am_sz n0) (MQ below (am_Qc dC dI tc ad0 n0 n1 A Q) args s (n1 - n0) (am_sz n1 - am_sz n0) A) (F0 m (am_pcd M i) ls (st.map (am_v ad)))
def am_wp (l : Launch) (dC : Nat → ClassId) (dI : Nat → Nat → Nat) (tc : Nat → ClassId) (M : am_M) (d n0 n1 : Nat) (Q : Option am_V → am_H → Prop) (i : Nat) (lv : am_L) (st : List am_V) (σ : am_H) : Prop :=
  am_okM M → ∀ (p : Program) (e : Env) (s : State) (m : MethodId) (args : Array Value) (below : List Frame) (meth : Method) (c : Code) (ad0 : Nat → Nat) (A : Nat → Prop), am_B dC dI tc M ad0 A p s m args meth c → am_K l dC dI tc M d n0 n1 Q p e s m args below meth c ad0 A i lv st σ
def am_Ct (l : Launch) (dC : Nat → ClassId) (dI : Nat → Nat → Nat) (tc : Nat → ClassId) (M : am_M) (d n1 : Nat) (as : List am_V) (σ : am_H) (Q : Option am_V → am_H → Prop) : Prop :=
  ∀ (ad : Nat → Nat) (sz : Nat), am_hf σ → am_vs σ.1 as → Met l M.1 (Cond.code M.1 M.2.1 M.2.2.1 M.2.2.2.1 :: am_tb) (am_rm d σ.1 n1)
    (va_Pc (as.map (am_v ad)) (fun U => U.heap.size = sz ∧ va_P (dC, dI) classes (am_w ad tc σ) U.heap ∧ va_K (dC, dI) classes (am_tys tc) U ∧ va_D (fun _ => True) (am_w ad tc σ) ∧ am_Z ad (va_A (am_w ad tc σ) sz) U))
    (am_Qc dC dI tc ad σ.1 n1 (va_A (am_w ad tc σ) sz) Q) (n1 - σ.1) (am_sz n1 - am_sz σ.1) (va_A (am_w ad tc σ) sz)
section AmGo
variable {l : Launch} {dC : Nat → ClassId} {dI : Nat → Nat → Nat} {tc : Nat → ClassId} {M : am_M} {d n0 n1 : Nat} {Q : Option am_V → am_H → Prop} {i : Nat} {lv : am_L} {st : List am_V} {σ : am_H}
variable {p : Program} {e : Env} {s : State} {m : MethodId} {args : Array Value} {below : List Frame} {meth : Method} {c : Code} {ad0 : Nat → Nat} {A : Nat → Prop}
variable {pc nx : Nat} {ins : Instr} {xs : List Nat} {kk : Int} {r : List am_V}
theorem am_oke_dec (h : am_oke M (pc, ins, nx, xs, kk) = true) (ht : ∀ a b c d, ins ≠ .tableswitch a b c d) : decode M.2.1 pc = .ok (ins, am_ln ins) := by
  simp only [am_oke, Bool.and_eq_true] at h
  obtain ⟨⟨⟨h1, -⟩, -⟩, -⟩ := h
  simpa using h1
theorem am_oke_nx (h : am_oke M (pc, ins, nx, xs, kk) = true) (he : am_end ins = false) : am_pcd M nx = pc + am_ln ins := by
  simp only [am_oke, Bool.and_eq_true] at h
  obtain ⟨⟨⟨-, h1⟩, -⟩, -⟩ := h
  rw [he] at h1
  simpa using h1
theorem am_oke_t {t : Nat} {o : Int} (h : am_oke M (pc, ins, nx, [t], kk) = true) (he : am_off ins = some o) : (pc : Int) + o = (am_pcd M t : Int) := by
  simp only [am_oke, Bool.and_eq_true] at h
  obtain ⟨⟨⟨-, -⟩, h1⟩, -⟩ := h
  rw [he] at h1
  simpa using h1
theorem am_oke_lk (h : am_oke M (pc, ins, nx, xs, kk) = true) : am_lk M ins xs kk = true := by
  simp only [am_oke, Bool.and_eq_true] at h
  exact h.2
theorem am_S.sk {nL : Nat} {st' : List am_V} {ad : Nat → Nat} {H : Heap} {locs : List Loc} {ls : Array Slot} (h : am_S dC dI tc s A n0 ad0 nL lv st σ ad H locs ls) (hf : am_vs σ.1 st') : am_S dC dI tc s A n0 ad0 nL lv st' σ ad H locs ls :=
  ⟨h.1, h.2.1, ⟨h.2.2.1.1, hf, h.2.2.1.2.2⟩, h.2.2.2⟩
theorem am_S.vs {nL : Nat} {ad : Nat → Nat} {H : Heap} {locs : List Loc} {ls : Array Slot} (h : am_S dC dI tc s A n0 ad0 nL lv st σ ad H locs ls) : am_vs σ.1 st := h.2.2.1.2.1
theorem am_S.lh {nL : Nat} {ad : Nat → Nat} {H : Heap} {locs : List Loc} {ls : Array Slot} (h : am_S dC dI tc s A n0 ad0 nL lv st σ ad H locs ls) : am_lh ad ls nL lv := h.2.2.2.2.2.2
theorem am_S.lvf {nL : Nat} {ad : Nat → Nat} {H : Heap} {locs : List Loc} {ls : Array Slot} (h : am_S dC dI tc s A n0 ad0 nL lv st σ ad H locs ls) {j : Nat} {v : am_V} (hj : am_get lv j = some v) : am_vf σ.1 v := h.2.2.1.2.2 j v hj
theorem am_S.hf {nL : Nat} {ad : Nat → Nat} {H : Heap} {locs : List Loc} {ls : Array Slot} (h : am_S dC dI tc s A n0 ad0 nL lv st σ ad H locs ls) : am_hf σ := h.2.2.1.1
theorem am_S.sto {nL j : Nat} {v : am_V} {lv' : am_L} {st' : List am_V} {ad : Nat → Nat} {H : Heap} {locs : List Loc} {ls ls' : Array Slot} (h : am_S dC dI tc s A n0 ad0 nL lv st σ ad H locs ls) (hf : am_vs σ.1 st') (hs : am_sto lv j v = some lv') (hv : am_vf σ.1 v)
    (hl : lv_has ls' nL ((j, am_v ad v) :: (am_pl ad lv).filter (fun q => !(q.1 == j) && !(q.1 + 1 == j && q.2.category == 2)))) : am_S dC dI tc s A n0 ad0 nL lv' st' σ ad H locs ls' := by
  refine ⟨h.1, h.2.1, ⟨h.2.2.1.1, hf, fun k w hk => ?_⟩, h.2.2.2.1, h.2.2.2.2.1, h.2.2.2.2.2.1, am_lh.sto h.lh.2.2.1 hs hl⟩
  rw [(am_sto_spec hs).2.2.1 k] at hk
  by_cases e : k = j
  · rw [if_pos e] at hk
    cases hk
    exact hv
  · rw [if_neg e] at hk
    exact h.lvf hk
theorem am_cmpr (x y : Int) : -2147483648 ≤ am_cmp x y ∧ am_cmp x y ≤ 2147483647 := by
  unfold am_cmp
  split
  · omega
  · split <;> omega
theorem am_lcmp {x y : Int} (hx : -9223372036854775808 ≤ x ∧ x ≤ 9223372036854775807) (hy : -9223372036854775808 ≤ y ∧ y ≤ 9223372036854775807) : lg_cmp (Int64.ofInt x) (Int64.ofInt y) = Int32.ofInt (am_cmp x y) := by
  have e1 : (Int64.ofInt y < Int64.ofInt x) ↔ y < x := by rw [Int64.lt_iff_toInt_lt, am_tl hx, am_tl hy]
  have e2 : (Int64.ofInt x = Int64.ofInt y) ↔ x = y := by rw [← Int64.toInt_inj, am_tl hx, am_tl hy]
  unfold lg_cmp am_cmp
  by_cases h1 : y < x
  · rw [if_pos (show Int64.ofInt x > Int64.ofInt y from e1.mpr h1), if_pos h1]; rfl
  · rw [if_neg (show ¬ Int64.ofInt x > Int64.ofInt y from fun z => h1 (e1.mp z)), if_neg h1]
    by_cases h2 : x = y
    · rw [if_pos (e2.mpr h2), if_pos h2]; rfl
    · rw [if_neg (fun z => h2 (e2.mp z)), if_neg h2]; rfl
theorem am_i2c {x : Int} (h : 0 ≤ x ∧ x < 65536) : ((Int32.ofInt x).toUInt32 % 65536).toInt32 = Int32.ofInt x := by
  obtain ⟨a, rfl⟩ := Int.eq_ofNat_of_zero_le h.1
  show ((nI a).toUInt32 % 65536).toInt32 = nI a
  rw [pk_char, pk_tn (by omega), Nat.mod_eq_of_lt (by omega)]
theorem am_i2lr {x : Int} (h : -2147483648 ≤ x ∧ x ≤ 2147483647) : -9223372036854775808 ≤ x ∧ x ≤ 9223372036854775807 := by omega
theorem am_i2l {x : Int} (h : -2147483648 ≤ x ∧ x ≤ 2147483647) : (Int32.ofInt x).toInt64 = Int64.ofInt x := by
  rw [← Int64.toInt_inj, Int32.toInt_toInt64, am_ti h, am_tl (am_i2lr h)]
theorem am_l2i {x : Int} (h : -2147483648 ≤ x ∧ x ≤ 2147483647) : (Int64.ofInt x).toInt32 = Int32.ofInt x := by
  rw [← am_i2l h, Int32.toInt32_toInt64]
theorem am_catr (ad : Nat → Nat) (x : Option Nat) : (am_v ad (.inr (.inr x))).category = 1 := by cases x <;> rfl
theorem am_cats (ad : Nat → Nat) (r : List am_V) : ((r.map (am_v ad)).map fun v => v.category).sum ≤ 2 * r.length := by
  induction r with
  | nil => simp
  | cons a r ih =>
    have : (am_v ad a).category ≤ 2 := by rcases lv_cat (am_v ad a) with h | h <;> omega
    simp only [List.map_cons, List.sum_cons, List.length_cons]
    omega
theorem am_sz_mono {a b : Nat} (h : a ≤ b) : am_sz a ≤ am_sz b := by
  induction b with
  | zero => have : a = 0 := by omega
            subst this; exact Nat.le_refl _
  | succ b ih =>
    rcases Nat.lt_or_ge a (b + 1) with q | q
    · have := ih (by omega)
      show am_sz a ≤ am_sz b + am_szc b
      omega
    · have : a = b + 1 := by omega
      subst this; exact Nat.le_refl _
theorem am_w_arr {x t len : Nat} {ad : Nat → Nat} (hx : x < σ.1) (hsh : am_at am_sh x = some (.inl (t, len))) : (am_w ad tc σ)[x]? = some (ad x, .inl (tc t, len, .inl (fun j => Int32.ofInt (σ.2.2.1 x (j : Int))))) := by
  rw [am_w_at hx]
  unfold am_c
  rw [hsh]
theorem am_w_obj {x ci : Nat} {ks : List Nat} {ad : Nat → Nat} (hx : x < σ.1) (hsh : am_at am_sh x = some (.inr ci)) (hks : am_at am_ks ci = some ks) : (am_w ad tc σ)[x]? = some (ad x, .inr (ci, am_fs ad σ x ks)) := by
  rw [am_w_at hx]
  unfold am_c
  rw [hsh]
  simp only [hks, Option.getD_some]
theorem am_tys_at {x t len : Nat} (hsh : am_at am_sh x = some (.inl (t, len))) : ∃ ty, (am_tys tc)[t]? = some (tc t, ty) := by
  have h3 : t < 3 := am_Tsh x t len hsh
  rcases (by omega : t = 0 ∨ t = 1 ∨ t = 2) with rfl | rfl | rfl <;> exact ⟨_, rfl⟩
theorem am_lenr {x t len : Nat} (hsh : am_at am_sh x = some (.inl (t, len))) : -2147483648 ≤ (len : Int) ∧ (len : Int) ≤ 2147483647 := by
  have := am_Tlen x t len hsh
  omega
theorem am_kd_at {ci j kd : Nat} (h : am_kd ci j = some kd) : ∃ ks, am_at am_ks ci = some ks ∧ ks[j]? = some kd := by
  unfold am_kd at h
  split at h
  · rename_i ks hks
    exact ⟨ks, hks, by rw [← am_at_eq]; exact h⟩
  · cases h
theorem am_lk_get {idx ci j : Nat} (h : am_lk M (.getfield idx) [ci, j] kk = true) : ∃ q, am_at classes ci = some q ∧ j < q.2.2 ∧ (q.2.1 j).1 = q.1 ∧ Cond.fieldLink M.1.cls idx q.1 (q.2.1 j).2.1 (q.2.1 j).2.2.1 ∈ am_tb := by
  simp only [am_lk] at h
  split at h
  · rename_i q hq
    simp only [Bool.and_eq_true, decide_eq_true_eq] at h
    exact ⟨q, hq, h.1.1, h.1.2, am_in_tb h.2⟩
  · cases h
theorem gk_iconst {n : Int} (hs : -2147483648 ≤ n ∧ n ≤ 2147483647) (hB : am_B dC dI tc M ad0 A p s m args meth c) (ho : am_oke M (pc, .iconst n, nx, xs, kk) = true) (hp : am_pcd M i = pc) (k : am_K l dC dI tc M d n0 n1 Q p e s m args below meth c ad0 A nx lv (.inl n :: r) σ) : am_K l dC dI tc M d n0 n1 Q p e s m args below meth c ad0 A i lv (r) σ := by
  intro ad H locs ls hS
  have hd := am_oke_dec ho (fun a b c d h => by cases h)
  have hvs := hS.vs
  have hr := hvs
  have hk := k ad H locs ls (hS.sk ⟨hs, hr⟩)
  rw [am_oke_nx ho rfl] at hk
  rw [hp]
  exact lv_iconst hB.1 hB.2.1 hd rfl hk
theorem gk_bipush {n : Int} (hs : -128 ≤ n ∧ n ≤ 127) (hB : am_B dC dI tc M ad0 A p s m args meth c) (ho : am_oke M (pc, .bipush n, nx, xs, kk) = true) (hp : am_pcd M i = pc) (k : am_K l dC dI tc M d n0 n1 Q p e s m args below meth c ad0 A nx lv (.inl n :: r) σ) : am_K l dC dI tc M d n0 n1 Q p e s m args below meth c ad0 A i lv (r) σ := by
  intro ad H locs ls hS
  have hd := am_oke_dec ho (fun a b c d h => by cases h)
  have hvs := hS.vs
  have hr := hvs
  have hk := k ad H locs ls (hS.sk ⟨⟨by omega, by omega⟩, hr⟩)
  rw [am_oke_nx ho rfl] at hk
  rw [hp]
  refine lv_bipush hB.1 hB.2.1 hd ?_ hk
  rw [← Int32.toInt_inj, am_ti ⟨by omega, by omega⟩, Int8.toInt_toInt32, Int8.toInt_ofInt_of_le (by omega) (by omega)]
theorem gk_sipush {n : Int} (hs : -32768 ≤ n ∧ n ≤ 32767) (hB : am_B dC dI tc M ad0 A p s m args meth c) (ho : am_oke M (pc, .sipush n, nx, xs, kk) = true) (hp : am_pcd M i = pc) (k : am_K l dC dI tc M d n0 n1 Q p e s m args below meth c ad0 A nx lv (.inl n :: r) σ) : am_K l dC dI tc M d n0 n1 Q p e s m args below meth c ad0 A i lv (r) σ := by
  intro ad H locs ls hS
  have hd := am_oke_dec ho (fun a b c d h => by cases h)
  have hvs := hS.vs
  have hr := hvs
  have hk := k ad H locs ls (hS.sk ⟨⟨by omega, by omega⟩, hr⟩)
  rw [am_oke_nx ho rfl] at hk
  rw [hp]
  refine lv_sipush hB.1 hB.2.1 hd ?_ hk
  rw [← Int32.toInt_inj, am_ti ⟨by omega, by omega⟩, Int16.toInt_toInt32, Int16.toInt_ofInt_of_le (by omega) (by omega)]
theorem gk_ldc {idx : Nat} (hs : -2147483648 ≤ kk ∧ kk ≤ 2147483647) (hB : am_B dC dI tc M ad0 A p s m args meth c) (ho : am_oke M (pc, .ldc idx, nx, [], kk) = true) (hp : am_pcd M i = pc) (k : am_K l dC dI tc M d n0 n1 Q p e s m args below meth c ad0 A nx lv (.inl kk :: r) σ) : am_K l dC dI tc M d n0 n1 Q p e s m args below meth c ad0 A i lv (r) σ := by
  intro ad H locs ls hS
  have hd := am_oke_dec ho (fun a b c d h => by cases h)
  have hvs := hS.vs
  have hr := hvs
  have hk := k ad H locs ls (hS.sk ⟨hs, hr⟩)
  rw [am_oke_nx ho rfl] at hk
  rw [hp]
  have hl := am_oke_lk ho
  have hl := am_in_tb hl
  exact lv_ldc hB.1 hB.2.1 hB.2.2.2.2.1 (hB.2.2.2.2.2.1 _ hl) hd hk
theorem gk_ldcs {idx q : Nat} (hB : am_B dC dI tc M ad0 A p s m args meth c) (ho : am_oke M (pc, .ldc idx, nx, [q], kk) = true) (hp : am_pcd M i = pc) (k : am_K l dC dI tc M d n0 n1 Q p e s m args below meth c ad0 A nx lv (.inr (.inr (some (1000 + q))) :: r) σ) : am_K l dC dI tc M d n0 n1 Q p e s m args below meth c ad0 A i lv (r) σ := by
  intro ad H locs ls hS
  have hd := am_oke_dec ho (fun a b c d h => by cases h)
  have hvs := hS.vs
  have hr := hvs
  have hk := k ad H locs ls (hS.sk ⟨fun z hz => by cases hz; exact Or.inr (by omega), hr⟩)
  rw [am_oke_nx ho rfl] at hk
  rw [hp]
  have hl := of_decide_eq_true (am_oke_lk ho)
  have h9 := hB.2.2.2.2.2.2.2.2.2.2.2.1 _ hl
  rw [← hS.1 (1000 + q) (Or.inr (by omega))] at h9
  exact va_ldcS hB.1 hB.2.1 hB.2.2.2.2.1 h9 hd hk
theorem gk_ldc2 {idx : Nat} (hs : -9223372036854775808 ≤ kk ∧ kk ≤ 9223372036854775807) (hB : am_B dC dI tc M ad0 A p s m args meth c) (ho : am_oke M (pc, .ldc2_w idx, nx, xs, kk) = true) (hp : am_pcd M i = pc) (k : am_K l dC dI tc M d n0 n1 Q p e s m args below meth c ad0 A nx lv (.inr (.inl kk) :: r) σ) : am_K l dC dI tc M d n0 n1 Q p e s m args below meth c ad0 A i lv (r) σ := by
  intro ad H locs ls hS
  have hd := am_oke_dec ho (fun a b c d h => by cases h)
  have hvs := hS.vs
  have hr := hvs
  have hk := k ad H locs ls (hS.sk ⟨hs, hr⟩)
  rw [am_oke_nx ho rfl] at hk
  rw [hp]
  have hl := am_oke_lk ho
  have hl := am_in_tb hl
  exact lv_ldc2 hB.1 hB.2.1 hB.2.2.2.2.1 (hB.2.2.2.2.2.1 _ hl) hd hk
theorem gk_lconst {n : Fin 2} (hs : 0 ≤ kk ∧ kk ≤ 1) (hB : am_B dC dI tc M ad0 A p s m args meth c) (ho : am_oke M (pc, .lconst n, nx, xs, kk) = true) (hp : am_pcd M i = pc) (k : am_K l dC dI tc M d n0 n1 Q p e s m args below meth c ad0 A nx lv (.inr (.inl kk) :: r) σ) : am_K l dC dI tc M d n0 n1 Q p e s m args below meth c ad0 A i lv (r) σ := by
  intro ad H locs ls hS
  have hd := am_oke_dec ho (fun a b c d h => by cases h)
  have hvs := hS.vs
  have hr := hvs
  have hk := k ad H locs ls (hS.sk ⟨⟨by omega, by omega⟩, hr⟩)
  rw [am_oke_nx ho rfl] at hk
  rw [hp]
  have hl := am_oke_lk ho
  simp only [am_lk, decide_eq_true_eq] at hl
  subst hl
  exact lv_lconst hB.1 hB.2.1 hd rfl hk
theorem gk_iloadn {q : Fin 4} {x : Int} (hg : am_get lv q.val = some (.inl x)) (hB : am_B dC dI tc M ad0 A p s m args meth c) (ho : am_oke M (pc, .iload_n q, nx, xs, kk) = true) (hp : am_pcd M i = pc) (k : am_K l dC dI tc M d n0 n1 Q p e s m args below meth c ad0 A nx lv (.inl x :: r) σ) : am_K l dC dI tc M d n0 n1 Q p e s m args below meth c ad0 A i lv (r) σ := by
  intro ad H locs ls hS
  have hd := am_oke_dec ho (fun a b c d h => by cases h)
  have hvs := hS.vs
  have hr := hvs
  have hk := k ad H locs ls (hS.sk ⟨hS.lvf hg, hr⟩)
  rw [am_oke_nx ho rfl] at hk
  rw [hp]
  exact lv_iload_n hB.1 hB.2.1 hd rfl (hS.lh.2.2.2 _ _ hg) hk
theorem gk_iload {q : Nat} {x : Int} (hg : am_get lv q = some (.inl x)) (hB : am_B dC dI tc M ad0 A p s m args meth c) (ho : am_oke M (pc, .iload q, nx, xs, kk) = true) (hp : am_pcd M i = pc) (k : am_K l dC dI tc M d n0 n1 Q p e s m args below meth c ad0 A nx lv (.inl x :: r) σ) : am_K l dC dI tc M d n0 n1 Q p e s m args below meth c ad0 A i lv (r) σ := by
  intro ad H locs ls hS
  have hd := am_oke_dec ho (fun a b c d h => by cases h)
  have hvs := hS.vs
  have hr := hvs
  have hk := k ad H locs ls (hS.sk ⟨hS.lvf hg, hr⟩)
  rw [am_oke_nx ho rfl] at hk
  rw [hp]
  exact lv_iload hB.1 hB.2.1 hd (hS.lh.2.2.2 _ _ hg) hk
theorem gk_lload {q : Nat} {x : Int} (hg : am_get lv q = some (.inr (.inl x))) (hB : am_B dC dI tc M ad0 A p s m args meth c) (ho : am_oke M (pc, .lload q, nx, xs, kk) = true) (hp : am_pcd M i = pc) (k : am_K l dC dI tc M d n0 n1 Q p e s m args below meth c ad0 A nx lv (.inr (.inl x) :: r) σ) : am_K l dC dI tc M d n0 n1 Q p e s m args below meth c ad0 A i lv (r) σ := by
  intro ad H locs ls hS
  have hd := am_oke_dec ho (fun a b c d h => by cases h)
  have hvs := hS.vs
  have hr := hvs
  have hk := k ad H locs ls (hS.sk ⟨hS.lvf hg, hr⟩)
  rw [am_oke_nx ho rfl] at hk
  rw [hp]
  exact lv_lload hB.1 hB.2.1 hd (hS.lh.2.2.2 _ _ hg) hk
theorem gk_lloadn {q : Fin 4} {x : Int} (hg : am_get lv q.val = some (.inr (.inl x))) (hB : am_B dC dI tc M ad0 A p s m args meth c) (ho : am_oke M (pc, .lload_n q, nx, xs, kk) = true) (hp : am_pcd M i = pc) (k : am_K l dC dI tc M d n0 n1 Q p e s m args below meth c ad0 A nx lv (.inr (.inl x) :: r) σ) : am_K l dC dI tc M d n0 n1 Q p e s m args below meth c ad0 A i lv (r) σ := by
  intro ad H locs ls hS
  have hd := am_oke_dec ho (fun a b c d h => by cases h)
  have hvs := hS.vs
  have hr := hvs
  have hk := k ad H locs ls (hS.sk ⟨hS.lvf hg, hr⟩)
  rw [am_oke_nx ho rfl] at hk
  rw [hp]
  exact lv_lload_n hB.1 hB.2.1 hd rfl (hS.lh.2.2.2 _ _ hg) hk
theorem gk_aloadn {q : Fin 4} {x : Nat} (hg : am_get lv q.val = some (.inr (.inr (some x)))) (hB : am_B dC dI tc M ad0 A p s m args meth c) (ho : am_oke M (pc, .aload_n q, nx, xs, kk) = true) (hp : am_pcd M i = pc) (k : am_K l dC dI tc M d n0 n1 Q p e s m args below meth c ad0 A nx lv (.inr (.inr (some x)) :: r) σ) : am_K l dC dI tc M d n0 n1 Q p e s m args below meth c ad0 A i lv (r) σ := by
  intro ad H locs ls hS
  have hd := am_oke_dec ho (fun a b c d h => by cases h)
  have hvs := hS.vs
  have hr := hvs
  have hk := k ad H locs ls (hS.sk ⟨hS.lvf hg, hr⟩)
  rw [am_oke_nx ho rfl] at hk
  rw [hp]
  exact lv_aload_n hB.1 hB.2.1 hd rfl (hS.lh.2.2.2 _ _ hg) hk
theorem gk_aload {q : Nat} {x : Nat} (hg : am_get lv q = some (.inr (.inr (some x)))) (hB : am_B dC dI tc M ad0 A p s m args meth c) (ho : am_oke M (pc, .aload q, nx, xs, kk) = true) (hp : am_pcd M i = pc) (k : am_K l dC dI tc M d n0 n1 Q p e s m args below meth c ad0 A nx lv (.inr (.inr (some x)) :: r) σ) : am_K l dC dI tc M d n0 n1 Q p e s m args below meth c ad0 A i lv (r) σ := by
  intro ad H locs ls hS
  have hd := am_oke_dec ho (fun a b c d h => by cases h)
  have hvs := hS.vs
  have hr := hvs
  have hk := k ad H locs ls (hS.sk ⟨hS.lvf hg, hr⟩)
  rw [am_oke_nx ho rfl] at hk
  rw [hp]
  exact lv_aload hB.1 hB.2.1 hd (hS.lh.2.2.2 _ _ hg) hk
theorem gk_iadd {x y : Int} (hs : -2147483648 ≤ x + y ∧ x + y ≤ 2147483647) (hB : am_B dC dI tc M ad0 A p s m args meth c) (ho : am_oke M (pc, .iadd, nx, xs, kk) = true) (hp : am_pcd M i = pc) (k : am_K l dC dI tc M d n0 n1 Q p e s m args below meth c ad0 A nx lv (.inl (x + y) :: r) σ) : am_K l dC dI tc M d n0 n1 Q p e s m args below meth c ad0 A i lv (.inl y :: .inl x :: r) σ := by
  intro ad H locs ls hS
  have hd := am_oke_dec ho (fun a b c d h => by cases h)
  have hvs := hS.vs
  obtain ⟨hy, hx, hr⟩ := hvs
  have hk := k ad H locs ls (hS.sk ⟨hs, hr⟩)
  rw [am_oke_nx ho rfl] at hk
  rw [hp]
  refine lv_iadd hB.1 hB.2.1 hd ?_
  rw [← Int32.ofInt_add]
  exact hk
theorem gk_isub {x y : Int} (hs : -2147483648 ≤ x - y ∧ x - y ≤ 2147483647) (hB : am_B dC dI tc M ad0 A p s m args meth c) (ho : am_oke M (pc, .isub, nx, xs, kk) = true) (hp : am_pcd M i = pc) (k : am_K l dC dI tc M d n0 n1 Q p e s m args below meth c ad0 A nx lv (.inl (x - y) :: r) σ) : am_K l dC dI tc M d n0 n1 Q p e s m args below meth c ad0 A i lv (.inl y :: .inl x :: r) σ := by
  intro ad H locs ls hS
  have hd := am_oke_dec ho (fun a b c d h => by cases h)
  have hvs := hS.vs
  obtain ⟨hy, hx, hr⟩ := hvs
  have hk := k ad H locs ls (hS.sk ⟨hs, hr⟩)
  rw [am_oke_nx ho rfl] at hk
  rw [hp]
  refine lv_isub hB.1 hB.2.1 hd ?_
  rw [← Int32.ofInt_sub]
  exact hk
theorem gk_imul {x y : Int} (hs : -2147483648 ≤ x * y ∧ x * y ≤ 2147483647) (hB : am_B dC dI tc M ad0 A p s m args meth c) (ho : am_oke M (pc, .imul, nx, xs, kk) = true) (hp : am_pcd M i = pc) (k : am_K l dC dI tc M d n0 n1 Q p e s m args below meth c ad0 A nx lv (.inl (x * y) :: r) σ) : am_K l dC dI tc M d n0 n1 Q p e s m args below meth c ad0 A i lv (.inl y :: .inl x :: r) σ := by
  intro ad H locs ls hS
  have hd := am_oke_dec ho (fun a b c d h => by cases h)
  have hvs := hS.vs
  obtain ⟨hy, hx, hr⟩ := hvs
  have hk := k ad H locs ls (hS.sk ⟨hs, hr⟩)
  rw [am_oke_nx ho rfl] at hk
  rw [hp]
  refine lv_imul hB.1 hB.2.1 hd ?_
  rw [← Int32.ofInt_mul]
  exact hk
theorem gk_idiv {x y : Int} (hs : 0 ≤ x ∧ 0 < y) (hB : am_B dC dI tc M ad0 A p s m args meth c) (ho : am_oke M (pc, .idiv, nx, xs, kk) = true) (hp : am_pcd M i = pc) (k : am_K l dC dI tc M d n0 n1 Q p e s m args below meth c ad0 A nx lv (.inl (x / y) :: r) σ) : am_K l dC dI tc M d n0 n1 Q p e s m args below meth c ad0 A i lv (.inl y :: .inl x :: r) σ := by
  intro ad H locs ls hS
  have hd := am_oke_dec ho (fun a b c d h => by cases h)
  have hvs := hS.vs
  obtain ⟨hy, hx, hr⟩ := hvs
  have hk := k ad H locs ls (hS.sk ⟨am_divr hx hs, hr⟩)
  rw [am_oke_nx ho rfl] at hk
  rw [hp]
  refine lv_idiv hB.1 hB.2.1 hd (fun q => by have := (am_eq0 hy).mp q; omega) ?_
  rw [am_div hx hy hs]
  exact hk
theorem gk_irem {x y : Int} (hs : 0 ≤ x ∧ 0 < y) (hB : am_B dC dI tc M ad0 A p s m args meth c) (ho : am_oke M (pc, .irem, nx, xs, kk) = true) (hp : am_pcd M i = pc) (k : am_K l dC dI tc M d n0 n1 Q p e s m args below meth c ad0 A nx lv (.inl (x % y) :: r) σ) : am_K l dC dI tc M d n0 n1 Q p e s m args below meth c ad0 A i lv (.inl y :: .inl x :: r) σ := by
  intro ad H locs ls hS
  have hd := am_oke_dec ho (fun a b c d h => by cases h)
  have hvs := hS.vs
  obtain ⟨hy, hx, hr⟩ := hvs
  have hk := k ad H locs ls (hS.sk ⟨am_remr hy hs, hr⟩)
  rw [am_oke_nx ho rfl] at hk
  rw [hp]
  refine lv_irem hB.1 hB.2.1 hd (fun q => by have := (am_eq0 hy).mp q; omega) ?_
  rw [am_rem hx hy hs]
  exact hk
theorem gk_iand {x y : Int} (hB : am_B dC dI tc M ad0 A p s m args meth c) (ho : am_oke M (pc, .iand, nx, xs, kk) = true) (hp : am_pcd M i = pc) (k : am_K l dC dI tc M d n0 n1 Q p e s m args below meth c ad0 A nx lv (.inl (am_and x y) :: r) σ) : am_K l dC dI tc M d n0 n1 Q p e s m args below meth c ad0 A i lv (.inl y :: .inl x :: r) σ := by
  intro ad H locs ls hS
  have hd := am_oke_dec ho (fun a b c d h => by cases h)
  have hvs := hS.vs
  obtain ⟨hy, hx, hr⟩ := hvs
  have hk := k ad H locs ls (hS.sk ⟨am_rng _, hr⟩)
  rw [am_oke_nx ho rfl] at hk
  rw [hp]
  refine lv_iand hB.1 hB.2.1 hd ?_
  have e0 : Int32.ofInt (am_and x y) = _ := am_oti _
  rw [← e0]
  exact hk
theorem gk_ior {x y : Int} (hB : am_B dC dI tc M ad0 A p s m args meth c) (ho : am_oke M (pc, .ior, nx, xs, kk) = true) (hp : am_pcd M i = pc) (k : am_K l dC dI tc M d n0 n1 Q p e s m args below meth c ad0 A nx lv (.inl (am_or x y) :: r) σ) : am_K l dC dI tc M d n0 n1 Q p e s m args below meth c ad0 A i lv (.inl y :: .inl x :: r) σ := by
  intro ad H locs ls hS
  have hd := am_oke_dec ho (fun a b c d h => by cases h)
  have hvs := hS.vs
  obtain ⟨hy, hx, hr⟩ := hvs
  have hk := k ad H locs ls (hS.sk ⟨am_rng _, hr⟩)
  rw [am_oke_nx ho rfl] at hk
  rw [hp]
  refine lv_ior hB.1 hB.2.1 hd ?_
  have e0 : Int32.ofInt (am_or x y) = _ := am_oti _
  rw [← e0]
  exact hk
theorem gk_ishl {x y : Int} (hB : am_B dC dI tc M ad0 A p s m args meth c) (ho : am_oke M (pc, .ishl, nx, xs, kk) = true) (hp : am_pcd M i = pc) (k : am_K l dC dI tc M d n0 n1 Q p e s m args below meth c ad0 A nx lv (.inl (am_shl x y) :: r) σ) : am_K l dC dI tc M d n0 n1 Q p e s m args below meth c ad0 A i lv (.inl y :: .inl x :: r) σ := by
  intro ad H locs ls hS
  have hd := am_oke_dec ho (fun a b c d h => by cases h)
  have hvs := hS.vs
  obtain ⟨hy, hx, hr⟩ := hvs
  have hk := k ad H locs ls (hS.sk ⟨am_rng _, hr⟩)
  rw [am_oke_nx ho rfl] at hk
  rw [hp]
  refine lv_ishl hB.1 hB.2.1 hd ?_
  have e0 : Int32.ofInt (am_shl x y) = _ := am_oti _
  rw [← e0]
  exact hk
theorem gk_ishr {x y : Int} (hB : am_B dC dI tc M ad0 A p s m args meth c) (ho : am_oke M (pc, .ishr, nx, xs, kk) = true) (hp : am_pcd M i = pc) (k : am_K l dC dI tc M d n0 n1 Q p e s m args below meth c ad0 A nx lv (.inl (am_shr x y) :: r) σ) : am_K l dC dI tc M d n0 n1 Q p e s m args below meth c ad0 A i lv (.inl y :: .inl x :: r) σ := by
  intro ad H locs ls hS
  have hd := am_oke_dec ho (fun a b c d h => by cases h)
  have hvs := hS.vs
  obtain ⟨hy, hx, hr⟩ := hvs
  have hk := k ad H locs ls (hS.sk ⟨am_rng _, hr⟩)
  rw [am_oke_nx ho rfl] at hk
  rw [hp]
  refine lv_ishr hB.1 hB.2.1 hd ?_
  have e0 : Int32.ofInt (am_shr x y) = _ := am_oti _
  rw [← e0]
  exact hk
theorem gk_lcmp {x y : Int} (hB : am_B dC dI tc M ad0 A p s m args meth c) (ho : am_oke M (pc, .lcmp, nx, xs, kk) = true) (hp : am_pcd M i = pc) (k : am_K l dC dI tc M d n0 n1 Q p e s m args below meth c ad0 A nx lv (.inl (am_cmp x y) :: r) σ) : am_K l dC dI tc M d n0 n1 Q p e s m args below meth c ad0 A i lv (.inr (.inl y) :: .inr (.inl x) :: r) σ := by
  intro ad H locs ls hS
  have hd := am_oke_dec ho (fun a b c d h => by cases h)
  have hvs := hS.vs
  obtain ⟨hy, hx, hr⟩ := hvs
  have hk := k ad H locs ls (hS.sk ⟨am_cmpr x y, hr⟩)
  rw [am_oke_nx ho rfl] at hk
  rw [hp]
  refine W.lcmp hB.1 hB.2.1 hd ?_
  rw [am_lcmp hx hy]
  exact hk
theorem gk_i2c {x : Int} (hs : 0 ≤ x ∧ x < 65536) (hB : am_B dC dI tc M ad0 A p s m args meth c) (ho : am_oke M (pc, .i2c, nx, xs, kk) = true) (hp : am_pcd M i = pc) (k : am_K l dC dI tc M d n0 n1 Q p e s m args below meth c ad0 A nx lv (.inl x :: r) σ) : am_K l dC dI tc M d n0 n1 Q p e s m args below meth c ad0 A i lv (.inl x :: r) σ := by
  intro ad H locs ls hS
  have hd := am_oke_dec ho (fun a b c d h => by cases h)
  have hvs := hS.vs
  obtain ⟨hx, hr⟩ := hvs
  have hk := k ad H locs ls (hS.sk ⟨hx, hr⟩)
  rw [am_oke_nx ho rfl] at hk
  rw [hp]
  exact lv_i2c hB.1 hB.2.1 hd (am_i2c hs) hk
theorem gk_i2l {x : Int} (hB : am_B dC dI tc M ad0 A p s m args meth c) (ho : am_oke M (pc, .i2l, nx, xs, kk) = true) (hp : am_pcd M i = pc) (k : am_K l dC dI tc M d n0 n1 Q p e s m args below meth c ad0 A nx lv (.inr (.inl x) :: r) σ) : am_K l dC dI tc M d n0 n1 Q p e s m args below meth c ad0 A i lv (.inl x :: r) σ := by
  intro ad H locs ls hS
  have hd := am_oke_dec ho (fun a b c d h => by cases h)
  have hvs := hS.vs
  obtain ⟨hx, hr⟩ := hvs
  have hk := k ad H locs ls (hS.sk ⟨am_i2lr hx, hr⟩)
  rw [am_oke_nx ho rfl] at hk
  rw [hp]
  exact lv_i2l hB.1 hB.2.1 hd (am_i2l hx) hk
theorem gk_l2i {x : Int} (hs : -2147483648 ≤ x ∧ x ≤ 2147483647) (hB : am_B dC dI tc M ad0 A p s m args meth c) (ho : am_oke M (pc, .l2i, nx, xs, kk) = true) (hp : am_pcd M i = pc) (k : am_K l dC dI tc M d n0 n1 Q p e s m args below meth c ad0 A nx lv (.inl x :: r) σ) : am_K l dC dI tc M d n0 n1 Q p e s m args below meth c ad0 A i lv (.inr (.inl x) :: r) σ := by
  intro ad H locs ls hS
  have hd := am_oke_dec ho (fun a b c d h => by cases h)
  have hvs := hS.vs
  obtain ⟨hx, hr⟩ := hvs
  have hk := k ad H locs ls (hS.sk ⟨hs, hr⟩)
  rw [am_oke_nx ho rfl] at hk
  rw [hp]
  exact lv_l2i hB.1 hB.2.1 hd (am_l2i hs) hk
theorem gk_dupi {x : Int} (hB : am_B dC dI tc M ad0 A p s m args meth c) (ho : am_oke M (pc, .dup, nx, xs, kk) = true) (hp : am_pcd M i = pc) (k : am_K l dC dI tc M d n0 n1 Q p e s m args below meth c ad0 A nx lv (.inl x :: .inl x :: r) σ) : am_K l dC dI tc M d n0 n1 Q p e s m args below meth c ad0 A i lv (.inl x :: r) σ := by
  intro ad H locs ls hS
  have hd := am_oke_dec ho (fun a b c d h => by cases h)
  have hvs := hS.vs
  obtain ⟨hx, hr⟩ := hvs
  have hk := k ad H locs ls (hS.sk ⟨hx, hx, hr⟩)
  rw [am_oke_nx ho rfl] at hk
  rw [hp]
  exact lv_dup hB.1 hB.2.1 hd rfl hk
theorem gk_dupa {x : Option Nat} (hB : am_B dC dI tc M ad0 A p s m args meth c) (ho : am_oke M (pc, .dup, nx, xs, kk) = true) (hp : am_pcd M i = pc) (k : am_K l dC dI tc M d n0 n1 Q p e s m args below meth c ad0 A nx lv (.inr (.inr x) :: .inr (.inr x) :: r) σ) : am_K l dC dI tc M d n0 n1 Q p e s m args below meth c ad0 A i lv (.inr (.inr x) :: r) σ := by
  intro ad H locs ls hS
  have hd := am_oke_dec ho (fun a b c d h => by cases h)
  have hvs := hS.vs
  obtain ⟨hx, hr⟩ := hvs
  have hk := k ad H locs ls (hS.sk ⟨hx, hx, hr⟩)
  rw [am_oke_nx ho rfl] at hk
  rw [hp]
  exact lv_dup hB.1 hB.2.1 hd (am_catr ad x) hk
theorem gk_dup2 {x : Int} {y : Option Nat} (hB : am_B dC dI tc M ad0 A p s m args meth c) (ho : am_oke M (pc, .dup2, nx, xs, kk) = true) (hp : am_pcd M i = pc) (k : am_K l dC dI tc M d n0 n1 Q p e s m args below meth c ad0 A nx lv (.inl x :: .inr (.inr y) :: .inl x :: .inr (.inr y) :: r) σ) : am_K l dC dI tc M d n0 n1 Q p e s m args below meth c ad0 A i lv (.inl x :: .inr (.inr y) :: r) σ := by
  intro ad H locs ls hS
  have hd := am_oke_dec ho (fun a b c d h => by cases h)
  have hvs := hS.vs
  obtain ⟨hx, hy, hr⟩ := hvs
  have hk := k ad H locs ls (hS.sk ⟨hx, hy, hx, hy, hr⟩)
  rw [am_oke_nx ho rfl] at hk
  rw [hp]
  exact lv_dup2_11 hB.1 hB.2.1 hd rfl (am_catr ad y) hk
theorem gk_goto {o : Int} {t : Nat} (hB : am_B dC dI tc M ad0 A p s m args meth c) (ho : am_oke M (pc, .goto o, nx, [t], kk) = true) (hp : am_pcd M i = pc) (k : am_K l dC dI tc M d n0 n1 Q p e s m args below meth c ad0 A t lv (r) σ) : am_K l dC dI tc M d n0 n1 Q p e s m args below meth c ad0 A i lv (r) σ := by
  intro ad H locs ls hS
  have hd := am_oke_dec ho (fun a b c d h => by cases h)
  have hvs := hS.vs
  have hr := hvs
  have hk := k ad H locs ls (hS.sk hr)
  rw [hp]
  exact lv_goto hB.1 hB.2.1 hd (am_oke_t ho rfl) hk
theorem gk_alen {x t len : Nat} (hx : x < σ.1) (hsh : am_at am_sh x = some (.inl (t, len))) (hB : am_B dC dI tc M ad0 A p s m args meth c) (ho : am_oke M (pc, .arraylength, nx, xs, kk) = true) (hp : am_pcd M i = pc) (k : am_K l dC dI tc M d n0 n1 Q p e s m args below meth c ad0 A nx lv (.inl (len : Int) :: r) σ) : am_K l dC dI tc M d n0 n1 Q p e s m args below meth c ad0 A i lv (.inr (.inr (some x)) :: r) σ := by
  intro ad H locs ls hS
  have hd := am_oke_dec ho (fun a b c d h => by cases h)
  have hvs := hS.vs
  obtain ⟨-, hr⟩ := hvs
  have hk := k ad H locs ls (hS.sk ⟨am_lenr hsh, hr⟩)
  rw [am_oke_nx ho rfl] at hk
  rw [hp]
  obtain ⟨ty, hty⟩ := am_tys_at (tc := tc) hsh
  exact va_alen hB.1 hB.2.1 hB.2.2.2.2.2.2.2.2.1 hS.2.2.2.1 x t (am_w_arr hx hsh) hty (v := Int32.ofInt (len : Int)) rfl hd hk
theorem gk_iald {y : Int} {x len : Nat} (hs : 0 ≤ y ∧ y < (len : Int)) (hx : x < σ.1) (hsh : am_at am_sh x = some (.inl (0, len))) (hB : am_B dC dI tc M ad0 A p s m args meth c) (ho : am_oke M (pc, .iaload, nx, xs, kk) = true) (hp : am_pcd M i = pc) (k : am_K l dC dI tc M d n0 n1 Q p e s m args below meth c ad0 A nx lv (.inl (σ.2.2.1 x y) :: r) σ) : am_K l dC dI tc M d n0 n1 Q p e s m args below meth c ad0 A i lv (.inl y :: .inr (.inr (some x)) :: r) σ := by
  intro ad H locs ls hS
  have hd := am_oke_dec ho (fun a b c d h => by cases h)
  have hvs := hS.vs
  obtain ⟨hy, -, hr⟩ := hvs
  have hk := k ad H locs ls (hS.sk ⟨(hS.hf.2 x hx).2.1 y, hr⟩)
  rw [am_oke_nx ho rfl] at hk
  rw [hp]
  refine va_iald hB.1 hB.2.1 hB.2.2.2.2.2.2.2.2.1 hS.2.2.2.1 x 0 (am_w_arr hx hsh) rfl (am_in hy hs) hd ?_
  rw [am_cl hy, Int.toNat_of_nonneg hs.1]
  exact hk
theorem gk_cald {y : Int} {x len : Nat} (hs : 0 ≤ y ∧ y < (len : Int)) (hx : x < σ.1) (hsh : am_at am_sh x = some (.inl (1, len))) (hB : am_B dC dI tc M ad0 A p s m args meth c) (ho : am_oke M (pc, .caload, nx, xs, kk) = true) (hp : am_pcd M i = pc) (k : am_K l dC dI tc M d n0 n1 Q p e s m args below meth c ad0 A nx lv (.inl (σ.2.2.1 x y) :: r) σ) : am_K l dC dI tc M d n0 n1 Q p e s m args below meth c ad0 A i lv (.inl y :: .inr (.inr (some x)) :: r) σ := by
  intro ad H locs ls hS
  have hd := am_oke_dec ho (fun a b c d h => by cases h)
  have hvs := hS.vs
  obtain ⟨hy, -, hr⟩ := hvs
  have hk := k ad H locs ls (hS.sk ⟨(hS.hf.2 x hx).2.1 y, hr⟩)
  rw [am_oke_nx ho rfl] at hk
  rw [hp]
  refine va_cald hB.1 hB.2.1 hB.2.2.2.2.2.2.2.2.1 hS.2.2.2.1 x 1 (am_w_arr hx hsh) rfl (am_in hy hs) hd ?_
  rw [am_cl hy, Int.toNat_of_nonneg hs.1]
  exact hk
theorem gk_zald {y : Int} {x len : Nat} (hs : 0 ≤ y ∧ y < (len : Int)) (hx : x < σ.1) (hsh : am_at am_sh x = some (.inl (2, len))) (hB : am_B dC dI tc M ad0 A p s m args meth c) (ho : am_oke M (pc, .baload, nx, xs, kk) = true) (hp : am_pcd M i = pc) (k : am_K l dC dI tc M d n0 n1 Q p e s m args below meth c ad0 A nx lv (.inl (σ.2.2.1 x y) :: r) σ) : am_K l dC dI tc M d n0 n1 Q p e s m args below meth c ad0 A i lv (.inl y :: .inr (.inr (some x)) :: r) σ := by
  intro ad H locs ls hS
  have hd := am_oke_dec ho (fun a b c d h => by cases h)
  have hvs := hS.vs
  obtain ⟨hy, -, hr⟩ := hvs
  have hk := k ad H locs ls (hS.sk ⟨(hS.hf.2 x hx).2.1 y, hr⟩)
  rw [am_oke_nx ho rfl] at hk
  rw [hp]
  refine va_zald hB.1 hB.2.1 hB.2.2.2.2.2.2.2.2.1 hS.2.2.2.1 x 2 (am_w_arr hx hsh) rfl (am_in hy hs) hd ?_
  rw [am_cl hy, Int.toNat_of_nonneg hs.1]
  exact hk
theorem gk_geti {idx ci j x kd : Nat} (hx : x < σ.1) (hsh : am_at am_sh x = some (.inr ci)) (hkd : am_kd ci j = some kd) (hk1 : kd ≠ 1) (hB : am_B dC dI tc M ad0 A p s m args meth c) (ho : am_oke M (pc, .getfield idx, nx, [ci, j], kk) = true) (hp : am_pcd M i = pc) (k : am_K l dC dI tc M d n0 n1 Q p e s m args below meth c ad0 A nx lv (.inl (σ.2.1 x j) :: r) σ) : am_K l dC dI tc M d n0 n1 Q p e s m args below meth c ad0 A i lv (.inr (.inr (some x)) :: r) σ := by
  intro ad H locs ls hS
  have hd := am_oke_dec ho (fun a b c d h => by cases h)
  have hvs := hS.vs
  obtain ⟨-, hr⟩ := hvs
  have hk := k ad H locs ls (hS.sk ⟨(hS.hf.2 x hx).1 j, hr⟩)
  rw [am_oke_nx ho rfl] at hk
  rw [hp]
  obtain ⟨q, hq, hj, hT, hlk⟩ := am_lk_get (am_oke_lk ho)
  obtain ⟨t1, t2, t3, t4⟩ := am_Tc ci q hq
  obtain ⟨ks, hks, hkj⟩ := am_kd_at hkd
  refine va_get (D := (dC, dI)) (C := q.1) (T := q.2.1) (N := q.2.2) hB.1 hB.2.1 hB.2.2.2.2.2.1 t1 hB.2.2.2.2.1 hB.2.2.2.2.2.2.2.2.1 hS.2.2.2.1 x (am_w_obj hx hsh hks) (by rw [← am_at_eq]; exact hq) j hj (hB.2.2.2.2.2.1 _ hlk) (fun z hz => by rw [hT] at hz; exact hz) (am_fs_at hkj) hd ?_
  have e1 : am_f ad σ x j kd = .int (Int32.ofInt (σ.2.1 x j)) := by unfold am_f; rw [if_neg hk1]
  rw [e1]
  exact hk
theorem gk_geta {idx ci j x kd : Nat} (hx : x < σ.1) (hsh : am_at am_sh x = some (.inr ci)) (hkd : am_kd ci j = some kd) (hk1 : kd = 1) (hB : am_B dC dI tc M ad0 A p s m args meth c) (ho : am_oke M (pc, .getfield idx, nx, [ci, j], kk) = true) (hp : am_pcd M i = pc) (k : am_K l dC dI tc M d n0 n1 Q p e s m args below meth c ad0 A nx lv (.inr (.inr (σ.2.2.2 x j)) :: r) σ) : am_K l dC dI tc M d n0 n1 Q p e s m args below meth c ad0 A i lv (.inr (.inr (some x)) :: r) σ := by
  intro ad H locs ls hS
  have hd := am_oke_dec ho (fun a b c d h => by cases h)
  have hvs := hS.vs
  obtain ⟨-, hr⟩ := hvs
  have hk := k ad H locs ls (hS.sk ⟨fun q hq => Or.inl ((hS.hf.2 x hx).2.2 j q hq), hr⟩)
  rw [am_oke_nx ho rfl] at hk
  rw [hp]
  obtain ⟨q, hq, hj, hT, hlk⟩ := am_lk_get (am_oke_lk ho)
  obtain ⟨t1, t2, t3, t4⟩ := am_Tc ci q hq
  obtain ⟨ks, hks, hkj⟩ := am_kd_at hkd
  refine va_get (D := (dC, dI)) (C := q.1) (T := q.2.1) (N := q.2.2) hB.1 hB.2.1 hB.2.2.2.2.2.1 t1 hB.2.2.2.2.1 hB.2.2.2.2.2.2.2.2.1 hS.2.2.2.1 x (am_w_obj hx hsh hks) (by rw [← am_at_eq]; exact hq) j hj (hB.2.2.2.2.2.1 _ hlk) (fun z hz => by rw [hT] at hz; exact hz) (am_fs_at hkj) hd ?_
  have e1 : am_f ad σ x j kd = am_v ad (.inr (.inr (σ.2.2.2 x j))) := by unfold am_f; rw [if_pos hk1]
  rw [e1]
  exact hk
theorem gk_max {idx : Nat} {x y : Int} (hs : 0 < d ∧ r.length ≤ 8) (hc1 : σ.1 ≤ n1) (hB : am_B dC dI tc M ad0 A p s m args meth c) (ho : am_oke M (pc, .invokestatic idx, nx, [], kk) = true) (hp : am_pcd M i = pc) (k : am_K l dC dI tc M d n0 n1 Q p e s m args below meth c ad0 A nx lv (.inl (if x < y then y else x) :: r) σ) : am_K l dC dI tc M d n0 n1 Q p e s m args below meth c ad0 A i lv (.inl y :: .inl x :: r) σ := by
  intro ad H locs ls hS
  have hd := am_oke_dec ho (fun a b c d h => by cases h)
  have hvs := hS.vs
  obtain ⟨hy, hx, hr⟩ := hvs
  have hk := k ad H locs ls (hS.sk ⟨by split <;> assumption, hr⟩)
  rw [am_oke_nx ho rfl] at hk
  rw [hp]
  have hl := am_oke_lk ho
  have hl := am_in_tb hl
  have hn0 := hS.2.1
  refine va_mmax (R := am_rm d n0 n1) hB.1 hB.2.1 (hB.2.2.2.1.trans hS.lh.1.symm) hB.2.2.2.2.1 (hB.2.2.2.2.2.1 _ hl) (hB.2.2.2.2.2.1 _ am_Tmax.1) (hB.2.2.2.2.2.1 _ am_Tmax.2.1) (hB.2.2.2.2.2.1 _ am_Tmax.2.2) hs.1 ?_ ?_ ?_ hd ?_
  · have := am_cats ad r
    show _ ≤ 35 * d
    omega
  · show σ.1 - n0 ≤ n1 - n0
    omega
  · show am_sz σ.1 - am_sz n0 ≤ am_sz n1 - am_sz n0
    have := am_sz_mono hc1
    omega
  · have e1 : (if Int32.ofInt x < Int32.ofInt y then Int32.ofInt y else Int32.ofInt x) = Int32.ofInt (if x < y then y else x) := by
      by_cases q : x < y
      · rw [if_pos q, if_pos ((am_lt hx hy).mpr q)]
      · rw [if_neg q, if_neg (fun z => q ((am_lt hx hy).mp z))]
    rw [e1]
    exact hk
theorem gk_obj {idx x : Nat} (hs : 0 < d ∧ r.length ≤ 8) (hB : am_B dC dI tc M ad0 A p s m args meth c) (ho : am_oke M (pc, .invokespecial idx, nx, [], kk) = true) (hp : am_pcd M i = pc) (k : am_K l dC dI tc M d n0 n1 Q p e s m args below meth c ad0 A nx lv (r) σ) : am_K l dC dI tc M d n0 n1 Q p e s m args below meth c ad0 A i lv (.inr (.inr (some x)) :: r) σ := by
  intro ad H locs ls hS
  have hd := am_oke_dec ho (fun a b c d h => by cases h)
  have hvs := hS.vs
  obtain ⟨-, hr⟩ := hvs
  have hk := k ad H locs ls (hS.sk hr)
  rw [am_oke_nx ho rfl] at hk
  rw [hp]
  have hl := am_oke_lk ho
  have hl := am_in_tb hl
  refine W.objInit hB.1 hB.2.1 hB.2.2.2.2.1 (hB.2.2.2.2.2.1 _ hl) (hB.2.2.2.2.2.1 _ am_Tobj.1) (hB.2.2.2.2.2.1 _ am_Tobj.2) rfl (hS.lh.1.trans hB.2.2.2.1.symm) rfl hd hs.1 ?_ hk
  have := am_cats ad r
  show 2 * 0 + _ + 12 ≤ 35 * d
  omega
theorem gk_istoren {q : Fin 4} {x : Int} {lv' : am_L} (hg : am_sto lv q.val (.inl x) = some lv') (hB : am_B dC dI tc M ad0 A p s m args meth c) (ho : am_oke M (pc, .istore_n q, nx, xs, kk) = true) (hp : am_pcd M i = pc) (k : am_K l dC dI tc M d n0 n1 Q p e s m args below meth c ad0 A nx lv' r σ) : am_K l dC dI tc M d n0 n1 Q p e s m args below meth c ad0 A i lv (.inl x :: r) σ := by
  intro ad H locs ls hS
  have hd := am_oke_dec ho (fun a b c d h => by cases h)
  obtain ⟨hx, hr⟩ := hS.vs
  rw [hp]
  refine lv_istore_n hB.1 hB.2.1 hd rfl hS.lh.has (Nat.lt_of_lt_of_le (am_sto_spec hg).1 hS.lh.2.2.1) rfl (fun ls' hl => ?_)
  have hk := k ad H locs ls' (hS.sto hr hg hx hl)
  rw [am_oke_nx ho rfl] at hk
  exact hk
theorem gk_istore {q : Nat} {x : Int} {lv' : am_L} (hg : am_sto lv q (.inl x) = some lv') (hB : am_B dC dI tc M ad0 A p s m args meth c) (ho : am_oke M (pc, .istore q, nx, xs, kk) = true) (hp : am_pcd M i = pc) (k : am_K l dC dI tc M d n0 n1 Q p e s m args below meth c ad0 A nx lv' r σ) : am_K l dC dI tc M d n0 n1 Q p e s m args below meth c ad0 A i lv (.inl x :: r) σ := by
  intro ad H locs ls hS
  have hd := am_oke_dec ho (fun a b c d h => by cases h)
  obtain ⟨hx, hr⟩ := hS.vs
  rw [hp]
  refine lv_istore hB.1 hB.2.1 hd hS.lh.has (Nat.lt_of_lt_of_le (am_sto_spec hg).1 hS.lh.2.2.1) rfl (fun ls' hl => ?_)
  have hk := k ad H locs ls' (hS.sto hr hg hx hl)
  rw [am_oke_nx ho rfl] at hk
  exact hk
theorem gk_astoren {q : Fin 4} {x : Nat} {lv' : am_L} (hg : am_sto lv q.val (.inr (.inr (some x))) = some lv') (hB : am_B dC dI tc M ad0 A p s m args meth c) (ho : am_oke M (pc, .astore_n q, nx, xs, kk) = true) (hp : am_pcd M i = pc) (k : am_K l dC dI tc M d n0 n1 Q p e s m args below meth c ad0 A nx lv' r σ) : am_K l dC dI tc M d n0 n1 Q p e s m args below meth c ad0 A i lv (.inr (.inr (some x)) :: r) σ := by
  intro ad H locs ls hS
  have hd := am_oke_dec ho (fun a b c d h => by cases h)
  obtain ⟨hx, hr⟩ := hS.vs
  rw [hp]
  refine lv_astore_n hB.1 hB.2.1 hd rfl hS.lh.has (Nat.lt_of_lt_of_le (am_sto_spec hg).1 hS.lh.2.2.1) rfl (fun ls' hl => ?_)
  have hk := k ad H locs ls' (hS.sto hr hg hx hl)
  rw [am_oke_nx ho rfl] at hk
  exact hk
theorem gk_astore {q : Nat} {x : Nat} {lv' : am_L} (hg : am_sto lv q (.inr (.inr (some x))) = some lv') (hB : am_B dC dI tc M ad0 A p s m args meth c) (ho : am_oke M (pc, .astore q, nx, xs, kk) = true) (hp : am_pcd M i = pc) (k : am_K l dC dI tc M d n0 n1 Q p e s m args below meth c ad0 A nx lv' r σ) : am_K l dC dI tc M d n0 n1 Q p e s m args below meth c ad0 A i lv (.inr (.inr (some x)) :: r) σ := by
  intro ad H locs ls hS
  have hd := am_oke_dec ho (fun a b c d h => by cases h)
  obtain ⟨hx, hr⟩ := hS.vs
  rw [hp]
  refine lv_astore hB.1 hB.2.1 hd hS.lh.has (Nat.lt_of_lt_of_le (am_sto_spec hg).1 hS.lh.2.2.1) rfl (fun ls' hl => ?_)
  have hk := k ad H locs ls' (hS.sto hr hg hx hl)
  rw [am_oke_nx ho rfl] at hk
  exact hk
theorem gk_iinc {q : Nat} {x n : Int} {lv' : am_L} (hs : -2147483648 ≤ x + n ∧ x + n ≤ 2147483647) (hg0 : am_get lv q = some (.inl x)) (hg : am_sto lv q (.inl (x + n)) = some lv') (hB : am_B dC dI tc M ad0 A p s m args meth c) (ho : am_oke M (pc, .iinc q n, nx, xs, kk) = true) (hp : am_pcd M i = pc) (k : am_K l dC dI tc M d n0 n1 Q p e s m args below meth c ad0 A nx lv' r σ) : am_K l dC dI tc M d n0 n1 Q p e s m args below meth c ad0 A i lv r σ := by
  intro ad H locs ls hS
  have hd := am_oke_dec ho (fun a b c d h => by cases h)
  rw [hp]
  obtain ⟨kq, hkq⟩ := List.getElem?_of_mem (am_pl_mem (ad := ad) hg0)
  refine lv_iinc hB.1 hB.2.1 hd hS.lh.has hkq (Int32.ofInt_add _ _).symm (Nat.lt_of_lt_of_le (am_sto_spec hg).1 hS.lh.2.2.1) rfl (fun ls' hl => ?_)
  have hk := k ad H locs ls' (hS.sto hS.vs hg hs hl)
  rw [am_oke_nx ho rfl] at hk
  exact hk
end AmGo

/-! the machine's rules once more, for a method that need not end with an answer -/
def az_rm (d n0 n1 : Nat) : Room := { frames := d, cells := n1 - n0 + 1, slots := am_sz n1 - am_sz n0 + 6, locals := 35 * d }
theorem az_roomok {d d' n0 n1 : Nat} {M' : am_M} {n n' : Nat} (hd : d' < d) (hm : M'.2.2.1 ≤ 16) : (am_rm d' n n').frames + 1 ≤ (az_rm d n0 n1).frames ∧ 8 + (M'.2.2.1 + 11) + (am_rm d' n n').locals ≤ (az_rm d n0 n1).locals := by
  constructor
  · show d' + 1 ≤ d
    omega
  · show 8 + (M'.2.2.1 + 11) + 35 * d' ≤ 35 * d
    omega
abbrev az_T : Type := List Frame → Array Value → State → (Nat → Nat) → (Nat → Prop) → State → Prop
def az_K (l : Launch) (dC : Nat → ClassId) (dI : Nat → Nat → Nat) (tc : Nat → ClassId) (M : am_M) (d n0 n1 : Nat) (Q : az_T) (p : Program) (e : Env) (s : State) (m : MethodId) (args : Array Value) (below : List Frame) (meth : Method) (c : Code) (ad0 : Nat → Nat) (A : Nat → Prop) (i : Nat) (lv : am_L) (st : List am_V) (σ : am_H) : Prop :=
  ∀ (ad : Nat → Nat) (H : Heap) (locs : List Loc) (ls : Array Slot), am_S dC dI tc s A n0 ad0 M.2.2.1 lv st σ ad H locs ls →
      W p l e (az_rm d n0 n1) s m args below meth c H locs (σ.1 - n0) (am_sz σ.1 - am_sz n0) (Q below args s ad0 A) (F0 m (am_pcd M i) ls (st.map (am_v ad)))
def az_wp (l : Launch) (dC : Nat → ClassId) (dI : Nat → Nat → Nat) (tc : Nat → ClassId) (M : am_M) (d n0 n1 : Nat) (Q : az_T) (i : Nat) (lv : am_L) (st : List am_V) (σ : am_H) : Prop :=
  am_okM M → ∀ (p : Program) (e : Env) (s : State) (m : MethodId) (args : Array Value) (below : List Frame) (meth : Method) (c : Code) (ad0 : Nat → Nat) (A : Nat → Prop), am_B dC dI tc M ad0 A p s m args meth c → az_K l dC dI tc M d n0 n1 Q p e s m args below meth c ad0 A i lv st σ

section AmGo
variable {l : Launch} {dC : Nat → ClassId} {dI : Nat → Nat → Nat} {tc : Nat → ClassId} {M : am_M} {d n0 n1 : Nat} {Q : az_T} {i : Nat} {lv : am_L} {st : List am_V} {σ : am_H}
variable {p : Program} {e : Env} {s : State} {m : MethodId} {args : Array Value} {below : List Frame} {meth : Method} {c : Code} {ad0 : Nat → Nat} {A : Nat → Prop}
variable {pc nx : Nat} {ins : Instr} {xs : List Nat} {kk : Int} {r : List am_V}
theorem zgk_iconst {n : Int} (hs : -2147483648 ≤ n ∧ n ≤ 2147483647) (hB : am_B dC dI tc M ad0 A p s m args meth c) (ho : am_oke M (pc, .iconst n, nx, xs, kk) = true) (hp : am_pcd M i = pc) (k : az_K l dC dI tc M d n0 n1 Q p e s m args below meth c ad0 A nx lv (.inl n :: r) σ) : az_K l dC dI tc M d n0 n1 Q p e s m args below meth c ad0 A i lv (r) σ := by
  intro ad H locs ls hS
  have hd := am_oke_dec ho (fun a b c d h => by cases h)
  have hvs := hS.vs
  have hr := hvs
  have hk := k ad H locs ls (hS.sk ⟨hs, hr⟩)
  rw [am_oke_nx ho rfl] at hk
  rw [hp]
  exact lv_iconst hB.1 hB.2.1 hd rfl hk
theorem zgk_bipush {n : Int} (hs : -128 ≤ n ∧ n ≤ 127) (hB : am_B dC dI tc M ad0 A p s m args meth c) (ho : am_oke M (pc, .bipush n, nx, xs, kk) = true) (hp : am_pcd M i = pc) (k : az_K l dC dI tc M d n0 n1 Q p e s m args below meth c ad0 A nx lv (.inl n :: r) σ) : az_K l dC dI tc M d n0 n1 Q p e s m args below meth c ad0 A i lv (r) σ := by
  intro ad H locs ls hS
  have hd := am_oke_dec ho (fun a b c d h => by cases h)
  have hvs := hS.vs
  have hr := hvs
  have hk := k ad H locs ls (hS.sk ⟨⟨by omega, by omega⟩, hr⟩)
  rw [am_oke_nx ho rfl] at hk
  rw [hp]
  refine lv_bipush hB.1 hB.2.1 hd ?_ hk
  rw [← Int32.toInt_inj, am_ti ⟨by omega, by omega⟩, Int8.toInt_toInt32, Int8.toInt_ofInt_of_le (by omega) (by omega)]
theorem zgk_sipush {n : Int} (hs : -32768 ≤ n ∧ n ≤ 32767) (hB : am_B dC dI tc M ad0 A p s m args meth c) (ho : am_oke M (pc, .sipush n, nx, xs, kk) = true) (hp : am_pcd M i = pc) (k : az_K l dC dI tc M d n0 n1 Q p e s m args below meth c ad0 A nx lv (.inl n :: r) σ) : az_K l dC dI tc M d n0 n1 Q p e s m args below meth c ad0 A i lv (r) σ := by
  intro ad H locs ls hS
  have hd := am_oke_dec ho (fun a b c d h => by cases h)
  have hvs := hS.vs
  have hr := hvs
  have hk := k ad H locs ls (hS.sk ⟨⟨by omega, by omega⟩, hr⟩)
  rw [am_oke_nx ho rfl] at hk
  rw [hp]
  refine lv_sipush hB.1 hB.2.1 hd ?_ hk
  rw [← Int32.toInt_inj, am_ti ⟨by omega, by omega⟩, Int16.toInt_toInt32, Int16.toInt_ofInt_of_le (by omega) (by omega)]
theorem zgk_ldc {idx : Nat} (hs : -2147483648 ≤ kk ∧ kk ≤ 2147483647) (hB : am_B dC dI tc M ad0 A p s m args meth c) (ho : am_oke M (pc, .ldc idx, nx, [], kk) = true) (hp : am_pcd M i = pc) (k : az_K l dC dI tc M d n0 n1 Q p e s m args below meth c ad0 A nx lv (.inl kk :: r) σ) : az_K l dC dI tc M d n0 n1 Q p e s m args below meth c ad0 A i lv (r) σ := by
  intro ad H locs ls hS
  have hd := am_oke_dec ho (fun a b c d h => by cases h)
  have hvs := hS.vs
  have hr := hvs
  have hk := k ad H locs ls (hS.sk ⟨hs, hr⟩)
  rw [am_oke_nx ho rfl] at hk
  rw [hp]
  have hl := am_oke_lk ho
  have hl := am_in_tb hl
  exact lv_ldc hB.1 hB.2.1 hB.2.2.2.2.1 (hB.2.2.2.2.2.1 _ hl) hd hk
theorem zgk_ldcs {idx q : Nat} (hB : am_B dC dI tc M ad0 A p s m args meth c) (ho : am_oke M (pc, .ldc idx, nx, [q], kk) = true) (hp : am_pcd M i = pc) (k : az_K l dC dI tc M d n0 n1 Q p e s m args below meth c ad0 A nx lv (.inr (.inr (some (1000 + q))) :: r) σ) : az_K l dC dI tc M d n0 n1 Q p e s m args below meth c ad0 A i lv (r) σ := by
  intro ad H locs ls hS
  have hd := am_oke_dec ho (fun a b c d h => by cases h)
  have hvs := hS.vs
  have hr := hvs
  have hk := k ad H locs ls (hS.sk ⟨fun z hz => by cases hz; exact Or.inr (by omega), hr⟩)
  rw [am_oke_nx ho rfl] at hk
  rw [hp]
  have hl := of_decide_eq_true (am_oke_lk ho)
  have h9 := hB.2.2.2.2.2.2.2.2.2.2.2.1 _ hl
  rw [← hS.1 (1000 + q) (Or.inr (by omega))] at h9
  exact va_ldcS hB.1 hB.2.1 hB.2.2.2.2.1 h9 hd hk
theorem zgk_ldc2 {idx : Nat} (hs : -9223372036854775808 ≤ kk ∧ kk ≤ 9223372036854775807) (hB : am_B dC dI tc M ad0 A p s m args meth c) (ho : am_oke M (pc, .ldc2_w idx, nx, xs, kk) = true) (hp : am_pcd M i = pc) (k : az_K l dC dI tc M d n0 n1 Q p e s m args below meth c ad0 A nx lv (.inr (.inl kk) :: r) σ) : az_K l dC dI tc M d n0 n1 Q p e s m args below meth c ad0 A i lv (r) σ := by
  intro ad H locs ls hS
  have hd := am_oke_dec ho (fun a b c d h => by cases h)
  have hvs := hS.vs
  have hr := hvs
  have hk := k ad H locs ls (hS.sk ⟨hs, hr⟩)
  rw [am_oke_nx ho rfl] at hk
  rw [hp]
  have hl := am_oke_lk ho
  have hl := am_in_tb hl
  exact lv_ldc2 hB.1 hB.2.1 hB.2.2.2.2.1 (hB.2.2.2.2.2.1 _ hl) hd hk
theorem zgk_lconst {n : Fin 2} (hs : 0 ≤ kk ∧ kk ≤ 1) (hB : am_B dC dI tc M ad0 A p s m args meth c) (ho : am_oke M (pc, .lconst n, nx, xs, kk) = true) (hp : am_pcd M i = pc) (k : az_K l dC dI tc M d n0 n1 Q p e s m args below meth c ad0 A nx lv (.inr (.inl kk) :: r) σ) : az_K l dC dI tc M d n0 n1 Q p e s m args below meth c ad0 A i lv (r) σ := by
  intro ad H locs ls hS
  have hd := am_oke_dec ho (fun a b c d h => by cases h)
  have hvs := hS.vs
  have hr := hvs
  have hk := k ad H locs ls (hS.sk ⟨⟨by omega, by omega⟩, hr⟩)
  rw [am_oke_nx ho rfl] at hk
  rw [hp]
  have hl := am_oke_lk ho
  simp only [am_lk, decide_eq_true_eq] at hl
  subst hl
  exact lv_lconst hB.1 hB.2.1 hd rfl hk
theorem zgk_iloadn {q : Fin 4} {x : Int} (hg : am_get lv q.val = some (.inl x)) (hB : am_B dC dI tc M ad0 A p s m args meth c) (ho : am_oke M (pc, .iload_n q, nx, xs, kk) = true) (hp : am_pcd M i = pc) (k : az_K l dC dI tc M d n0 n1 Q p e s m args below meth c ad0 A nx lv (.inl x :: r) σ) : az_K l dC dI tc M d n0 n1 Q p e s m args below meth c ad0 A i lv (r) σ := by
  intro ad H locs ls hS
  have hd := am_oke_dec ho (fun a b c d h => by cases h)
  have hvs := hS.vs
  have hr := hvs
  have hk := k ad H locs ls (hS.sk ⟨hS.lvf hg, hr⟩)
  rw [am_oke_nx ho rfl] at hk
  rw [hp]
  exact lv_iload_n hB.1 hB.2.1 hd rfl (hS.lh.2.2.2 _ _ hg) hk
theorem zgk_iload {q : Nat} {x : Int} (hg : am_get lv q = some (.inl x)) (hB : am_B dC dI tc M ad0 A p s m args meth c) (ho : am_oke M (pc, .iload q, nx, xs, kk) = true) (hp : am_pcd M i = pc) (k : az_K l dC dI tc M d n0 n1 Q p e s m args below meth c ad0 A nx lv (.inl x :: r) σ) : az_K l dC dI tc M d n0 n1 Q p e s m args below meth c ad0 A i lv (r) σ := by
  intro ad H locs ls hS
  have hd := am_oke_dec ho (fun a b c d h => by cases h)
  have hvs := hS.vs
  have hr := hvs
  have hk := k ad H locs ls (hS.sk ⟨hS.lvf hg, hr⟩)
  rw [am_oke_nx ho rfl] at hk
  rw [hp]
  exact lv_iload hB.1 hB.2.1 hd (hS.lh.2.2.2 _ _ hg) hk
theorem zgk_lload {q : Nat} {x : Int} (hg : am_get lv q = some (.inr (.inl x))) (hB : am_B dC dI tc M ad0 A p s m args meth c) (ho : am_oke M (pc, .lload q, nx, xs, kk) = true) (hp : am_pcd M i = pc) (k : az_K l dC dI tc M d n0 n1 Q p e s m args below meth c ad0 A nx lv (.inr (.inl x) :: r) σ) : az_K l dC dI tc M d n0 n1 Q p e s m args below meth c ad0 A i lv (r) σ := by
  intro ad H locs ls hS
  have hd := am_oke_dec ho (fun a b c d h => by cases h)
  have hvs := hS.vs
  have hr := hvs
  have hk := k ad H locs ls (hS.sk ⟨hS.lvf hg, hr⟩)
  rw [am_oke_nx ho rfl] at hk
  rw [hp]
  exact lv_lload hB.1 hB.2.1 hd (hS.lh.2.2.2 _ _ hg) hk
theorem zgk_lloadn {q : Fin 4} {x : Int} (hg : am_get lv q.val = some (.inr (.inl x))) (hB : am_B dC dI tc M ad0 A p s m args meth c) (ho : am_oke M (pc, .lload_n q, nx, xs, kk) = true) (hp : am_pcd M i = pc) (k : az_K l dC dI tc M d n0 n1 Q p e s m args below meth c ad0 A nx lv (.inr (.inl x) :: r) σ) : az_K l dC dI tc M d n0 n1 Q p e s m args below meth c ad0 A i lv (r) σ := by
  intro ad H locs ls hS
  have hd := am_oke_dec ho (fun a b c d h => by cases h)
  have hvs := hS.vs
  have hr := hvs
  have hk := k ad H locs ls (hS.sk ⟨hS.lvf hg, hr⟩)
  rw [am_oke_nx ho rfl] at hk
  rw [hp]
  exact lv_lload_n hB.1 hB.2.1 hd rfl (hS.lh.2.2.2 _ _ hg) hk
theorem zgk_aloadn {q : Fin 4} {x : Nat} (hg : am_get lv q.val = some (.inr (.inr (some x)))) (hB : am_B dC dI tc M ad0 A p s m args meth c) (ho : am_oke M (pc, .aload_n q, nx, xs, kk) = true) (hp : am_pcd M i = pc) (k : az_K l dC dI tc M d n0 n1 Q p e s m args below meth c ad0 A nx lv (.inr (.inr (some x)) :: r) σ) : az_K l dC dI tc M d n0 n1 Q p e s m args below meth c ad0 A i lv (r) σ := by
  intro ad H locs ls hS
  have hd := am_oke_dec ho (fun a b c d h => by cases h)
  have hvs := hS.vs
  have hr := hvs
  have hk := k ad H locs ls (hS.sk ⟨hS.lvf hg, hr⟩)
  rw [am_oke_nx ho rfl] at hk
  rw [hp]
  exact lv_aload_n hB.1 hB.2.1 hd rfl (hS.lh.2.2.2 _ _ hg) hk
theorem zgk_aload {q : Nat} {x : Nat} (hg : am_get lv q = some (.inr (.inr (some x)))) (hB : am_B dC dI tc M ad0 A p s m args meth c) (ho : am_oke M (pc, .aload q, nx, xs, kk) = true) (hp : am_pcd M i = pc) (k : az_K l dC dI tc M d n0 n1 Q p e s m args below meth c ad0 A nx lv (.inr (.inr (some x)) :: r) σ) : az_K l dC dI tc M d n0 n1 Q p e s m args below meth c ad0 A i lv (r) σ := by
  intro ad H locs ls hS
  have hd := am_oke_dec ho (fun a b c d h => by cases h)
  have hvs := hS.vs
  have hr := hvs
  have hk := k ad H locs ls (hS.sk ⟨hS.lvf hg, hr⟩)
  rw [am_oke_nx ho rfl] at hk
  rw [hp]
  exact lv_aload hB.1 hB.2.1 hd (hS.lh.2.2.2 _ _ hg) hk
theorem zgk_iadd {x y : Int} (hs : -2147483648 ≤ x + y ∧ x + y ≤ 2147483647) (hB : am_B dC dI tc M ad0 A p s m args meth c) (ho : am_oke M (pc, .iadd, nx, xs, kk) = true) (hp : am_pcd M i = pc) (k : az_K l dC dI tc M d n0 n1 Q p e s m args below meth c ad0 A nx lv (.inl (x + y) :: r) σ) : az_K l dC dI tc M d n0 n1 Q p e s m args below meth c ad0 A i lv (.inl y :: .inl x :: r) σ := by
  intro ad H locs ls hS
  have hd := am_oke_dec ho (fun a b c d h => by cases h)
  have hvs := hS.vs
  obtain ⟨hy, hx, hr⟩ := hvs
  have hk := k ad H locs ls (hS.sk ⟨hs, hr⟩)
  rw [am_oke_nx ho rfl] at hk
  rw [hp]
  refine lv_iadd hB.1 hB.2.1 hd ?_
  rw [← Int32.ofInt_add]
  exact hk
theorem zgk_isub {x y : Int} (hs : -2147483648 ≤ x - y ∧ x - y ≤ 2147483647) (hB : am_B dC dI tc M ad0 A p s m args meth c) (ho : am_oke M (pc, .isub, nx, xs, kk) = true) (hp : am_pcd M i = pc) (k : az_K l dC dI tc M d n0 n1 Q p e s m args below meth c ad0 A nx lv (.inl (x - y) :: r) σ) : az_K l dC dI tc M d n0 n1 Q p e s m args below meth c ad0 A i lv (.inl y :: .inl x :: r) σ := by
  intro ad H locs ls hS
  have hd := am_oke_dec ho (fun a b c d h => by cases h)
  have hvs := hS.vs
  obtain ⟨hy, hx, hr⟩ := hvs
  have hk := k ad H locs ls (hS.sk ⟨hs, hr⟩)
  rw [am_oke_nx ho rfl] at hk
  rw [hp]
  refine lv_isub hB.1 hB.2.1 hd ?_
  rw [← Int32.ofInt_sub]
  exact hk
theorem zgk_imul {x y : Int} (hs : -2147483648 ≤ x * y ∧ x * y ≤ 2147483647) (hB : am_B dC dI tc M ad0 A p s m args meth c) (ho : am_oke M (pc, .imul, nx, xs, kk) = true) (hp : am_pcd M i = pc) (k : az_K l dC dI tc M d n0 n1 Q p e s m args below meth c ad0 A nx lv (.inl (x * y) :: r) σ) : az_K l dC dI tc M d n0 n1 Q p e s m args below meth c ad0 A i lv (.inl y :: .inl x :: r) σ := by
  intro ad H locs ls hS
  have hd := am_oke_dec ho (fun a b c d h => by cases h)
  have hvs := hS.vs
  obtain ⟨hy, hx, hr⟩ := hvs
  have hk := k ad H locs ls (hS.sk ⟨hs, hr⟩)
  rw [am_oke_nx ho rfl] at hk
  rw [hp]
  refine lv_imul hB.1 hB.2.1 hd ?_
  rw [← Int32.ofInt_mul]
  exact hk
theorem zgk_idiv {x y : Int} (hs : 0 ≤ x ∧ 0 < y) (hB : am_B dC dI tc M ad0 A p s m args meth c) (ho : am_oke M (pc, .idiv, nx, xs, kk) = true) (hp : am_pcd M i = pc) (k : az_K l dC dI tc M d n0 n1 Q p e s m args below meth c ad0 A nx lv (.inl (x / y) :: r) σ) : az_K l dC dI tc M d n0 n1 Q p e s m args below meth c ad0 A i lv (.inl y :: .inl x :: r) σ := by
  intro ad H locs ls hS
  have hd := am_oke_dec ho (fun a b c d h => by cases h)
  have hvs := hS.vs
  obtain ⟨hy, hx, hr⟩ := hvs
  have hk := k ad H locs ls (hS.sk ⟨am_divr hx hs, hr⟩)
  rw [am_oke_nx ho rfl] at hk
  rw [hp]
  refine lv_idiv hB.1 hB.2.1 hd (fun q => by have := (am_eq0 hy).mp q; omega) ?_
  rw [am_div hx hy hs]
  exact hk
theorem zgk_irem {x y : Int} (hs : 0 ≤ x ∧ 0 < y) (hB : am_B dC dI tc M ad0 A p s m args meth c) (ho : am_oke M (pc, .irem, nx, xs, kk) = true) (hp : am_pcd M i = pc) (k : az_K l dC dI tc M d n0 n1 Q p e s m args below meth c ad0 A nx lv (.inl (x % y) :: r) σ) : az_K l dC dI tc M d n0 n1 Q p e s m args below meth c ad0 A i lv (.inl y :: .inl x :: r) σ := by
  intro ad H locs ls hS
  have hd := am_oke_dec ho (fun a b c d h => by cases h)
  have hvs := hS.vs
  obtain ⟨hy, hx, hr⟩ := hvs
  have hk := k ad H locs ls (hS.sk ⟨am_remr hy hs, hr⟩)
  rw [am_oke_nx ho rfl] at hk
  rw [hp]
  refine lv_irem hB.1 hB.2.1 hd (fun q => by have := (am_eq0 hy).mp q; omega) ?_
  rw [am_rem hx hy hs]
  exact hk
theorem zgk_iand {x y : Int} (hB : am_B dC dI tc M ad0 A p s m args meth c) (ho : am_oke M (pc, .iand, nx, xs, kk) = true) (hp : am_pcd M i = pc) (k : az_K l dC dI tc M d n0 n1 Q p e s m args below meth c ad0 A nx lv (.inl (am_and x y) :: r) σ) : az_K l dC dI tc M d n0 n1 Q p e s m args below meth c ad0 A i lv (.inl y :: .inl x :: r) σ := by
  intro ad H locs ls hS
  have hd := am_oke_dec ho (fun a b c d h => by cases h)
  have hvs := hS.vs
  obtain ⟨hy, hx, hr⟩ := hvs
  have hk := k ad H locs ls (hS.sk ⟨am_rng _, hr⟩)
  rw [am_oke_nx ho rfl] at hk
  rw [hp]
  refine lv_iand hB.1 hB.2.1 hd ?_
  have e0 : Int32.ofInt (am_and x y) = _ := am_oti _
  rw [← e0]
  exact hk
theorem zgk_ior {x y : Int} (hB : am_B dC dI tc M ad0 A p s m args meth c) (ho : am_oke M (pc, .ior, nx, xs, kk) = true) (hp : am_pcd M i = pc) (k : az_K l dC dI tc M d n0 n1 Q p e s m args below meth c ad0 A nx lv (.inl (am_or x y) :: r) σ) : az_K l dC dI tc M d n0 n1 Q p e s m args below meth c ad0 A i lv (.inl y :: .inl x :: r) σ := by
  intro ad H locs ls hS
  have hd := am_oke_dec ho (fun a b c d h => by cases h)
  have hvs := hS.vs
  obtain ⟨hy, hx, hr⟩ := hvs
  have hk := k ad H locs ls (hS.sk ⟨am_rng _, hr⟩)
  rw [am_oke_nx ho rfl] at hk
  rw [hp]
  refine lv_ior hB.1 hB.2.1 hd ?_
  have e0 : Int32.ofInt (am_or x y) = _ := am_oti _
  rw [← e0]
  exact hk
theorem zgk_ishl {x y : Int} (hB : am_B dC dI tc M ad0 A p s m args meth c) (ho : am_oke M (pc, .ishl, nx, xs, kk) = true) (hp : am_pcd M i = pc) (k : az_K l dC dI tc M d n0 n1 Q p e s m args below meth c ad0 A nx lv (.inl (am_shl x y) :: r) σ) : az_K l dC dI tc M d n0 n1 Q p e s m args below meth c ad0 A i lv (.inl y :: .inl x :: r) σ := by
  intro ad H locs ls hS
  have hd := am_oke_dec ho (fun a b c d h => by cases h)
  have hvs := hS.vs
  obtain ⟨hy, hx, hr⟩ := hvs
  have hk := k ad H locs ls (hS.sk ⟨am_rng _, hr⟩)
  rw [am_oke_nx ho rfl] at hk
  rw [hp]
  refine lv_ishl hB.1 hB.2.1 hd ?_
  have e0 : Int32.ofInt (am_shl x y) = _ := am_oti _
  rw [← e0]
  exact hk
theorem zgk_ishr {x y : Int} (hB : am_B dC dI tc M ad0 A p s m args meth c) (ho : am_oke M (pc, .ishr, nx, xs, kk) = true) (hp : am_pcd M i = pc) (k : az_K l dC dI tc M d n0 n1 Q p e s m args below meth c ad0 A nx lv (.inl (am_shr x y) :: r) σ) : az_K l dC dI tc M d n0 n1 Q p e s m args below meth c ad0 A i lv (.inl y :: .inl x :: r) σ := by
  intro ad H locs ls hS
  have hd := am_oke_dec ho (fun a b c d h => by cases h)
  have hvs := hS.vs
  obtain ⟨hy, hx, hr⟩ := hvs
  have hk := k ad H locs ls (hS.sk ⟨am_rng _, hr⟩)
  rw [am_oke_nx ho rfl] at hk
  rw [hp]
  refine lv_ishr hB.1 hB.2.1 hd ?_
  have e0 : Int32.ofInt (am_shr x y) = _ := am_oti _
  rw [← e0]
  exact hk
theorem zgk_lcmp {x y : Int} (hB : am_B dC dI tc M ad0 A p s m args meth c) (ho : am_oke M (pc, .lcmp, nx, xs, kk) = true) (hp : am_pcd M i = pc) (k : az_K l dC dI tc M d n0 n1 Q p e s m args below meth c ad0 A nx lv (.inl (am_cmp x y) :: r) σ) : az_K l dC dI tc M d n0 n1 Q p e s m args below meth c ad0 A i lv (.inr (.inl y) :: .inr (.inl x) :: r) σ := by
  intro ad H locs ls hS
  have hd := am_oke_dec ho (fun a b c d h => by cases h)
  have hvs := hS.vs
  obtain ⟨hy, hx, hr⟩ := hvs
  have hk := k ad H locs ls (hS.sk ⟨am_cmpr x y, hr⟩)
  rw [am_oke_nx ho rfl] at hk
  rw [hp]
  refine W.lcmp hB.1 hB.2.1 hd ?_
  rw [am_lcmp hx hy]
  exact hk
theorem zgk_i2c {x : Int} (hs : 0 ≤ x ∧ x < 65536) (hB : am_B dC dI tc M ad0 A p s m args meth c) (ho : am_oke M (pc, .i2c, nx, xs, kk) = true) (hp : am_pcd M i = pc) (k : az_K l dC dI tc M d n0 n1 Q p e s m args below meth c ad0 A nx lv (.inl x :: r) σ) : az_K l dC dI tc M d n0 n1 Q p e s m args below meth c ad0 A i lv (.inl x :: r) σ := by
  intro ad H locs ls hS
  have hd := am_oke_dec ho (fun a b c d h => by cases h)
  have hvs := hS.vs
  obtain ⟨hx, hr⟩ := hvs
  have hk := k ad H locs ls (hS.sk ⟨hx, hr⟩)
  rw [am_oke_nx ho rfl] at hk
  rw [hp]
  exact lv_i2c hB.1 hB.2.1 hd (am_i2c hs) hk
theorem zgk_i2l {x : Int} (hB : am_B dC dI tc M ad0 A p s m args meth c) (ho : am_oke M (pc, .i2l, nx, xs, kk) = true) (hp : am_pcd M i = pc) (k : az_K l dC dI tc M d n0 n1 Q p e s m args below meth c ad0 A nx lv (.inr (.inl x) :: r) σ) : az_K l dC dI tc M d n0 n1 Q p e s m args below meth c ad0 A i lv (.inl x :: r) σ := by
  intro ad H locs ls hS
  have hd := am_oke_dec ho (fun a b c d h => by cases h)
  have hvs := hS.vs
  obtain ⟨hx, hr⟩ := hvs
  have hk := k ad H locs ls (hS.sk ⟨am_i2lr hx, hr⟩)
  rw [am_oke_nx ho rfl] at hk
  rw [hp]
  exact lv_i2l hB.1 hB.2.1 hd (am_i2l hx) hk
theorem zgk_l2i {x : Int} (hs : -2147483648 ≤ x ∧ x ≤ 2147483647) (hB : am_B dC dI tc M ad0 A p s m args meth c) (ho : am_oke M (pc, .l2i, nx, xs, kk) = true) (hp : am_pcd M i = pc) (k : az_K l dC dI tc M d n0 n1 Q p e s m args below meth c ad0 A nx lv (.inl x :: r) σ) : az_K l dC dI tc M d n0 n1 Q p e s m args below meth c ad0 A i lv (.inr (.inl x) :: r) σ := by
  intro ad H locs ls hS
  have hd := am_oke_dec ho (fun a b c d h => by cases h)
  have hvs := hS.vs
  obtain ⟨hx, hr⟩ := hvs
  have hk := k ad H locs ls (hS.sk ⟨hs, hr⟩)
  rw [am_oke_nx ho rfl] at hk
  rw [hp]
  exact lv_l2i hB.1 hB.2.1 hd (am_l2i hs) hk
theorem zgk_dupi {x : Int} (hB : am_B dC dI tc M ad0 A p s m args meth c) (ho : am_oke M (pc, .dup, nx, xs, kk) = true) (hp : am_pcd M i = pc) (k : az_K l dC dI tc M d n0 n1 Q p e s m args below meth c ad0 A nx lv (.inl x :: .inl x :: r) σ) : az_K l dC dI tc M d n0 n1 Q p e s m args below meth c ad0 A i lv (.inl x :: r) σ := by
  intro ad H locs ls hS
  have hd := am_oke_dec ho (fun a b c d h => by cases h)
  have hvs := hS.vs
  obtain ⟨hx, hr⟩ := hvs
  have hk := k ad H locs ls (hS.sk ⟨hx, hx, hr⟩)
  rw [am_oke_nx ho rfl] at hk
  rw [hp]
  exact lv_dup hB.1 hB.2.1 hd rfl hk
theorem zgk_dupa {x : Option Nat} (hB : am_B dC dI tc M ad0 A p s m args meth c) (ho : am_oke M (pc, .dup, nx, xs, kk) = true) (hp : am_pcd M i = pc) (k : az_K l dC dI tc M d n0 n1 Q p e s m args below meth c ad0 A nx lv (.inr (.inr x) :: .inr (.inr x) :: r) σ) : az_K l dC dI tc M d n0 n1 Q p e s m args below meth c ad0 A i lv (.inr (.inr x) :: r) σ := by
  intro ad H locs ls hS
  have hd := am_oke_dec ho (fun a b c d h => by cases h)
  have hvs := hS.vs
  obtain ⟨hx, hr⟩ := hvs
  have hk := k ad H locs ls (hS.sk ⟨hx, hx, hr⟩)
  rw [am_oke_nx ho rfl] at hk
  rw [hp]
  exact lv_dup hB.1 hB.2.1 hd (am_catr ad x) hk
theorem zgk_dup2 {x : Int} {y : Option Nat} (hB : am_B dC dI tc M ad0 A p s m args meth c) (ho : am_oke M (pc, .dup2, nx, xs, kk) = true) (hp : am_pcd M i = pc) (k : az_K l dC dI tc M d n0 n1 Q p e s m args below meth c ad0 A nx lv (.inl x :: .inr (.inr y) :: .inl x :: .inr (.inr y) :: r) σ) : az_K l dC dI tc M d n0 n1 Q p e s m args below meth c ad0 A i lv (.inl x :: .inr (.inr y) :: r) σ := by
  intro ad H locs ls hS
  have hd := am_oke_dec ho (fun a b c d h => by cases h)
  have hvs := hS.vs
  obtain ⟨hx, hy, hr⟩ := hvs
  have hk := k ad H locs ls (hS.sk ⟨hx, hy, hx, hy, hr⟩)
  rw [am_oke_nx ho rfl] at hk
  rw [hp]
  exact lv_dup2_11 hB.1 hB.2.1 hd rfl (am_catr ad y) hk
theorem zgk_goto {o : Int} {t : Nat} (hB : am_B dC dI tc M ad0 A p s m args meth c) (ho : am_oke M (pc, .goto o, nx, [t], kk) = true) (hp : am_pcd M i = pc) (k : az_K l dC dI tc M d n0 n1 Q p e s m args below meth c ad0 A t lv (r) σ) : az_K l dC dI tc M d n0 n1 Q p e s m args below meth c ad0 A i lv (r) σ := by
  intro ad H locs ls hS
  have hd := am_oke_dec ho (fun a b c d h => by cases h)
  have hvs := hS.vs
  have hr := hvs
  have hk := k ad H locs ls (hS.sk hr)
  rw [hp]
  exact lv_goto hB.1 hB.2.1 hd (am_oke_t ho rfl) hk
theorem zgk_alen {x t len : Nat} (hx : x < σ.1) (hsh : am_at am_sh x = some (.inl (t, len))) (hB : am_B dC dI tc M ad0 A p s m args meth c) (ho : am_oke M (pc, .arraylength, nx, xs, kk) = true) (hp : am_pcd M i = pc) (k : az_K l dC dI tc M d n0 n1 Q p e s m args below meth c ad0 A nx lv (.inl (len : Int) :: r) σ) : az_K l dC dI tc M d n0 n1 Q p e s m args below meth c ad0 A i lv (.inr (.inr (some x)) :: r) σ := by
  intro ad H locs ls hS
  have hd := am_oke_dec ho (fun a b c d h => by cases h)
  have hvs := hS.vs
  obtain ⟨-, hr⟩ := hvs
  have hk := k ad H locs ls (hS.sk ⟨am_lenr hsh, hr⟩)
  rw [am_oke_nx ho rfl] at hk
  rw [hp]
  obtain ⟨ty, hty⟩ := am_tys_at (tc := tc) hsh
  exact va_alen hB.1 hB.2.1 hB.2.2.2.2.2.2.2.2.1 hS.2.2.2.1 x t (am_w_arr hx hsh) hty (v := Int32.ofInt (len : Int)) rfl hd hk
theorem zgk_iald {y : Int} {x len : Nat} (hs : 0 ≤ y ∧ y < (len : Int)) (hx : x < σ.1) (hsh : am_at am_sh x = some (.inl (0, len))) (hB : am_B dC dI tc M ad0 A p s m args meth c) (ho : am_oke M (pc, .iaload, nx, xs, kk) = true) (hp : am_pcd M i = pc) (k : az_K l dC dI tc M d n0 n1 Q p e s m args below meth c ad0 A nx lv (.inl (σ.2.2.1 x y) :: r) σ) : az_K l dC dI tc M d n0 n1 Q p e s m args below meth c ad0 A i lv (.inl y :: .inr (.inr (some x)) :: r) σ := by
  intro ad H locs ls hS
  have hd := am_oke_dec ho (fun a b c d h => by cases h)
  have hvs := hS.vs
  obtain ⟨hy, -, hr⟩ := hvs
  have hk := k ad H locs ls (hS.sk ⟨(hS.hf.2 x hx).2.1 y, hr⟩)
  rw [am_oke_nx ho rfl] at hk
  rw [hp]
  refine va_iald hB.1 hB.2.1 hB.2.2.2.2.2.2.2.2.1 hS.2.2.2.1 x 0 (am_w_arr hx hsh) rfl (am_in hy hs) hd ?_
  rw [am_cl hy, Int.toNat_of_nonneg hs.1]
  exact hk
theorem zgk_cald {y : Int} {x len : Nat} (hs : 0 ≤ y ∧ y < (len : Int)) (hx : x < σ.1) (hsh : am_at am_sh x = some (.inl (1, len))) (hB : am_B dC dI tc M ad0 A p s m args meth c) (ho : am_oke M (pc, .caload, nx, xs, kk) = true) (hp : am_pcd M i = pc) (k : az_K l dC dI tc M d n0 n1 Q p e s m args below meth c ad0 A nx lv (.inl (σ.2.2.1 x y) :: r) σ) : az_K l dC dI tc M d n0 n1 Q p e s m args below meth c ad0 A i lv (.inl y :: .inr (.inr (some x)) :: r) σ := by
  intro ad H locs ls hS
  have hd := am_oke_dec ho (fun a b c d h => by cases h)
  have hvs := hS.vs
  obtain ⟨hy, -, hr⟩ := hvs
  have hk := k ad H locs ls (hS.sk ⟨(hS.hf.2 x hx).2.1 y, hr⟩)
  rw [am_oke_nx ho rfl] at hk
  rw [hp]
  refine va_cald hB.1 hB.2.1 hB.2.2.2.2.2.2.2.2.1 hS.2.2.2.1 x 1 (am_w_arr hx hsh) rfl (am_in hy hs) hd ?_
  rw [am_cl hy, Int.toNat_of_nonneg hs.1]
  exact hk
theorem zgk_zald {y : Int} {x len : Nat} (hs : 0 ≤ y ∧ y < (len : Int)) (hx : x < σ.1) (hsh : am_at am_sh x = some (.inl (2, len))) (hB : am_B dC dI tc M ad0 A p s m args meth c) (ho : am_oke M (pc, .baload, nx, xs, kk) = true) (hp : am_pcd M i = pc) (k : az_K l dC dI tc M d n0 n1 Q p e s m args below meth c ad0 A nx lv (.inl (σ.2.2.1 x y) :: r) σ) : az_K l dC dI tc M d n0 n1 Q p e s m args below meth c ad0 A i lv (.inl y :: .inr (.inr (some x)) :: r) σ := by
  intro ad H locs ls hS
  have hd := am_oke_dec ho (fun a b c d h => by cases h)
  have hvs := hS.vs
  obtain ⟨hy, -, hr⟩ := hvs
  have hk := k ad H locs ls (hS.sk ⟨(hS.hf.2 x hx).2.1 y, hr⟩)
  rw [am_oke_nx ho rfl] at hk
  rw [hp]
  refine va_zald hB.1 hB.2.1 hB.2.2.2.2.2.2.2.2.1 hS.2.2.2.1 x 2 (am_w_arr hx hsh) rfl (am_in hy hs) hd ?_
  rw [am_cl hy, Int.toNat_of_nonneg hs.1]
  exact hk
theorem zgk_geti {idx ci j x kd : Nat} (hx : x < σ.1) (hsh : am_at am_sh x = some (.inr ci)) (hkd : am_kd ci j = some kd) (hk1 : kd ≠ 1) (hB : am_B dC dI tc M ad0 A p s m args meth c) (ho : am_oke M (pc, .getfield idx, nx, [ci, j], kk) = true) (hp : am_pcd M i = pc) (k : az_K l dC dI tc M d n0 n1 Q p e s m args below meth c ad0 A nx lv (.inl (σ.2.1 x j) :: r) σ) : az_K l dC dI tc M d n0 n1 Q p e s m args below meth c ad0 A i lv (.inr (.inr (some x)) :: r) σ := by
  intro ad H locs ls hS
  have hd := am_oke_dec ho (fun a b c d h => by cases h)
  have hvs := hS.vs
  obtain ⟨-, hr⟩ := hvs
  have hk := k ad H locs ls (hS.sk ⟨(hS.hf.2 x hx).1 j, hr⟩)
  rw [am_oke_nx ho rfl] at hk
  rw [hp]
  obtain ⟨q, hq, hj, hT, hlk⟩ := am_lk_get (am_oke_lk ho)
  obtain ⟨t1, t2, t3, t4⟩ := am_Tc ci q hq
  obtain ⟨ks, hks, hkj⟩ := am_kd_at hkd
  refine va_get (D := (dC, dI)) (C := q.1) (T := q.2.1) (N := q.2.2) hB.1 hB.2.1 hB.2.2.2.2.2.1 t1 hB.2.2.2.2.1 hB.2.2.2.2.2.2.2.2.1 hS.2.2.2.1 x (am_w_obj hx hsh hks) (by rw [← am_at_eq]; exact hq) j hj (hB.2.2.2.2.2.1 _ hlk) (fun z hz => by rw [hT] at hz; exact hz) (am_fs_at hkj) hd ?_
  have e1 : am_f ad σ x j kd = .int (Int32.ofInt (σ.2.1 x j)) := by unfold am_f; rw [if_neg hk1]
  rw [e1]
  exact hk
theorem zgk_geta {idx ci j x kd : Nat} (hx : x < σ.1) (hsh : am_at am_sh x = some (.inr ci)) (hkd : am_kd ci j = some kd) (hk1 : kd = 1) (hB : am_B dC dI tc M ad0 A p s m args meth c) (ho : am_oke M (pc, .getfield idx, nx, [ci, j], kk) = true) (hp : am_pcd M i = pc) (k : az_K l dC dI tc M d n0 n1 Q p e s m args below meth c ad0 A nx lv (.inr (.inr (σ.2.2.2 x j)) :: r) σ) : az_K l dC dI tc M d n0 n1 Q p e s m args below meth c ad0 A i lv (.inr (.inr (some x)) :: r) σ := by
  intro ad H locs ls hS
  have hd := am_oke_dec ho (fun a b c d h => by cases h)
  have hvs := hS.vs
  obtain ⟨-, hr⟩ := hvs
  have hk := k ad H locs ls (hS.sk ⟨fun q hq => Or.inl ((hS.hf.2 x hx).2.2 j q hq), hr⟩)
  rw [am_oke_nx ho rfl] at hk
  rw [hp]
  obtain ⟨q, hq, hj, hT, hlk⟩ := am_lk_get (am_oke_lk ho)
  obtain ⟨t1, t2, t3, t4⟩ := am_Tc ci q hq
  obtain ⟨ks, hks, hkj⟩ := am_kd_at hkd
  refine va_get (D := (dC, dI)) (C := q.1) (T := q.2.1) (N := q.2.2) hB.1 hB.2.1 hB.2.2.2.2.2.1 t1 hB.2.2.2.2.1 hB.2.2.2.2.2.2.2.2.1 hS.2.2.2.1 x (am_w_obj hx hsh hks) (by rw [← am_at_eq]; exact hq) j hj (hB.2.2.2.2.2.1 _ hlk) (fun z hz => by rw [hT] at hz; exact hz) (am_fs_at hkj) hd ?_
  have e1 : am_f ad σ x j kd = am_v ad (.inr (.inr (σ.2.2.2 x j))) := by unfold am_f; rw [if_pos hk1]
  rw [e1]
  exact hk
theorem zgk_max {idx : Nat} {x y : Int} (hs : 0 < d ∧ r.length ≤ 8) (hc1 : σ.1 ≤ n1) (hB : am_B dC dI tc M ad0 A p s m args meth c) (ho : am_oke M (pc, .invokestatic idx, nx, [], kk) = true) (hp : am_pcd M i = pc) (k : az_K l dC dI tc M d n0 n1 Q p e s m args below meth c ad0 A nx lv (.inl (if x < y then y else x) :: r) σ) : az_K l dC dI tc M d n0 n1 Q p e s m args below meth c ad0 A i lv (.inl y :: .inl x :: r) σ := by
  intro ad H locs ls hS
  have hd := am_oke_dec ho (fun a b c d h => by cases h)
  have hvs := hS.vs
  obtain ⟨hy, hx, hr⟩ := hvs
  have hk := k ad H locs ls (hS.sk ⟨by split <;> assumption, hr⟩)
  rw [am_oke_nx ho rfl] at hk
  rw [hp]
  have hl := am_oke_lk ho
  have hl := am_in_tb hl
  have hn0 := hS.2.1
  refine va_mmax (R := az_rm d n0 n1) hB.1 hB.2.1 (hB.2.2.2.1.trans hS.lh.1.symm) hB.2.2.2.2.1 (hB.2.2.2.2.2.1 _ hl) (hB.2.2.2.2.2.1 _ am_Tmax.1) (hB.2.2.2.2.2.1 _ am_Tmax.2.1) (hB.2.2.2.2.2.1 _ am_Tmax.2.2) hs.1 ?_ ?_ ?_ hd ?_
  · have := am_cats ad r
    show _ ≤ 35 * d
    omega
  · show σ.1 - n0 ≤ n1 - n0 + 1
    omega
  · show am_sz σ.1 - am_sz n0 ≤ am_sz n1 - am_sz n0 + 6
    have := am_sz_mono hc1
    omega
  · have e1 : (if Int32.ofInt x < Int32.ofInt y then Int32.ofInt y else Int32.ofInt x) = Int32.ofInt (if x < y then y else x) := by
      by_cases q : x < y
      · rw [if_pos q, if_pos ((am_lt hx hy).mpr q)]
      · rw [if_neg q, if_neg (fun z => q ((am_lt hx hy).mp z))]
    rw [e1]
    exact hk
theorem zgk_obj {idx x : Nat} (hs : 0 < d ∧ r.length ≤ 8) (hB : am_B dC dI tc M ad0 A p s m args meth c) (ho : am_oke M (pc, .invokespecial idx, nx, [], kk) = true) (hp : am_pcd M i = pc) (k : az_K l dC dI tc M d n0 n1 Q p e s m args below meth c ad0 A nx lv (r) σ) : az_K l dC dI tc M d n0 n1 Q p e s m args below meth c ad0 A i lv (.inr (.inr (some x)) :: r) σ := by
  intro ad H locs ls hS
  have hd := am_oke_dec ho (fun a b c d h => by cases h)
  have hvs := hS.vs
  obtain ⟨-, hr⟩ := hvs
  have hk := k ad H locs ls (hS.sk hr)
  rw [am_oke_nx ho rfl] at hk
  rw [hp]
  have hl := am_oke_lk ho
  have hl := am_in_tb hl
  refine W.objInit hB.1 hB.2.1 hB.2.2.2.2.1 (hB.2.2.2.2.2.1 _ hl) (hB.2.2.2.2.2.1 _ am_Tobj.1) (hB.2.2.2.2.2.1 _ am_Tobj.2) rfl (hS.lh.1.trans hB.2.2.2.1.symm) rfl hd hs.1 ?_ hk
  have := am_cats ad r
  show 2 * 0 + _ + 12 ≤ 35 * d
  omega
theorem zgk_istoren {q : Fin 4} {x : Int} {lv' : am_L} (hg : am_sto lv q.val (.inl x) = some lv') (hB : am_B dC dI tc M ad0 A p s m args meth c) (ho : am_oke M (pc, .istore_n q, nx, xs, kk) = true) (hp : am_pcd M i = pc) (k : az_K l dC dI tc M d n0 n1 Q p e s m args below meth c ad0 A nx lv' r σ) : az_K l dC dI tc M d n0 n1 Q p e s m args below meth c ad0 A i lv (.inl x :: r) σ := by
  intro ad H locs ls hS
  have hd := am_oke_dec ho (fun a b c d h => by cases h)
  obtain ⟨hx, hr⟩ := hS.vs
  rw [hp]
  refine lv_istore_n hB.1 hB.2.1 hd rfl hS.lh.has (Nat.lt_of_lt_of_le (am_sto_spec hg).1 hS.lh.2.2.1) rfl (fun ls' hl => ?_)
  have hk := k ad H locs ls' (hS.sto hr hg hx hl)
  rw [am_oke_nx ho rfl] at hk
  exact hk
theorem zgk_istore {q : Nat} {x : Int} {lv' : am_L} (hg : am_sto lv q (.inl x) = some lv') (hB : am_B dC dI tc M ad0 A p s m args meth c) (ho : am_oke M (pc, .istore q, nx, xs, kk) = true) (hp : am_pcd M i = pc) (k : az_K l dC dI tc M d n0 n1 Q p e s m args below meth c ad0 A nx lv' r σ) : az_K l dC dI tc M d n0 n1 Q p e s m args below meth c ad0 A i lv (.inl x :: r) σ := by
  intro ad H locs ls hS
  have hd := am_oke_dec ho (fun a b c d h => by cases h)
  obtain ⟨hx, hr⟩ := hS.vs
  rw [hp]
  refine lv_istore hB.1 hB.2.1 hd hS.lh.has (Nat.lt_of_lt_of_le (am_sto_spec hg).1 hS.lh.2.2.1) rfl (fun ls' hl => ?_)
  have hk := k ad H locs ls' (hS.sto hr hg hx hl)
  rw [am_oke_nx ho rfl] at hk
  exact hk
theorem zgk_astoren {q : Fin 4} {x : Nat} {lv' : am_L} (hg : am_sto lv q.val (.inr (.inr (some x))) = some lv') (hB : am_B dC dI tc M ad0 A p s m args meth c) (ho : am_oke M (pc, .astore_n q, nx, xs, kk) = true) (hp : am_pcd M i = pc) (k : az_K l dC dI tc M d n0 n1 Q p e s m args below meth c ad0 A nx lv' r σ) : az_K l dC dI tc M d n0 n1 Q p e s m args below meth c ad0 A i lv (.inr (.inr (some x)) :: r) σ := by
  intro ad H locs ls hS
  have hd := am_oke_dec ho (fun a b c d h => by cases h)
  obtain ⟨hx, hr⟩ := hS.vs
  rw [hp]
  refine lv_astore_n hB.1 hB.2.1 hd rfl hS.lh.has (Nat.lt_of_lt_of_le (am_sto_spec hg).1 hS.lh.2.2.1) rfl (fun ls' hl => ?_)
  have hk := k ad H locs ls' (hS.sto hr hg hx hl)
  rw [am_oke_nx ho rfl] at hk
  exact hk
theorem zgk_astore {q : Nat} {x : Nat} {lv' : am_L} (hg : am_sto lv q (.inr (.inr (some x))) = some lv') (hB : am_B dC dI tc M ad0 A p s m args meth c) (ho : am_oke M (pc, .astore q, nx, xs, kk) = true) (hp : am_pcd M i = pc) (k : az_K l dC dI tc M d n0 n1 Q p e s m args below meth c ad0 A nx lv' r σ) : az_K l dC dI tc M d n0 n1 Q p e s m args below meth c ad0 A i lv (.inr (.inr (some x)) :: r) σ := by
  intro ad H locs ls hS
  have hd := am_oke_dec ho (fun a b c d h => by cases h)
  obtain ⟨hx, hr⟩ := hS.vs
  rw [hp]
  refine lv_astore hB.1 hB.2.1 hd hS.lh.has (Nat.lt_of_lt_of_le (am_sto_spec hg).1 hS.lh.2.2.1) rfl (fun ls' hl => ?_)
  have hk := k ad H locs ls' (hS.sto hr hg hx hl)
  rw [am_oke_nx ho rfl] at hk
  exact hk
theorem zgk_iinc {q : Nat} {x n : Int} {lv' : am_L} (hs : -2147483648 ≤ x + n ∧ x + n ≤ 2147483647) (hg0 : am_get lv q = some (.inl x)) (hg : am_sto lv q (.inl (x + n)) = some lv') (hB : am_B dC dI tc M ad0 A p s m args meth c) (ho : am_oke M (pc, .iinc q n, nx, xs, kk) = true) (hp : am_pcd M i = pc) (k : az_K l dC dI tc M d n0 n1 Q p e s m args below meth c ad0 A nx lv' r σ) : az_K l dC dI tc M d n0 n1 Q p e s m args below meth c ad0 A i lv r σ := by
  intro ad H locs ls hS
  have hd := am_oke_dec ho (fun a b c d h => by cases h)
  rw [hp]
  obtain ⟨kq, hkq⟩ := List.getElem?_of_mem (am_pl_mem (ad := ad) hg0)
  refine lv_iinc hB.1 hB.2.1 hd hS.lh.has hkq (Int32.ofInt_add _ _).symm (Nat.lt_of_lt_of_le (am_sto_spec hg).1 hS.lh.2.2.1) rfl (fun ls' hl => ?_)
  have hk := k ad H locs ls' (hS.sto hS.vs hg hs hl)
  rw [am_oke_nx ho rfl] at hk
  exact hk
end AmGo


section AmGo2
variable {l : Launch} {dC : Nat → ClassId} {dI : Nat → Nat → Nat} {tc : Nat → ClassId} {M : am_M} {d n0 n1 : Nat} {Q : az_T} {i : Nat} {lv : am_L} {st : List am_V} {σ : am_H}
variable {p : Program} {e : Env} {s : State} {m : MethodId} {args : Array Value} {below : List Frame} {meth : Method} {c : Code} {ad0 : Nat → Nat} {A : Nat → Prop}
variable {pc nx : Nat} {ins : Instr} {xs : List Nat} {kk : Int} {r : List am_V}
theorem zgk_iast {x y : Int} {a len : Nat} (hs : 0 ≤ y ∧ y < (len : Int))  (ha : a < σ.1) (hsh : am_at am_sh a = some (.inl (0, len))) (hB : am_B dC dI tc M ad0 A p s m args meth c) (ho : am_oke M (pc, .iastore, nx, xs, kk) = true) (hp : am_pcd M i = pc) (k : az_K l dC dI tc M d n0 n1 Q p e s m args below meth c ad0 A nx lv r (σ.1, σ.2.1, am_u3 σ.2.2.1 a y x, σ.2.2.2)) : az_K l dC dI tc M d n0 n1 Q p e s m args below meth c ad0 A i lv (.inl x :: .inl y :: .inr (.inr (some a)) :: r) σ := by
  intro ad H locs ls hS
  have hd := am_oke_dec ho (fun a b c d h => by cases h)
  obtain ⟨hx, hy, -, hr⟩ := hS.vs
  rw [hp]
  refine va_iast hB.1 hB.2.1 hB.2.2.2.2.2.2.2.2.1 hS.2.2.2.1 hS.2.2.2.2.1 hS.2.2.2.2.2.1 a 0 (am_w_arr ha hsh) rfl (am_in hy hs) hd (fun H1 locs1 hP1 hD1 hS1 => ?_)
  rw [am_cl hy, am_put_arr hs.1 ha hsh] at hP1 hD1
  have hk := k ad H1 locs1 ls ⟨hS.1, hS.2.1, ⟨am_hf_u3 hS.hf hx, hr, hS.2.2.1.2.2⟩, hP1, hD1, hS1, hS.lh⟩
  rw [am_oke_nx ho rfl] at hk
  exact hk
theorem zgk_cast {x y : Int} {a len : Nat} (hs : 0 ≤ y ∧ y < (len : Int)) (hs2 : 0 ≤ x ∧ x < 65536) (ha : a < σ.1) (hsh : am_at am_sh a = some (.inl (1, len))) (hB : am_B dC dI tc M ad0 A p s m args meth c) (ho : am_oke M (pc, .castore, nx, xs, kk) = true) (hp : am_pcd M i = pc) (k : az_K l dC dI tc M d n0 n1 Q p e s m args below meth c ad0 A nx lv r (σ.1, σ.2.1, am_u3 σ.2.2.1 a y x, σ.2.2.2)) : az_K l dC dI tc M d n0 n1 Q p e s m args below meth c ad0 A i lv (.inl x :: .inl y :: .inr (.inr (some a)) :: r) σ := by
  intro ad H locs ls hS
  have hd := am_oke_dec ho (fun a b c d h => by cases h)
  obtain ⟨hx, hy, -, hr⟩ := hS.vs
  rw [hp]
  refine va_cast hB.1 hB.2.1 hB.2.2.2.2.2.2.2.2.1 hS.2.2.2.1 hS.2.2.2.2.1 hS.2.2.2.2.2.1 a 1 (am_w_arr ha hsh) rfl (am_in hy hs) hd (fun H1 locs1 hP1 hD1 hS1 => ?_)
  rw [am_cl hy, am_nac hs2, am_put_arr hs.1 ha hsh] at hP1 hD1
  have hk := k ad H1 locs1 ls ⟨hS.1, hS.2.1, ⟨am_hf_u3 hS.hf hx, hr, hS.2.2.1.2.2⟩, hP1, hD1, hS1, hS.lh⟩
  rw [am_oke_nx ho rfl] at hk
  exact hk
theorem zgk_zast {x y : Int} {a len : Nat} (hs : 0 ≤ y ∧ y < (len : Int)) (hs2 : x = 0 ∨ x = 1) (ha : a < σ.1) (hsh : am_at am_sh a = some (.inl (2, len))) (hB : am_B dC dI tc M ad0 A p s m args meth c) (ho : am_oke M (pc, .bastore, nx, xs, kk) = true) (hp : am_pcd M i = pc) (k : az_K l dC dI tc M d n0 n1 Q p e s m args below meth c ad0 A nx lv r (σ.1, σ.2.1, am_u3 σ.2.2.1 a y x, σ.2.2.2)) : az_K l dC dI tc M d n0 n1 Q p e s m args below meth c ad0 A i lv (.inl x :: .inl y :: .inr (.inr (some a)) :: r) σ := by
  intro ad H locs ls hS
  have hd := am_oke_dec ho (fun a b c d h => by cases h)
  obtain ⟨hx, hy, -, hr⟩ := hS.vs
  rw [hp]
  refine va_zast hB.1 hB.2.1 hB.2.2.2.2.2.2.2.2.1 hS.2.2.2.1 hS.2.2.2.2.1 hS.2.2.2.2.2.1 a 2 (am_w_arr ha hsh) rfl (am_in hy hs) hd (fun H1 locs1 hP1 hD1 hS1 => ?_)
  rw [am_cl hy, am_naz hs2, am_put_arr hs.1 ha hsh] at hP1 hD1
  have hk := k ad H1 locs1 ls ⟨hS.1, hS.2.1, ⟨am_hf_u3 hS.hf hx, hr, hS.2.2.1.2.2⟩, hP1, hD1, hS1, hS.lh⟩
  rw [am_oke_nx ho rfl] at hk
  exact hk
theorem zgk_put {idx ci j a kd : Nat} {v : am_V} {σ' : am_H} (ha : a < σ.1) (hsh : am_at am_sh a = some (.inr ci)) (hkd : am_kd ci j = some kd) (h1 : σ'.1 = σ.1) (hv : ∀ ad, am_f ad σ' a j kd = am_v ad v)
    (hne : ∀ b q, b ≠ a ∨ q ≠ j → σ'.2.1 b q = σ.2.1 b q ∧ σ'.2.2.2 b q = σ.2.2.2 b q) (hg3 : σ'.2.2.1 = σ.2.2.1) (hhf : am_hf σ → am_vf σ.1 v → am_hf σ') (hfit : ∀ (ad : Nat → Nat) (ty : FieldType), am_tyk kd ty = true → narrow ty (am_v ad v) = am_v ad v ∧ fits ty (am_v ad v) = true)
    (hB : am_B dC dI tc M ad0 A p s m args meth c) (ho : am_oke M (pc, .putfield idx, nx, [ci, j], kk) = true) (hp : am_pcd M i = pc) (k : az_K l dC dI tc M d n0 n1 Q p e s m args below meth c ad0 A nx lv r σ') : az_K l dC dI tc M d n0 n1 Q p e s m args below meth c ad0 A i lv (v :: .inr (.inr (some a)) :: r) σ := by
  intro ad H locs ls hS
  have hd := am_oke_dec ho (fun a b c d h => by cases h)
  obtain ⟨hx, -, hr⟩ := hS.vs
  rw [hp]
  obtain ⟨q, hq, hj, hT, hlk, hfin⟩ := am_lk_put (am_oke_lk ho)
  obtain ⟨t1, ⟨ks2, hks2, hlen, htk⟩, t3, t4⟩ := am_Tc ci q hq
  obtain ⟨ks, hks, hkj⟩ := am_kd_at hkd
  have hke : ks = ks2 := Option.some.inj (hks.symm.trans hks2)
  subst hke
  have hcq : classes[ci]? = some q := by rw [← am_at_eq]; exact hq
  have hw : (am_w ad tc σ).set a (ad a, .inr (ci, (am_fs ad σ a ks).set j (am_v ad v))) = am_w ad tc σ' := by
    refine am_w_put ha h1 ?_ (fun b hb => am_c_same (fun q => (hne b q (Or.inl hb)).1) (fun q => by rw [hg3]) (fun q => (hne b q (Or.inl hb)).2))
    unfold am_c
    rw [hsh]
    simp only [hks, Option.getD_some]
    rw [am_fs_set (σ := σ) (σ' := σ') hkj (hv ad) (fun i kd hi => by simp only [am_f, (hne a i (Or.inr hi)).1, (hne a i (Or.inr hi)).2])]
  have hfin2 : ∀ (H1 : Heap) (locs1 : List Loc), va_P (dC, dI) classes ((am_w ad tc σ).set a (ad a, .inr (ci, (am_fs ad σ a ks).set j (am_v ad v)))) H1 → va_D A ((am_w ad tc σ).set a (ad a, .inr (ci, (am_fs ad σ a ks).set j (am_v ad v)))) → va_S A s.heap H1 locs1 → W p l e (az_rm d n0 n1) s m args below meth c H1 locs1 (σ.1 - n0) (am_sz σ.1 - am_sz n0) (Q below args s ad0 A) (F0 m (pc + 3) ls (r.map (am_v ad))) := by
    intro H1 locs1 hP1 hD1 hS1
    rw [hw] at hP1 hD1
    have hk := k ad H1 locs1 ls ⟨hS.1, by rw [h1]; exact hS.2.1, ⟨hhf hS.hf hx, by rw [h1]; exact hr, by rw [h1]; exact hS.2.2.1.2.2⟩, hP1, hD1, hS1, hS.lh⟩
    rw [am_oke_nx ho rfl, h1] at hk
    exact hk
  obtain ⟨f1, f2⟩ := hfit ad _ (htk j kd hkj)
  rcases hfin with f | ⟨f, f3, f4⟩
  · exact va_put (D := (dC, dI)) (C := q.1) (T := q.2.1) (N := q.2.2) hB.1 hB.2.1 hB.2.2.2.2.2.1 t1 (am_ty ci) t3 t4 hB.2.2.2.2.1 hB.2.2.2.2.2.2.2.2.1 hS.2.2.2.1 hS.2.2.2.2.1 hS.2.2.2.2.2.1 a (am_w_obj ha hsh hks) hcq j hj (hB.2.2.2.2.2.1 _ hlk) (fun z hz => by rw [hT] at hz; exact hz) f (t3 j hj) f1 f2 (by simp only [am_fs, List.length_mapIdx]; omega) hd hfin2
  · exact va_putF (D := (dC, dI)) (C := q.1) (T := q.2.1) (N := q.2.2) hB.1 hB.2.1 hB.2.2.2.2.2.1 t1 (am_ty ci) t3 t4 hB.2.2.2.2.1 hB.2.2.2.2.2.2.2.2.1 hS.2.2.2.1 hS.2.2.2.2.1 hS.2.2.2.2.2.1 a (am_w_obj ha hsh hks) hcq j hj (hB.2.2.2.2.2.1 _ hlk) (fun z hz => by rw [hT] at hz; exact hz) f (hB.2.2.2.2.2.2.2.1.trans f3) (hT.trans f4) (t3 j hj) f1 f2 (by simp only [am_fs, List.length_mapIdx]; omega) hd hfin2
theorem zgk_puti {idx ci j a : Nat} {x : Int} (ha : a < σ.1) (hsh : am_at am_sh a = some (.inr ci)) (hkd : am_kd ci j = some 0)
    (hB : am_B dC dI tc M ad0 A p s m args meth c) (ho : am_oke M (pc, .putfield idx, nx, [ci, j], kk) = true) (hp : am_pcd M i = pc) (k : az_K l dC dI tc M d n0 n1 Q p e s m args below meth c ad0 A nx lv r (σ.1, am_u1 σ.2.1 a j x, σ.2.2.1, σ.2.2.2)) : az_K l dC dI tc M d n0 n1 Q p e s m args below meth c ad0 A i lv (.inl x :: .inr (.inr (some a)) :: r) σ :=
  zgk_put (σ' := (σ.1, am_u1 σ.2.1 a j x, σ.2.2.1, σ.2.2.2)) ha hsh hkd rfl (fun ad => by simp [am_f, am_v, am_u1_eq]) (fun b q h => ⟨am_u1_ne h, rfl⟩) rfl (fun h1 h2 => am_hf_u1 h1 h2) (fun ad ty h => by cases ty <;> simp_all [am_tyk, am_v, narrow, fits]) hB ho hp k
theorem zgk_putz {idx ci j a : Nat} {x : Int} (hs : x = 0 ∨ x = 1) (ha : a < σ.1) (hsh : am_at am_sh a = some (.inr ci)) (hkd : am_kd ci j = some 2)
    (hB : am_B dC dI tc M ad0 A p s m args meth c) (ho : am_oke M (pc, .putfield idx, nx, [ci, j], kk) = true) (hp : am_pcd M i = pc) (k : az_K l dC dI tc M d n0 n1 Q p e s m args below meth c ad0 A nx lv r (σ.1, am_u1 σ.2.1 a j x, σ.2.2.1, σ.2.2.2)) : az_K l dC dI tc M d n0 n1 Q p e s m args below meth c ad0 A i lv (.inl x :: .inr (.inr (some a)) :: r) σ :=
  zgk_put (σ' := (σ.1, am_u1 σ.2.1 a j x, σ.2.2.1, σ.2.2.2)) ha hsh hkd rfl (fun ad => by simp [am_f, am_v, am_u1_eq]) (fun b q h => ⟨am_u1_ne h, rfl⟩) rfl (fun h1 h2 => am_hf_u1 h1 h2) (fun ad ty h => by
    have e : ty = .boolean := by cases ty <;> simp_all [am_tyk]
    subst e
    rcases hs with rfl | rfl
    · exact ⟨(by decide : narrow .boolean (.int (Int32.ofInt 0)) = .int (Int32.ofInt 0)), (by decide : fits .boolean (.int (Int32.ofInt 0)) = true)⟩
    · exact ⟨(by decide : narrow .boolean (.int (Int32.ofInt 1)) = .int (Int32.ofInt 1)), (by decide : fits .boolean (.int (Int32.ofInt 1)) = true)⟩) hB ho hp k
theorem zgk_puta {idx ci j a b : Nat} (ha : a < σ.1) (hb : b < σ.1) (hsh : am_at am_sh a = some (.inr ci)) (hkd : am_kd ci j = some 1)
    (hB : am_B dC dI tc M ad0 A p s m args meth c) (ho : am_oke M (pc, .putfield idx, nx, [ci, j], kk) = true) (hp : am_pcd M i = pc) (k : az_K l dC dI tc M d n0 n1 Q p e s m args below meth c ad0 A nx lv r (σ.1, σ.2.1, σ.2.2.1, am_u2 σ.2.2.2 a j (some b))) : az_K l dC dI tc M d n0 n1 Q p e s m args below meth c ad0 A i lv (.inr (.inr (some b)) :: .inr (.inr (some a)) :: r) σ :=
  zgk_put (σ' := (σ.1, σ.2.1, σ.2.2.1, am_u2 σ.2.2.2 a j (some b))) ha hsh hkd rfl (fun ad => by simp [am_f, am_u2_eq]) (fun b q h => ⟨rfl, am_u2_ne h⟩) rfl (fun h1 h2 => am_hf_u2 h1 (fun q hq => by cases hq; exact hb)) (fun ad ty h => by cases ty <;> simp_all [am_tyk, am_v, narrow, fits]) hB ho hp k
theorem zgk_ifeq {o : Int} {t : Nat} {x : Int} (hB : am_B dC dI tc M ad0 A p s m args meth c) (ho : am_oke M (pc, .ifCond .eq o, nx, [t], kk) = true) (hp : am_pcd M i = pc) (kt : x = 0 → az_K l dC dI tc M d n0 n1 Q p e s m args below meth c ad0 A t lv r σ) (kf : ¬ (x = 0) → az_K l dC dI tc M d n0 n1 Q p e s m args below meth c ad0 A nx lv r σ) : az_K l dC dI tc M d n0 n1 Q p e s m args below meth c ad0 A i lv (.inl x :: r) σ := by
  intro ad H locs ls hS
  have hd := am_oke_dec ho (fun a b c d h => by cases h)
  obtain ⟨hx, hr⟩ := hS.vs
  rw [hp]
  refine lv_if_eq hB.1 hB.2.1 hd (am_oke_t ho rfl) (fun z => kt ((am_eq0 hx).mp z) ad H locs ls (hS.sk hr)) (fun z => ?_)
  have hk := kf ((not_congr (am_eq0 hx)).mp z) ad H locs ls (hS.sk hr)
  rw [am_oke_nx ho rfl] at hk
  exact hk
theorem zgk_ifne {o : Int} {t : Nat} {x : Int} (hB : am_B dC dI tc M ad0 A p s m args meth c) (ho : am_oke M (pc, .ifCond .ne o, nx, [t], kk) = true) (hp : am_pcd M i = pc) (kt : ¬ x = 0 → az_K l dC dI tc M d n0 n1 Q p e s m args below meth c ad0 A t lv r σ) (kf : ¬ (¬ x = 0) → az_K l dC dI tc M d n0 n1 Q p e s m args below meth c ad0 A nx lv r σ) : az_K l dC dI tc M d n0 n1 Q p e s m args below meth c ad0 A i lv (.inl x :: r) σ := by
  intro ad H locs ls hS
  have hd := am_oke_dec ho (fun a b c d h => by cases h)
  obtain ⟨hx, hr⟩ := hS.vs
  rw [hp]
  refine lv_if_ne hB.1 hB.2.1 hd (am_oke_t ho rfl) (fun z => kt ((not_congr (am_eq0 hx)).mp z) ad H locs ls (hS.sk hr)) (fun z => ?_)
  have hk := kf (fun q => q ((am_eq0 hx).mp z)) ad H locs ls (hS.sk hr)
  rw [am_oke_nx ho rfl] at hk
  exact hk
theorem zgk_iflt {o : Int} {t : Nat} {x : Int} (hB : am_B dC dI tc M ad0 A p s m args meth c) (ho : am_oke M (pc, .ifCond .lt o, nx, [t], kk) = true) (hp : am_pcd M i = pc) (kt : x < 0 → az_K l dC dI tc M d n0 n1 Q p e s m args below meth c ad0 A t lv r σ) (kf : ¬ (x < 0) → az_K l dC dI tc M d n0 n1 Q p e s m args below meth c ad0 A nx lv r σ) : az_K l dC dI tc M d n0 n1 Q p e s m args below meth c ad0 A i lv (.inl x :: r) σ := by
  intro ad H locs ls hS
  have hd := am_oke_dec ho (fun a b c d h => by cases h)
  obtain ⟨hx, hr⟩ := hS.vs
  rw [hp]
  refine lv_if_lt hB.1 hB.2.1 hd (am_oke_t ho rfl) (fun z => kt ((am_lt0 hx).mp z) ad H locs ls (hS.sk hr)) (fun z => ?_)
  have hk := kf ((not_congr (am_lt0 hx)).mp z) ad H locs ls (hS.sk hr)
  rw [am_oke_nx ho rfl] at hk
  exact hk
theorem zgk_ifge {o : Int} {t : Nat} {x : Int} (hB : am_B dC dI tc M ad0 A p s m args meth c) (ho : am_oke M (pc, .ifCond .ge o, nx, [t], kk) = true) (hp : am_pcd M i = pc) (kt : 0 ≤ x → az_K l dC dI tc M d n0 n1 Q p e s m args below meth c ad0 A t lv r σ) (kf : ¬ (0 ≤ x) → az_K l dC dI tc M d n0 n1 Q p e s m args below meth c ad0 A nx lv r σ) : az_K l dC dI tc M d n0 n1 Q p e s m args below meth c ad0 A i lv (.inl x :: r) σ := by
  intro ad H locs ls hS
  have hd := am_oke_dec ho (fun a b c d h => by cases h)
  obtain ⟨hx, hr⟩ := hS.vs
  rw [hp]
  refine lv_if_ge hB.1 hB.2.1 hd (am_oke_t ho rfl) (fun z => kt ((am_0le hx).mp z) ad H locs ls (hS.sk hr)) (fun z => ?_)
  have hk := kf ((not_congr (am_0le hx)).mp z) ad H locs ls (hS.sk hr)
  rw [am_oke_nx ho rfl] at hk
  exact hk
theorem zgk_ifgt {o : Int} {t : Nat} {x : Int} (hB : am_B dC dI tc M ad0 A p s m args meth c) (ho : am_oke M (pc, .ifCond .gt o, nx, [t], kk) = true) (hp : am_pcd M i = pc) (kt : 0 < x → az_K l dC dI tc M d n0 n1 Q p e s m args below meth c ad0 A t lv r σ) (kf : ¬ (0 < x) → az_K l dC dI tc M d n0 n1 Q p e s m args below meth c ad0 A nx lv r σ) : az_K l dC dI tc M d n0 n1 Q p e s m args below meth c ad0 A i lv (.inl x :: r) σ := by
  intro ad H locs ls hS
  have hd := am_oke_dec ho (fun a b c d h => by cases h)
  obtain ⟨hx, hr⟩ := hS.vs
  rw [hp]
  refine lv_if_gt hB.1 hB.2.1 hd (am_oke_t ho rfl) (fun z => kt ((am_0lt hx).mp z) ad H locs ls (hS.sk hr)) (fun z => ?_)
  have hk := kf ((not_congr (am_0lt hx)).mp z) ad H locs ls (hS.sk hr)
  rw [am_oke_nx ho rfl] at hk
  exact hk
theorem zgk_ifle {o : Int} {t : Nat} {x : Int} (hB : am_B dC dI tc M ad0 A p s m args meth c) (ho : am_oke M (pc, .ifCond .le o, nx, [t], kk) = true) (hp : am_pcd M i = pc) (kt : x ≤ 0 → az_K l dC dI tc M d n0 n1 Q p e s m args below meth c ad0 A t lv r σ) (kf : ¬ (x ≤ 0) → az_K l dC dI tc M d n0 n1 Q p e s m args below meth c ad0 A nx lv r σ) : az_K l dC dI tc M d n0 n1 Q p e s m args below meth c ad0 A i lv (.inl x :: r) σ := by
  intro ad H locs ls hS
  have hd := am_oke_dec ho (fun a b c d h => by cases h)
  obtain ⟨hx, hr⟩ := hS.vs
  rw [hp]
  refine lv_if_le hB.1 hB.2.1 hd (am_oke_t ho rfl) (fun z => kt ((am_le0 hx).mp z) ad H locs ls (hS.sk hr)) (fun z => ?_)
  have hk := kf ((not_congr (am_le0 hx)).mp z) ad H locs ls (hS.sk hr)
  rw [am_oke_nx ho rfl] at hk
  exact hk
theorem zgk_iceq {o : Int} {t : Nat} {x y : Int} (hB : am_B dC dI tc M ad0 A p s m args meth c) (ho : am_oke M (pc, .if_icmp .eq o, nx, [t], kk) = true) (hp : am_pcd M i = pc) (kt : x = y → az_K l dC dI tc M d n0 n1 Q p e s m args below meth c ad0 A t lv r σ) (kf : ¬ (x = y) → az_K l dC dI tc M d n0 n1 Q p e s m args below meth c ad0 A nx lv r σ) : az_K l dC dI tc M d n0 n1 Q p e s m args below meth c ad0 A i lv (.inl y :: .inl x :: r) σ := by
  intro ad H locs ls hS
  have hd := am_oke_dec ho (fun a b c d h => by cases h)
  obtain ⟨hy, hx, hr⟩ := hS.vs
  rw [hp]
  refine lv_icmp_eq hB.1 hB.2.1 hd (am_oke_t ho rfl) (fun z => kt ((am_eq hx hy).mp z) ad H locs ls (hS.sk hr)) (fun z => ?_)
  have hk := kf ((not_congr (am_eq hx hy)).mp z) ad H locs ls (hS.sk hr)
  rw [am_oke_nx ho rfl] at hk
  exact hk
theorem zgk_icne {o : Int} {t : Nat} {x y : Int} (hB : am_B dC dI tc M ad0 A p s m args meth c) (ho : am_oke M (pc, .if_icmp .ne o, nx, [t], kk) = true) (hp : am_pcd M i = pc) (kt : ¬ x = y → az_K l dC dI tc M d n0 n1 Q p e s m args below meth c ad0 A t lv r σ) (kf : ¬ (¬ x = y) → az_K l dC dI tc M d n0 n1 Q p e s m args below meth c ad0 A nx lv r σ) : az_K l dC dI tc M d n0 n1 Q p e s m args below meth c ad0 A i lv (.inl y :: .inl x :: r) σ := by
  intro ad H locs ls hS
  have hd := am_oke_dec ho (fun a b c d h => by cases h)
  obtain ⟨hy, hx, hr⟩ := hS.vs
  rw [hp]
  refine lv_icmp_ne hB.1 hB.2.1 hd (am_oke_t ho rfl) (fun z => kt ((not_congr (am_eq hx hy)).mp z) ad H locs ls (hS.sk hr)) (fun z => ?_)
  have hk := kf (fun q => q ((am_eq hx hy).mp z)) ad H locs ls (hS.sk hr)
  rw [am_oke_nx ho rfl] at hk
  exact hk
theorem zgk_iclt {o : Int} {t : Nat} {x y : Int} (hB : am_B dC dI tc M ad0 A p s m args meth c) (ho : am_oke M (pc, .if_icmp .lt o, nx, [t], kk) = true) (hp : am_pcd M i = pc) (kt : x < y → az_K l dC dI tc M d n0 n1 Q p e s m args below meth c ad0 A t lv r σ) (kf : ¬ (x < y) → az_K l dC dI tc M d n0 n1 Q p e s m args below meth c ad0 A nx lv r σ) : az_K l dC dI tc M d n0 n1 Q p e s m args below meth c ad0 A i lv (.inl y :: .inl x :: r) σ := by
  intro ad H locs ls hS
  have hd := am_oke_dec ho (fun a b c d h => by cases h)
  obtain ⟨hy, hx, hr⟩ := hS.vs
  rw [hp]
  refine lv_icmp_lt hB.1 hB.2.1 hd (am_oke_t ho rfl) (fun z => kt ((am_lt hx hy).mp z) ad H locs ls (hS.sk hr)) (fun z => ?_)
  have hk := kf ((not_congr (am_lt hx hy)).mp z) ad H locs ls (hS.sk hr)
  rw [am_oke_nx ho rfl] at hk
  exact hk
theorem zgk_icge {o : Int} {t : Nat} {x y : Int} (hB : am_B dC dI tc M ad0 A p s m args meth c) (ho : am_oke M (pc, .if_icmp .ge o, nx, [t], kk) = true) (hp : am_pcd M i = pc) (kt : y ≤ x → az_K l dC dI tc M d n0 n1 Q p e s m args below meth c ad0 A t lv r σ) (kf : ¬ (y ≤ x) → az_K l dC dI tc M d n0 n1 Q p e s m args below meth c ad0 A nx lv r σ) : az_K l dC dI tc M d n0 n1 Q p e s m args below meth c ad0 A i lv (.inl y :: .inl x :: r) σ := by
  intro ad H locs ls hS
  have hd := am_oke_dec ho (fun a b c d h => by cases h)
  obtain ⟨hy, hx, hr⟩ := hS.vs
  rw [hp]
  refine lv_icmp_ge hB.1 hB.2.1 hd (am_oke_t ho rfl) (fun z => kt ((am_le hy hx).mp z) ad H locs ls (hS.sk hr)) (fun z => ?_)
  have hk := kf ((not_congr (am_le hy hx)).mp z) ad H locs ls (hS.sk hr)
  rw [am_oke_nx ho rfl] at hk
  exact hk
theorem zgk_icgt {o : Int} {t : Nat} {x y : Int} (hB : am_B dC dI tc M ad0 A p s m args meth c) (ho : am_oke M (pc, .if_icmp .gt o, nx, [t], kk) = true) (hp : am_pcd M i = pc) (kt : y < x → az_K l dC dI tc M d n0 n1 Q p e s m args below meth c ad0 A t lv r σ) (kf : ¬ (y < x) → az_K l dC dI tc M d n0 n1 Q p e s m args below meth c ad0 A nx lv r σ) : az_K l dC dI tc M d n0 n1 Q p e s m args below meth c ad0 A i lv (.inl y :: .inl x :: r) σ := by
  intro ad H locs ls hS
  have hd := am_oke_dec ho (fun a b c d h => by cases h)
  obtain ⟨hy, hx, hr⟩ := hS.vs
  rw [hp]
  refine lv_icmp_gt hB.1 hB.2.1 hd (am_oke_t ho rfl) (fun z => kt ((am_lt hy hx).mp z) ad H locs ls (hS.sk hr)) (fun z => ?_)
  have hk := kf ((not_congr (am_lt hy hx)).mp z) ad H locs ls (hS.sk hr)
  rw [am_oke_nx ho rfl] at hk
  exact hk
theorem zgk_icle {o : Int} {t : Nat} {x y : Int} (hB : am_B dC dI tc M ad0 A p s m args meth c) (ho : am_oke M (pc, .if_icmp .le o, nx, [t], kk) = true) (hp : am_pcd M i = pc) (kt : x ≤ y → az_K l dC dI tc M d n0 n1 Q p e s m args below meth c ad0 A t lv r σ) (kf : ¬ (x ≤ y) → az_K l dC dI tc M d n0 n1 Q p e s m args below meth c ad0 A nx lv r σ) : az_K l dC dI tc M d n0 n1 Q p e s m args below meth c ad0 A i lv (.inl y :: .inl x :: r) σ := by
  intro ad H locs ls hS
  have hd := am_oke_dec ho (fun a b c d h => by cases h)
  obtain ⟨hy, hx, hr⟩ := hS.vs
  rw [hp]
  refine lv_icmp_le hB.1 hB.2.1 hd (am_oke_t ho rfl) (fun z => kt ((am_le hx hy).mp z) ad H locs ls (hS.sk hr)) (fun z => ?_)
  have hk := kf ((not_congr (am_le hx hy)).mp z) ad H locs ls (hS.sk hr)
  rw [am_oke_nx ho rfl] at hk
  exact hk
end AmGo2


section AmGo3
variable {l : Launch} {dC : Nat → ClassId} {dI : Nat → Nat → Nat} {tc : Nat → ClassId} {M : am_M} {d n0 n1 : Nat} {Q : az_T} {i : Nat} {lv : am_L} {st : List am_V} {σ : am_H}
variable {p : Program} {e : Env} {s : State} {m : MethodId} {args : Array Value} {below : List Frame} {meth : Method} {c : Code} {ad0 : Nat → Nat} {A : Nat → Prop}
variable {pc nx : Nat} {ins : Instr} {xs : List Nat} {kk : Int} {r : List am_V} {n : Nat} {h : Nat → Nat → Int} {g : Nat → Int → Int} {rf : Nat → Nat → Option Nat}
theorem zgk_newa {x : Int} {aty : ArrayType} {ty : FieldType} {t len : Nat} (hx : x = (len : Int)) (hn1 : n < n1) (hsh : am_at am_sh n = some (.inl (t, len))) (hty : newarray.typeOf aty = ty) (ht : (am_tys tc)[t]? = some (tc t, ty)) (hpr : ty = .int ∨ ty = .char ∨ ty = .boolean)
    (hB : am_B dC dI tc M ad0 A p s m args meth c) (ho : am_oke M (pc, .newarray aty, nx, xs, kk) = true) (hp : am_pcd M i = pc) (k : az_K l dC dI tc M d n0 n1 Q p e s m args below meth c ad0 A nx lv (.inr (.inr (some n)) :: r) (n + 1, am_n1 h n, am_n3 g n, am_n2 rf n)) : az_K l dC dI tc M d n0 n1 Q p e s m args below meth c ad0 A i lv (.inl x :: r) (n, h, g, rf) := by
  intro ad H locs ls hS
  have hd := am_oke_dec ho (fun a b c d h => by cases h)
  obtain ⟨hxr, hr⟩ := hS.vs
  have hn0 : n0 ≤ n := hS.2.1
  have hnk : n < 1000 := am_Tsh1 n _ hsh
  have hlen := am_Tlen n t len hsh
  have hszn : am_sz (n + 1) = am_sz n + len := by
    show am_sz n + am_szc n = am_sz n + len
    unfold am_szc
    rw [hsh]
  have hm1 := am_sz_mono (show n + 1 ≤ n1 from hn1)
  have hm0 := am_sz_mono hn0
  have harr : Cond.arrayClass (newarray.typeOf aty) ∈ am_tb := by
    rw [hty]
    rcases hpr with rfl | rfl | rfl
    · exact am_Tarr.1
    · exact am_Tarr.2.1
    · exact am_Tarr.2.2
  rw [hp]
  show W p l e (az_rm d n0 n1) s m args below meth c H locs (n - n0) (am_sz n - am_sz n0) _ _
  refine va_newa hB.1 hB.2.1 (hB.2.2.2.2.2.1 _ harr) hty hB.2.2.2.2.2.2.2.2.1 hS.2.2.2.1 hS.2.2.2.2.1 hS.2.2.2.2.2.1 hB.2.2.2.2.2.2.2.2.2.1 (N' := len) (a0 := (len, .inl (fun _ => 0))) (fun cA => ?_) (fun z => ?_) ?_ ?_ ?_ ?_ hd (fun q cA H1 hK1 hP1 hD1 hS1 => ?_)
  · rcases hpr with rfl | rfl | rfl <;> rfl
  · have := (am_lt0 hxr).mp z
    omega
  · rw [am_cl hxr, hx]; rfl
  · have : componentBytes ty ≤ 8 := by rcases hpr with rfl | rfl | rfl <;> decide
    have := Nat.mul_le_mul_left len this
    omega
  · show n - n0 + 1 ≤ n1 - n0 + 1
    omega
  · show am_sz n - am_sz n0 + len ≤ am_sz n1 - am_sz n0 + 6
    omega
  · have hcA : cA = tc t := by
      have h1 := (hK1.2 3 (cA, ty) rfl).2
      have h2 := (hB.2.2.2.2.2.2.2.2.1.2 t (tc t, ty) ht).2
      exact am_ra_prim hpr h1 h2
    subst hcA
    have hE : am_c (am_ua ad n q) tc (n + 1, am_n1 h n, am_n3 g n, am_n2 rf n) n = (q, .inl (tc t, len, .inl (fun _ => 0))) := by
      unfold am_c
      rw [hsh]
      have e1 : (fun j : Nat => Int32.ofInt (am_n3 g n n (j : Int))) = (fun _ : Nat => (0 : Int32)) := by
        funext j
        simp [am_n3]
      simp only [am_ua, if_true, e1]
    rw [am_w_new hnk hS.hf hE] at hP1 hD1
    have hua := am_ua_ad (ad := ad) (q := q) hnk
    have hk := k (am_ua ad n q) H1 locs ls ⟨fun b hb => by rw [hua b (by omega)]; exact hS.1 b hb, by show n0 ≤ n + 1; omega, ⟨am_hf_new hnk hS.hf, ⟨fun z hz => by cases hz; exact Or.inl (Nat.lt_succ_self n), am_vs_up (Nat.le_succ n) hr⟩, fun b v hb => am_vf_up (Nat.le_succ n) (hS.lvf hb)⟩, hP1, hD1, hS1, am_lh_ad hua (fun b v hb => hS.lvf hb) hS.lh⟩
    rw [am_oke_nx ho rfl] at hk
    have e2 : List.map (am_v (am_ua ad n q)) (.inr (.inr (some n)) :: r) = .ref q :: r.map (am_v ad) := by
      rw [List.map_cons, am_vs_ad hua hr]
      simp [am_v, am_ua]
    rw [e2] at hk
    have e3 : n - n0 + 1 = n + 1 - n0 := by omega
    have e4 : am_sz n - am_sz n0 + len = am_sz (n + 1) - am_sz n0 := by omega
    rw [e3, e4]
    exact hk
theorem zgk_new {idx ci : Nat} (hn1 : n < n1) (hsh : am_at am_sh n = some (.inr ci))
    (hB : am_B dC dI tc M ad0 A p s m args meth c) (ho : am_oke M (pc, .new idx, nx, [ci], kk) = true) (hp : am_pcd M i = pc) (k : az_K l dC dI tc M d n0 n1 Q p e s m args below meth c ad0 A nx lv (.inr (.inr (some n)) :: r) (n + 1, am_n1 h n, am_n3 g n, am_n2 rf n)) : az_K l dC dI tc M d n0 n1 Q p e s m args below meth c ad0 A i lv r (n, h, g, rf) := by
  intro ad H locs ls hS
  have hd := am_oke_dec ho (fun a b c d h => by cases h)
  have hr := hS.vs
  have hn0 : n0 ≤ n := hS.2.1
  have hnk : n < 1000 := am_Tsh1 n _ hsh
  have hl := am_oke_lk ho
  simp only [am_lk] at hl
  split at hl
  · rename_i q hq
    simp only [Bool.and_eq_true] at hl
    obtain ⟨t1, ⟨ks, hks, hlen, htk⟩, t3, t4⟩ := am_Tc ci q hq
    have hszn : am_sz (n + 1) = am_sz n + q.2.2 := by
      show am_sz n + am_szc n = am_sz n + q.2.2
      unfold am_szc
      rw [hsh]
      simp only [hks, hlen]
    have hm1 := am_sz_mono (show n + 1 ≤ n1 from hn1)
    have hm0 := am_sz_mono hn0
    rw [hp]
    show W p l e (az_rm d n0 n1) s m args below meth c H locs (n - n0) (am_sz n - am_sz n0) _ _
    refine va_new (D := (dC, dI)) (C := q.1) (T := q.2.1) (N := q.2.2) (fs := am_fs ad (n + 1, am_n1 h n, am_n3 g n, am_n2 rf n) n ks) hB.1 hB.2.1 hB.2.2.2.2.2.1 t1 (am_ty ci) t3 hB.2.2.2.2.1 (hB.2.2.2.2.2.1 _ (am_in_tb hl.1.1)) (hB.2.2.2.2.2.1 _ (am_in_tb hl.1.2)) (hB.2.2.2.2.2.1 _ (am_in_tb hl.2)) hB.2.2.2.2.2.2.2.2.1 hS.2.2.2.1 hS.2.2.2.2.1 hS.2.2.2.2.2.1 hB.2.2.2.2.2.2.2.2.2.1 (by rw [← am_at_eq]; exact hq) (fun j hj => ?_) ?_ ?_ hd (fun b H1 hP1 hD1 hS1 => ?_)
    · have hkj : ks[j]? = some ks[j] := List.getElem?_eq_getElem (by omega)
      have e1 := am_fs_at (ad := ad) (σ := (n + 1, am_n1 h n, am_n3 g n, am_n2 rf n)) (c := n) hkj
      unfold vp_V
      rw [List.getD_eq_getElem?_getD, e1, Option.getD_some]
      rcases am_tyk_def (htk j _ hkj) with z | z
      · rw [z.2]; unfold am_f; rw [if_pos z.1]; simp [am_n2, am_v]
      · rw [z.2]; unfold am_f; rw [if_neg z.1]; simp [am_n1]
    · show n - n0 + 1 ≤ n1 - n0 + 1
      omega
    · show am_sz n - am_sz n0 + q.2.2 ≤ am_sz n1 - am_sz n0 + 6
      omega
    · have e0 : ∀ ks : List Nat, am_fs (am_ua ad n b) (n + 1, am_n1 h n, am_n3 g n, am_n2 rf n) n ks = am_fs ad (n + 1, am_n1 h n, am_n3 g n, am_n2 rf n) n ks := fun ks => by
        unfold am_fs
        congr 1
        funext j kd
        simp [am_f, am_n2, am_v]
      have hE : am_c (am_ua ad n b) tc (n + 1, am_n1 h n, am_n3 g n, am_n2 rf n) n = (b, .inr (ci, am_fs ad (n + 1, am_n1 h n, am_n3 g n, am_n2 rf n) n ks)) := by
        unfold am_c
        rw [hsh]
        simp only [hks, Option.getD_some, e0, am_ua, if_true]
      rw [am_w_new hnk hS.hf hE] at hP1 hD1
      have hua := am_ua_ad (ad := ad) (q := b) hnk
      have hk := k (am_ua ad n b) H1 locs ls ⟨fun b hb => by rw [hua b (by omega)]; exact hS.1 b hb, by show n0 ≤ n + 1; omega, ⟨am_hf_new hnk hS.hf, ⟨fun z hz => by cases hz; exact Or.inl (Nat.lt_succ_self n), am_vs_up (Nat.le_succ n) hr⟩, fun b v hb => am_vf_up (Nat.le_succ n) (hS.lvf hb)⟩, hP1, hD1, hS1, am_lh_ad hua (fun b v hb => hS.lvf hb) hS.lh⟩
      rw [am_oke_nx ho rfl] at hk
      have e2 : List.map (am_v (am_ua ad n b)) (.inr (.inr (some n)) :: r) = .ref b :: r.map (am_v ad) := by
        rw [List.map_cons, am_vs_ad hua hr]
        simp [am_v, am_ua]
      rw [e2] at hk
      have e3 : n - n0 + 1 = n + 1 - n0 := by omega
      have e4 : am_sz n - am_sz n0 + q.2.2 = am_sz (n + 1) - am_sz n0 := by omega
      rw [e3, e4]
      exact hk
  · cases hl
end AmGo3


section AmGo4
variable {l : Launch} {dC : Nat → ClassId} {dI : Nat → Nat → Nat} {tc : Nat → ClassId} {M : am_M} {d n0 n1 : Nat} {Q : az_T} {i : Nat} {lv : am_L} {st : List am_V} {σ : am_H}
set_option maxHeartbeats 4000000 in
theorem zam_go {sd : Prop} {i' : Nat} {lv' : am_L} {st' : List am_V} {σ' : am_H} (h : am_nx M d n1 i lv st σ = some (sd, i', lv', st', σ')) (hs : sd) (k : az_wp l dC dI tc M d n0 n1 Q i' lv' st' σ') : az_wp l dC dI tc M d n0 n1 Q i lv st σ := by
  unfold am_nx at h
  split at h
  · rename_i e0 he
    obtain ⟨pc, ins, nx, xs, kk⟩ := e0
    intro hok p e s m args below meth c ad0 A hB
    have ho := hok i _ he
    have hp : am_pcd M i = pc := by unfold am_pcd; rw [he]
    have k := k hok p e s m args below meth c ad0 A hB
    cases ins with
    | iconst q =>
      obtain ⟨rfl, rfl, rfl, rfl, rfl⟩ := am_inj (show am_step d n1 (pc, _, nx, xs, kk) lv st σ = _ from h)
      exact zgk_iconst hs hB ho hp k
    | bipush q =>
      obtain ⟨rfl, rfl, rfl, rfl, rfl⟩ := am_inj (show am_step d n1 (pc, _, nx, xs, kk) lv st σ = _ from h)
      exact zgk_bipush hs hB ho hp k
    | sipush q =>
      obtain ⟨rfl, rfl, rfl, rfl, rfl⟩ := am_inj (show am_step d n1 (pc, _, nx, xs, kk) lv st σ = _ from h)
      exact zgk_sipush hs hB ho hp k
    | ldc2_w q =>
      obtain ⟨rfl, rfl, rfl, rfl, rfl⟩ := am_inj (show am_step d n1 (pc, _, nx, xs, kk) lv st σ = _ from h)
      exact zgk_ldc2 hs hB ho hp k
    | lconst q =>
      obtain ⟨rfl, rfl, rfl, rfl, rfl⟩ := am_inj (show am_step d n1 (pc, _, nx, xs, kk) lv st σ = _ from h)
      exact zgk_lconst hs hB ho hp k
    | iadd =>
      replace h : _ = _ := h
      simp only [am_step] at h
      split at h
      · obtain ⟨rfl, rfl, rfl, rfl, rfl⟩ := am_inj h
        exact zgk_iadd hs hB ho hp k
      · cases h
    | isub =>
      replace h : _ = _ := h
      simp only [am_step] at h
      split at h
      · obtain ⟨rfl, rfl, rfl, rfl, rfl⟩ := am_inj h
        exact zgk_isub hs hB ho hp k
      · cases h
    | imul =>
      replace h : _ = _ := h
      simp only [am_step] at h
      split at h
      · obtain ⟨rfl, rfl, rfl, rfl, rfl⟩ := am_inj h
        exact zgk_imul hs hB ho hp k
      · cases h
    | idiv =>
      replace h : _ = _ := h
      simp only [am_step] at h
      split at h
      · obtain ⟨rfl, rfl, rfl, rfl, rfl⟩ := am_inj h
        exact zgk_idiv hs hB ho hp k
      · cases h
    | irem =>
      replace h : _ = _ := h
      simp only [am_step] at h
      split at h
      · obtain ⟨rfl, rfl, rfl, rfl, rfl⟩ := am_inj h
        exact zgk_irem hs hB ho hp k
      · cases h
    | iand =>
      replace h : _ = _ := h
      simp only [am_step] at h
      split at h
      · obtain ⟨rfl, rfl, rfl, rfl, rfl⟩ := am_inj h
        exact zgk_iand  hB ho hp k
      · cases h
    | ior =>
      replace h : _ = _ := h
      simp only [am_step] at h
      split at h
      · obtain ⟨rfl, rfl, rfl, rfl, rfl⟩ := am_inj h
        exact zgk_ior  hB ho hp k
      · cases h
    | ishl =>
      replace h : _ = _ := h
      simp only [am_step] at h
      split at h
      · obtain ⟨rfl, rfl, rfl, rfl, rfl⟩ := am_inj h
        exact zgk_ishl  hB ho hp k
      · cases h
    | ishr =>
      replace h : _ = _ := h
      simp only [am_step] at h
      split at h
      · obtain ⟨rfl, rfl, rfl, rfl, rfl⟩ := am_inj h
        exact zgk_ishr  hB ho hp k
      · cases h
    | lcmp =>
      replace h : _ = _ := h
      simp only [am_step] at h
      split at h
      · obtain ⟨rfl, rfl, rfl, rfl, rfl⟩ := am_inj h
        exact zgk_lcmp  hB ho hp k
      · cases h
    | i2c =>
      replace h : _ = _ := h
      simp only [am_step] at h
      split at h
      · obtain ⟨rfl, rfl, rfl, rfl, rfl⟩ := am_inj h
        exact zgk_i2c hs hB ho hp k
      · cases h
    | i2l =>
      replace h : _ = _ := h
      simp only [am_step] at h
      split at h
      · obtain ⟨rfl, rfl, rfl, rfl, rfl⟩ := am_inj h
        exact zgk_i2l  hB ho hp k
      · cases h
    | l2i =>
      replace h : _ = _ := h
      simp only [am_step] at h
      split at h
      · obtain ⟨rfl, rfl, rfl, rfl, rfl⟩ := am_inj h
        exact zgk_l2i hs hB ho hp k
      · cases h
    | dup2 =>
      replace h : _ = _ := h
      simp only [am_step] at h
      split at h
      · obtain ⟨rfl, rfl, rfl, rfl, rfl⟩ := am_inj h
        exact zgk_dup2  hB ho hp k
      · cases h
    | ldc q =>
      simp only [am_step] at h
      split at h
      · obtain ⟨rfl, rfl, rfl, rfl, rfl⟩ := am_inj h
        exact zgk_ldc hs hB ho hp k
      · obtain ⟨rfl, rfl, rfl, rfl, rfl⟩ := am_inj h
        exact zgk_ldcs hB ho hp k
      · cases h
    | dup =>
      simp only [am_step] at h
      split at h
      · obtain ⟨rfl, rfl, rfl, rfl, rfl⟩ := am_inj h
        exact zgk_dupi hB ho hp k
      · obtain ⟨rfl, rfl, rfl, rfl, rfl⟩ := am_inj h
        exact zgk_dupa hB ho hp k
      · cases h
    | goto q =>
      simp only [am_step] at h
      split at h
      · obtain ⟨rfl, rfl, rfl, rfl, rfl⟩ := am_inj h
        exact zgk_goto hB ho hp k
      · cases h
    | iload_n q =>
      simp only [am_step, am_ld] at h
      split at h
      · rename_i hg
        obtain ⟨rfl, rfl, rfl, rfl, rfl⟩ := am_inj (am_cond h).2
        exact zgk_iloadn hg hB ho hp k
      · exact absurd (am_cond h).1 (by decide)
      · exact absurd (am_cond h).1 (by decide)
      · cases h
    | iload q =>
      simp only [am_step, am_ld] at h
      split at h
      · rename_i hg
        obtain ⟨rfl, rfl, rfl, rfl, rfl⟩ := am_inj (am_cond h).2
        exact zgk_iload hg hB ho hp k
      · exact absurd (am_cond h).1 (by decide)
      · exact absurd (am_cond h).1 (by decide)
      · cases h
    | lload q =>
      simp only [am_step, am_ld] at h
      split at h
      · exact absurd (am_cond h).1 (by decide)
      · rename_i hg
        obtain ⟨rfl, rfl, rfl, rfl, rfl⟩ := am_inj (am_cond h).2
        exact zgk_lload hg hB ho hp k
      · exact absurd (am_cond h).1 (by decide)
      · cases h
    | lload_n q =>
      simp only [am_step, am_ld] at h
      split at h
      · exact absurd (am_cond h).1 (by decide)
      · rename_i hg
        obtain ⟨rfl, rfl, rfl, rfl, rfl⟩ := am_inj (am_cond h).2
        exact zgk_lloadn hg hB ho hp k
      · exact absurd (am_cond h).1 (by decide)
      · cases h
    | aload_n q =>
      simp only [am_step, am_ld] at h
      split at h
      · exact absurd (am_cond h).1 (by decide)
      · exact absurd (am_cond h).1 (by decide)
      · rename_i hg
        obtain ⟨rfl, rfl, rfl, rfl, rfl⟩ := am_inj (am_cond h).2
        exact zgk_aloadn hg hB ho hp k
      · cases h
    | aload q =>
      simp only [am_step, am_ld] at h
      split at h
      · exact absurd (am_cond h).1 (by decide)
      · exact absurd (am_cond h).1 (by decide)
      · rename_i hg
        obtain ⟨rfl, rfl, rfl, rfl, rfl⟩ := am_inj (am_cond h).2
        exact zgk_aload hg hB ho hp k
      · cases h
    | istore_n q =>
      simp only [am_step, am_st] at h
      split at h
      · have h := (am_cond h).2
        split at h
        · rename_i hg
          obtain ⟨rfl, rfl, rfl, rfl, rfl⟩ := am_inj h
          exact zgk_istoren hg hB ho hp k
        · cases h
      · exact absurd (am_cond h).1 (by decide)
      · cases h
    | istore q =>
      simp only [am_step, am_st] at h
      split at h
      · have h := (am_cond h).2
        split at h
        · rename_i hg
          obtain ⟨rfl, rfl, rfl, rfl, rfl⟩ := am_inj h
          exact zgk_istore hg hB ho hp k
        · cases h
      · exact absurd (am_cond h).1 (by decide)
      · cases h
    | astore_n q =>
      simp only [am_step, am_st] at h
      split at h
      · exact absurd (am_cond h).1 (by decide)
      · have h := (am_cond h).2
        split at h
        · rename_i hg
          obtain ⟨rfl, rfl, rfl, rfl, rfl⟩ := am_inj h
          exact zgk_astoren hg hB ho hp k
        · cases h
      · cases h
    | astore q =>
      simp only [am_step, am_st] at h
      split at h
      · exact absurd (am_cond h).1 (by decide)
      · have h := (am_cond h).2
        split at h
        · rename_i hg
          obtain ⟨rfl, rfl, rfl, rfl, rfl⟩ := am_inj h
          exact zgk_astore hg hB ho hp k
        · cases h
      · cases h
    | iinc q z =>
      simp only [am_step] at h
      split at h
      · rename_i hg0
        split at h
        · rename_i hg
          obtain ⟨rfl, rfl, rfl, rfl, rfl⟩ := am_inj h
          exact zgk_iinc hs hg0 hg hB ho hp k
        · cases h
      · cases h
    | arraylength =>
      simp only [am_step] at h
      split at h
      · split at h
        · rename_i hsh
          obtain ⟨hc0, h2⟩ := am_cond h
          clear h
          obtain ⟨rfl, rfl, rfl, rfl, rfl⟩ := am_inj h2
          exact zgk_alen (Nat.le_of_ble_eq_true hc0) hsh hB ho hp k
        · cases h
      · cases h
    | iaload =>
      obtain ⟨n, hh, gg, rf⟩ := σ
      simp only [am_step, am_ald] at h
      split at h
      · split at h
        · rename_i hsh
          obtain ⟨hc0, h2⟩ := am_cond h
          clear h
          obtain ⟨hc1, hc⟩ := am_and2 hc0
          subst hc1
          obtain ⟨rfl, rfl, rfl, rfl, rfl⟩ := am_inj h2
          exact zgk_iald (σ := (n, hh, gg, rf)) hs hc hsh hB ho hp k
        · cases h
      · cases h
    | caload =>
      obtain ⟨n, hh, gg, rf⟩ := σ
      simp only [am_step, am_ald] at h
      split at h
      · split at h
        · rename_i hsh
          obtain ⟨hc0, h2⟩ := am_cond h
          clear h
          obtain ⟨hc1, hc⟩ := am_and2 hc0
          subst hc1
          obtain ⟨rfl, rfl, rfl, rfl, rfl⟩ := am_inj h2
          exact zgk_cald (σ := (n, hh, gg, rf)) hs hc hsh hB ho hp k
        · cases h
      · cases h
    | baload =>
      obtain ⟨n, hh, gg, rf⟩ := σ
      simp only [am_step, am_ald] at h
      split at h
      · split at h
        · rename_i hsh
          obtain ⟨hc0, h2⟩ := am_cond h
          clear h
          obtain ⟨hc1, hc⟩ := am_and2 hc0
          subst hc1
          obtain ⟨rfl, rfl, rfl, rfl, rfl⟩ := am_inj h2
          exact zgk_zald (σ := (n, hh, gg, rf)) hs hc hsh hB ho hp k
        · cases h
      · cases h
    | iastore =>
      obtain ⟨n, hh, gg, rf⟩ := σ
      simp only [am_step] at h
      split at h
      · split at h
        · rename_i hsh
          obtain ⟨hc0, h2⟩ := am_cond h
          clear h
          obtain ⟨hc1, hc⟩ := am_and2 hc0
          subst hc1
          obtain ⟨rfl, rfl, rfl, rfl, rfl⟩ := am_inj h2
          exact zgk_iast (σ := (n, hh, gg, rf)) hs hc hsh hB ho hp k
        · cases h
      · cases h
    | castore =>
      obtain ⟨n, hh, gg, rf⟩ := σ
      simp only [am_step] at h
      split at h
      · split at h
        · rename_i hsh
          obtain ⟨hc0, h2⟩ := am_cond h
          clear h
          obtain ⟨hc1, hc⟩ := am_and2 hc0
          subst hc1
          obtain ⟨rfl, rfl, rfl, rfl, rfl⟩ := am_inj h2
          exact zgk_cast (σ := (n, hh, gg, rf)) hs.1 hs.2 hc hsh hB ho hp k
        · cases h
      · cases h
    | bastore =>
      obtain ⟨n, hh, gg, rf⟩ := σ
      simp only [am_step] at h
      split at h
      · split at h
        · rename_i hsh
          obtain ⟨hc0, h2⟩ := am_cond h
          clear h
          obtain ⟨hc1, hc⟩ := am_and2 hc0
          subst hc1
          obtain ⟨rfl, rfl, rfl, rfl, rfl⟩ := am_inj h2
          exact zgk_zast (σ := (n, hh, gg, rf)) hs.1 hs.2 hc hsh hB ho hp k
        · cases h
      · cases h
    | getfield q =>
      obtain ⟨n, hh, gg, rf⟩ := σ
      simp only [am_step] at h
      split at h
      · split at h
        · rename_i hx1 hx2
          cases hx2
          split at h
          · rename_i hsh hkd
            obtain ⟨hc0, h2⟩ := am_cond h
            clear h
            obtain ⟨hc1, hc⟩ := am_and2 hc0
            subst hc1
            rename_i kd
            by_cases hk1 : kd = 1
            · rw [show Nat.beq kd 1 = true by rw [hk1]; rfl] at h2
              obtain ⟨rfl, rfl, rfl, rfl, rfl⟩ := am_inj h2
              exact zgk_geta (σ := (n, hh, gg, rf)) hc hsh hkd hk1 hB ho hp k
            · rw [show Nat.beq kd 1 = false from Bool.eq_false_iff.mpr (fun z => hk1 (Nat.eq_of_beq_eq_true z))] at h2
              obtain ⟨rfl, rfl, rfl, rfl, rfl⟩ := am_inj h2
              exact zgk_geti (σ := (n, hh, gg, rf)) hc hsh hkd hk1 hB ho hp k
          · cases h
        · cases h
      · cases h
    | putfield q =>
      obtain ⟨n, hh, gg, rf⟩ := σ
      simp only [am_step] at h
      split at h
      · split at h
        · rename_i hx1 hx2
          cases hx2
          split at h
          · rename_i hsh hkd
            obtain ⟨hc0, h2⟩ := am_cond h
            clear h
            obtain ⟨hc1, hc⟩ := am_and2 hc0
            subst hc1
            obtain ⟨rfl, rfl, rfl, rfl, rfl⟩ := am_inj h2
            exact zgk_puti (σ := (n, hh, gg, rf)) hc hsh hkd hB ho hp k
          · rename_i hsh hkd
            obtain ⟨hc0, h2⟩ := am_cond h
            clear h
            obtain ⟨hc1, hc⟩ := am_and2 hc0
            subst hc1
            obtain ⟨rfl, rfl, rfl, rfl, rfl⟩ := am_inj h2
            exact zgk_putz (σ := (n, hh, gg, rf)) hs hc hsh hkd hB ho hp k
          · cases h
        · cases h
      · split at h
        · rename_i hx1 hx2
          cases hx2
          split at h
          · rename_i hsh hkd
            obtain ⟨hc0, h2⟩ := am_cond h
            clear h
            rw [Bool.and_eq_true] at hc0
            obtain ⟨hc0, hb⟩ := hc0
            obtain ⟨hc1, hc⟩ := am_and2 hc0
            subst hc1
            obtain ⟨rfl, rfl, rfl, rfl, rfl⟩ := am_inj h2
            exact zgk_puta (σ := (n, hh, gg, rf)) hc (Nat.le_of_ble_eq_true hb) hsh hkd hB ho hp k
          · cases h
        · cases h
      · cases h
    | newarray q =>
      obtain ⟨n, hh, gg, rf⟩ := σ
      simp only [am_step] at h
      split at h
      · split at h
        · rename_i hx1 hx2
          cases hx2
          split at h
          · rename_i hsh
            obtain ⟨hc0, h2⟩ := am_cond h
            clear h
            have hc1 := Nat.eq_of_beq_eq_true hc0
            subst hc1
            obtain ⟨rfl, rfl, rfl, rfl, rfl⟩ := am_inj h2
            have hl := am_oke_lk ho
            simp only [am_lk] at hl
            split at hl
            · rename_i hz
              cases hz
              have hl := of_decide_eq_true hl
              subst hl
              exact zgk_newa hs.1 hs.2 hsh rfl rfl (Or.inl rfl) hB ho hp k
            · rename_i hz
              cases hz
              have hl := of_decide_eq_true hl
              subst hl
              exact zgk_newa hs.1 hs.2 hsh rfl rfl (Or.inr (Or.inl rfl)) hB ho hp k
            · rename_i hz
              cases hz
              have hl := of_decide_eq_true hl
              subst hl
              exact zgk_newa hs.1 hs.2 hsh rfl rfl (Or.inr (Or.inr rfl)) hB ho hp k
            · cases hl
          · cases h
        · cases h
      · cases h
    | new q =>
      obtain ⟨n, hh, gg, rf⟩ := σ
      simp only [am_step] at h
      split at h
      · rename_i hx1 hx2
        cases hx2
        split at h
        · rename_i hsh
          obtain ⟨hc0, h2⟩ := am_cond h
          clear h
          have hc1 := Nat.eq_of_beq_eq_true hc0
          subst hc1
          obtain ⟨rfl, rfl, rfl, rfl, rfl⟩ := am_inj h2
          exact zgk_new hs hsh hB ho hp k
        · cases h
      · cases h
    | invokespecial q =>
      simp only [am_step] at h
      split at h
      · obtain ⟨rfl, rfl, rfl, rfl, rfl⟩ := am_inj h
        exact zgk_obj hs hB ho hp k
      · cases h
    | invokestatic q =>
      simp only [am_step] at h
      split at h
      · obtain ⟨rfl, rfl, rfl, rfl, rfl⟩ := am_inj h
        exact zgk_max ⟨hs.1, hs.2.1⟩ hs.2.2 hB ho hp k
      · cases h
    | _ => exact absurd (show (none : am_O) = some (sd, i', lv', st', σ') from h) (fun z => by cases z)
  · cases h
set_option maxHeartbeats 4000000 in
theorem zam_if {P : Prop} {t n : Nat} {r : List am_V} (h : am_bx M i st = some (P, t, n, r)) (kt : P → az_wp l dC dI tc M d n0 n1 Q t lv r σ) (kf : ¬ P → az_wp l dC dI tc M d n0 n1 Q n lv r σ) : az_wp l dC dI tc M d n0 n1 Q i lv st σ := by
  unfold am_bx at h
  split at h
  · rename_i e0 he
    obtain ⟨pc, ins, nx, xs, kk⟩ := e0
    intro hok p e s m args below meth c ad0 A hB
    have ho := hok i _ he
    have hp : am_pcd M i = pc := by unfold am_pcd; rw [he]
    have kt := fun z => kt z hok p e s m args below meth c ad0 A hB
    have kf := fun z => kf z hok p e s m args below meth c ad0 A hB
    simp only [am_br] at h
    split at h
    · split at h
      · split at h
        · obtain ⟨rfl, rfl, rfl, rfl⟩ := am_injb h
          exact zgk_ifeq hB ho hp kt kf
        · cases h
      · split at h
        · obtain ⟨rfl, rfl, rfl, rfl⟩ := am_injb h
          exact zgk_ifne hB ho hp kt kf
        · cases h
      · split at h
        · obtain ⟨rfl, rfl, rfl, rfl⟩ := am_injb h
          exact zgk_iflt hB ho hp kt kf
        · cases h
      · split at h
        · obtain ⟨rfl, rfl, rfl, rfl⟩ := am_injb h
          exact zgk_ifge hB ho hp kt kf
        · cases h
      · split at h
        · obtain ⟨rfl, rfl, rfl, rfl⟩ := am_injb h
          exact zgk_ifgt hB ho hp kt kf
        · cases h
      · split at h
        · obtain ⟨rfl, rfl, rfl, rfl⟩ := am_injb h
          exact zgk_ifle hB ho hp kt kf
        · cases h
      · split at h
        · obtain ⟨rfl, rfl, rfl, rfl⟩ := am_injb h
          exact zgk_iceq hB ho hp kt kf
        · cases h
      · split at h
        · obtain ⟨rfl, rfl, rfl, rfl⟩ := am_injb h
          exact zgk_icne hB ho hp kt kf
        · cases h
      · split at h
        · obtain ⟨rfl, rfl, rfl, rfl⟩ := am_injb h
          exact zgk_iclt hB ho hp kt kf
        · cases h
      · split at h
        · obtain ⟨rfl, rfl, rfl, rfl⟩ := am_injb h
          exact zgk_icge hB ho hp kt kf
        · cases h
      · split at h
        · obtain ⟨rfl, rfl, rfl, rfl⟩ := am_injb h
          exact zgk_icgt hB ho hp kt kf
        · cases h
      · split at h
        · obtain ⟨rfl, rfl, rfl, rfl⟩ := am_injb h
          exact zgk_icle hB ho hp kt kf
        · cases h
      · cases h
    · cases h
  · cases h
end AmGo4


section AmCall
variable {l : Launch} {dC : Nat → ClassId} {dI : Nat → Nat → Nat} {tc : Nat → ClassId} {M : am_M} {d n0 n1 : Nat} {Q : az_T} {i : Nat} {lv : am_L} {st : List am_V} {σ : am_H}
variable {p : Program} {e : Env} {s : State} {m : MethodId} {args : Array Value} {below : List Frame} {meth : Method} {c : Code} {ad0 : Nat → Nat} {A : Nat → Prop}
variable {pc nx : Nat} {r : List am_V}
theorem zam_after {ad : Nat → Nat} {H : Heap} {locs : List Loc} {ls : Array Slot} {st0 : List Value} {aa : Array Value} {n1' : Nat} {Q' : Option am_V → am_H → Prop} {st1 : List am_V}
    (hrun : va_Run p l e (az_rm d n0 n1) s m args below meth c H locs (σ.1 - n0) (am_sz σ.1 - am_sz n0) (n1' - σ.1) (am_sz n1' - am_sz σ.1) (F0 m pc ls st0) (r.map (am_v ad)) (am_Qc dC dI tc ad σ.1 n1' (va_A (am_w ad tc σ) H.size) Q' aa) (va_A (am_w ad tc σ) H.size))
    (hB : am_B dC dI tc M ad0 A p s m args meth c) (hS : am_S dC dI tc s A n0 ad0 M.2.2.1 lv st1 σ ad H locs ls) (hr : am_vs σ.1 r) (hn1 : σ.1 ≤ n1') (hnx : am_pcd M nx = pc + 3) (k : ∀ rv σ', Q' rv σ' → az_K l dC dI tc M d n0 n1 Q p e s m args below meth c ad0 A nx lv (rv.toList ++ r) σ') :
    W p l e (az_rm d n0 n1) s m args below meth c H locs (σ.1 - n0) (am_sz σ.1 - am_sz n0) (Q below args s ad0 A) (F0 m pc ls st0) := by
  intro T hT X
  obtain ⟨v, st₀, t, T', L, h0, X', hL, e1, e2, ⟨⟨rv, σ', ad', ho, hQ, had, hnn, hhf, hvf, hP', hD'⟩, hz, hk⟩, st⟩ := hrun T hT X
  have hv : v = rv.map (am_v ad') := Outcome.returned.inj ho
  subst hv
  have hn0 : n0 ≤ σ.1 := hS.2.1
  have hwA := am_wA hS.2.2.2.2.1 hS.2.2.2.2.2.1 hB.2.2.2.2.2.2.2.2.2.1
  rw [h0] at hz hk
  have hSS := hS.2.2.2.2.2.1
  have hS1 : va_S A s.heap T'.heap (locs ++ L) := ⟨Nat.le_trans hSS.1 (by rw [e1]; exact hz), fun q g1 g2 => by
      rw [e1, hk q (Nat.lt_of_lt_of_le g1 hSS.1) (fun z => g2 (hwA q z))]
      exact hSS.2.1 q g1 g2, fun q hq => by
      rcases List.mem_append.mp hq with g | g
      · exact hSS.2.2 q g
      · exact hwA _ (hL q g)⟩
  have hadk : ∀ k, k < n0 ∨ 1000 ≤ k → ad' k = ad0 k := fun k hk => by rw [had k (by omega)]; exact hS.1 k hk
  have hvs : am_vs σ'.1 (rv.toList ++ r) := by
    have hr' : am_vs σ'.1 r := am_vs_up (by omega) hr
    cases rv with
    | none => exact hr'
    | some w => exact ⟨by rw [hnn]; exact hvf w rfl, hr'⟩
  have kk := k rv σ' hQ ad' T'.heap (locs ++ L) ls ⟨hadk, by omega, ⟨hhf, hvs, fun j w hj => am_vf_up (by omega) (hS.lvf hj)⟩, by rw [e1]; exact hP', hD'.weaken (fun _ q _ h => hwA q.1 h), hS1, am_lh_ad had (fun j w hj => hS.lvf hj) hS.lh⟩
  have hm0 := am_sz_mono hn0
  have hm1 := am_sz_mono hn1
  have e3 : σ.1 - n0 + (n1' - σ.1) = σ'.1 - n0 := by omega
  have e4 : am_sz σ.1 - am_sz n0 + (am_sz n1' - am_sz σ.1) = am_sz σ'.1 - am_sz n0 := by rw [hnn]; omega
  rw [e3, e4] at X'
  obtain ⟨t2, a1, b1⟩ := kk T' rfl X'
  refine ⟨t2, st t2 ?_, b1⟩
  have e5 : (rv.toList ++ r).map (am_v ad') = (rv.map (am_v ad')).toList ++ r.map (am_v ad) := by
    rw [List.map_append, am_vs_ad had hr]
    cases rv <;> rfl
  rw [hnx, e5] at a1
  exact a1
set_option maxHeartbeats 4000000 in
theorem zam_call {M' : am_M} {as : List am_V} {d' n1' : Nat} {Q' : Option am_V → am_H → Prop} (h : am_cx M σ.1 i st = some (M', as, nx, r)) (hC : am_Ct l dC dI tc M' d' n1' as σ Q') (hd : d' < d) (hn : σ.1 ≤ n1') (hn1 : n1' ≤ n1) (hr4 : r.length ≤ 4) (k : ∀ rv σ', Q' rv σ' → az_wp l dC dI tc M d n0 n1 Q nx lv (rv.toList ++ r) σ') : az_wp l dC dI tc M d n0 n1 Q i lv st σ := by
  unfold am_cx at h
  split at h
  · rename_i pc ins nx0 xs kk he
    split at h
    · rename_i mno na xs2
      split at h
      · rename_i M2 as2 r2 hm htk
        intro hok p e s m args below meth c ad0 A hB ad H locs ls hS
        have ho := hok i _ he
        have hp : am_pcd M i = pc := by unfold am_pcd; rw [he]
        have k := fun rv σ' q => k rv σ' q hok p e s m args below meth c ad0 A hB
        have hcode := am_Tcode mno _ hm
        obtain ⟨b, hb1, hb2, hb3⟩ := am_tk_spec _ _ _ _ _ htk
        rw [List.append_nil] at hb2
        subst hb2
        have hvsall := hS.vs
        rw [hb1] at hvsall
        have hvm := am_vs_mem hvsall
        have hr : am_vs σ.1 r2 := am_vs_of (fun v hv => hvm v (List.mem_append_right _ hv))
        have has : am_vs σ.1 as2 := am_vs_of (fun v hv => hvm v (List.mem_append_left _ (List.mem_reverse.mpr hv)))
        have hl := am_oke_lk ho
        have hn0 : n0 ≤ σ.1 := hS.2.1
        have hZ : ∀ U : State, U.heap = H → s.WarmedH U.vm → am_Z ad (va_A (am_w ad tc σ) H.size) U := fun U hU hW => am_Z.call hB.2.2.2.2.2.2.2.2.2.2 hS.2.2.2.2.2.1 (am_wA hS.2.2.2.2.1 hS.2.2.2.2.2.1 hB.2.2.2.2.2.2.2.2.2.1) (fun k hk => hS.1 k (Or.inr hk)) hU hW
        have hpre : ∀ U : State, U.heap = H → s.WarmedH U.vm → va_Pc (as2.map (am_v ad)) (fun U => U.heap.size = H.size ∧ va_P (dC, dI) classes (am_w ad tc σ) U.heap ∧ va_K (dC, dI) classes (am_tys tc) U ∧ va_D (fun _ => True) (am_w ad tc σ) ∧ am_Z ad (va_A (am_w ad tc σ) H.size) U) (as2.map (am_v ad)).toArray U := fun U hU hW =>
          ⟨rfl, by rw [hU], by rw [hU]; exact hS.2.2.2.1, va_K.moved hW.alike hB.2.2.2.2.2.2.2.2.1, hS.2.2.2.2.1.weaken (fun _ _ _ _ => trivial), hZ U hU hW⟩
        have hblind : FrameBlind (va_Pc (as2.map (am_v ad)) (fun U => U.heap.size = H.size ∧ va_P (dC, dI) classes (am_w ad tc σ) U.heap ∧ va_K (dC, dI) classes (am_tys tc) U ∧ va_D (fun _ => True) (am_w ad tc σ) ∧ am_Z ad (va_A (am_w ad tc σ) H.size) U)) := by
          intro a U g mk q
          obtain ⟨q0, q1, qP, qK, qD, qZ⟩ := q
          exact ⟨q0, q1, qP, va_K.moved (u := U) (U := U.calling g mk a) (Vm.Alike.refl U.vm) qK, qD, am_Z.blind qZ⟩
        have hcells : σ.1 - n0 + (n1' - σ.1) ≤ (az_rm d n0 n1).cells ∧ am_sz σ.1 - am_sz n0 + (am_sz n1' - am_sz σ.1) ≤ (az_rm d n0 n1).slots := by
          have hm0 := am_sz_mono hn0
          have hm1 := am_sz_mono hn
          have hm2 := am_sz_mono hn1
          refine ⟨?_, ?_⟩
          · show _ ≤ n1 - n0 + 1
            omega
          · show _ ≤ am_sz n1 - am_sz n0 + 6
            omega
        have hfix : CallFix p m c M.2.1 M.2.2.1 s args am_tb M.1.cls := ⟨hB.1, hB.2.1, hB.2.2.2.1, hB.2.2.2.2.1, hB.2.2.2.2.2.1⟩
        have hsize : ls.size = M.2.2.1 := hS.lh.1
        rw [hp]
        split at h
        · rename_i idx
          split at h
          · rename_i c0 as3
            split at h
            · rename_i ci ci' hsh hmc
              obtain ⟨hc0, h2⟩ := am_condc h
              obtain ⟨hc1, hc2⟩ := am_and2 hc0
              subst hc1
              obtain ⟨rfl, rfl, rfl, rfl⟩ := am_injc h2
              have hcat : 2 * 0 + ((r2.map (am_v ad)).map fun v => v.category).sum ≤ 8 := by
                have := am_cats ad r2
                omega
              have hdec := am_oke_dec ho (fun a b c d h => by cases h)
              simp only [am_lk, hm, Bool.and_eq_true] at hl
              obtain ⟨⟨⟨⟨l1, l2⟩, l3⟩, l4⟩, l5⟩ := hl
              obtain ⟨s1, s2⟩ := am_sig_spec l5
              obtain ⟨q, hq, hqn⟩ := am_Tmc mno _ _ _ hm hmc hsh
              obtain ⟨-, ⟨ks, hks, -, -⟩, -, -⟩ := am_Tc ci q hq
              have hna : na - 1 = as3.length := by rw [← hb3]; simp
              rw [hna] at s1
              have cw : CallW (az_rm d n0 n1) s args M.1.cls M2.1.cls idx M2.1 M2.2.1 M2.2.2.1 M2.2.2.2.1 (Cond.code M2.1 M2.2.1 M2.2.2.1 M2.2.2.2.1 :: am_tb) (am_rm d' σ.1 n1') (n1' - σ.1) (am_sz n1' - am_sz σ.1) as3.length :=
                cwV as3.length hB.2.2.2.2.2.1 (am_goodIn (fun w hw => by
                  unfold wsV at hw
                  rcases List.mem_append.mp hw with z | z
                  · simp only [List.mem_cons, List.not_mem_nil, or_false] at z
                    rcases z with rfl | rfl | rfl | rfl
                    · exact am_in_tb l1
                    · exact am_in_tb l2
                    · exact am_in_tb l3
                    · exact am_in_tb l4
                  · rcases List.mem_cons.mp z with rfl | z
                    · exact hcode
                    · exact z)) rfl rfl rfl ⟨rfl, s1⟩ (az_roomok hd s2)
              have hrv := va_recv hB.2.2.2.2.2.2.2.2.1 hS.2.2.2.1 (by rw [← am_at_eq]; exact hq) (am_w_obj hc2 hsh hks)
              rw [hqn] at hrv
              have hrun := va_runV (l := l) (e := e) (below := below) (meth := meth) (locs := locs) (cells := σ.1 - n0) (slots := am_sz σ.1 - am_sz n0) (As := as3.map (am_v ad)) (rest := r2.map (am_v ad)) (g := F0 m pc ls (st.map (am_v ad))) hfix (hC ad H.size hS.hf has) cw ⟨hblind, hrv, hpre⟩ rfl (by simp) hsize (by show st.map (am_v ad) = _; rw [hb1]; exact am_st_eq) hcat hdec hcells
              exact zam_after hrun hB hS hr hn (am_oke_nx ho rfl) k
            · cases h
          · cases h
        · rename_i idx
          split at h
          · rename_i c0 as3
            obtain ⟨rfl, rfl, rfl, rfl⟩ := am_injc h
            have hcat : 2 * 0 + ((r2.map (am_v ad)).map fun v => v.category).sum ≤ 8 := by
              have := am_cats ad r2
              omega
            have hdec := am_oke_dec ho (fun a b c d h => by cases h)
            simp only [am_lk, hm, Bool.and_eq_true, decide_eq_true_eq] at hl
            obtain ⟨⟨⟨⟨⟨l1, l2⟩, l3⟩, l4⟩, l6⟩, l5⟩ := hl
            obtain ⟨s1, s2⟩ := am_sig_spec l5
            have hna : na - 1 = as3.length := by rw [← hb3]; simp
            rw [hna] at s1
            have cw := cwI (R := az_rm d n0 n1) (rm := am_rm d' σ.1 n1') (ws := Cond.code M2.1 M2.2.1 M2.2.2.1 M2.2.2.2.1 :: am_tb) as3.length hB.2.2.2.2.2.1 (am_goodIn (fun w hw => by
                rcases List.mem_cons.mp hw with rfl | z
                · exact hcode
                · exact z)) (by rw [l6]) rfl rfl (hB.2.2.2.2.2.1 _ (am_in_tb l3)) (hB.2.2.2.2.2.1 _ (am_in_tb l1)) (hB.2.2.2.2.2.1 _ (am_in_tb l2)) l4 s1 (az_roomok hd s2)
            have hrun := va_runI (l := l) (e := e) (below := below) (meth := meth) (locs := locs) (cells := σ.1 - n0) (slots := am_sz σ.1 - am_sz n0) (As := as3.map (am_v ad)) (rest := r2.map (am_v ad)) (g := F0 m pc ls (st.map (am_v ad))) hfix (hC ad H.size hS.hf has) cw ⟨hblind, hpre⟩ rfl (by simp) hsize (by show st.map (am_v ad) = _; rw [hb1]; exact am_st_eq) hcat hdec hcells
            exact zam_after hrun hB hS hr hn (am_oke_nx ho rfl) k
          · rename_i z0 c0 as3
            obtain ⟨rfl, rfl, rfl, rfl⟩ := am_injc h
            have hcat : 2 * 0 + ((r2.map (am_v ad)).map fun v => v.category).sum ≤ 8 := by
              have := am_cats ad r2
              omega
            have hdec := am_oke_dec ho (fun a b c d h => by cases h)
            simp only [am_lk, hm, Bool.and_eq_true, decide_eq_true_eq] at hl
            obtain ⟨⟨⟨⟨⟨l1, l2⟩, l3⟩, l4⟩, l6⟩, l5⟩ := hl
            obtain ⟨s1, s2⟩ := am_sig_spec l5
            have hna : na - 1 = as3.length := by rw [← hb3]; simp
            rw [hna] at s1
            have cw := va_cnB (R := az_rm d n0 n1) (rm := am_rm d' σ.1 n1') (ret := none) (ws := Cond.code M2.1 M2.2.1 M2.2.2.1 M2.2.2.2.1 :: am_tb) as3.length hB.2.2.2.2.2.1 (am_goodIn (fun w hw => by
                rcases List.mem_cons.mp hw with rfl | z
                · exact hcode
                · exact z)) (by rw [l6]) rfl rfl (hB.2.2.2.2.2.2.2.2.2.2.1 _ l1) (hB.2.2.2.2.2.1 _ (am_in_tb l3)) s1 (az_roomok hd s2)
            have hrun := va_runIN (l := l) (e := e) (below := below) (meth := meth) (locs := locs) (cells := σ.1 - n0) (slots := am_sz σ.1 - am_sz n0) (As := as3.map (am_v ad)) (rest := r2.map (am_v ad)) (g := F0 m pc ls (st.map (am_v ad))) hfix (hC ad H.size hS.hf has) ⟨cw, l4, hB.2.2.2.2.2.1 _ (am_in_tb l2)⟩ ⟨hblind, hpre⟩ rfl (by simp) hsize (by show st.map (am_v ad) = _; rw [hb1]; exact am_st_eq) hcat hdec hcells
            exact zam_after hrun hB hS hr hn (am_oke_nx ho rfl) k
          · cases h
        · rename_i idx
          split at h
          · obtain ⟨rfl, rfl, rfl, rfl⟩ := am_injc h
            have hcat : 2 * 0 + ((r2.map (am_v ad)).map fun v => v.category).sum ≤ 8 := by
              have := am_cats ad r2
              omega
            have hdec := am_oke_dec ho (fun a b c d h => by cases h)
            simp only [am_lk, hm, Bool.and_eq_true, decide_eq_true_eq] at hl
            obtain ⟨⟨⟨⟨l1, l2⟩, l3⟩, l4⟩, l5⟩ := hl
            obtain ⟨s1, s2⟩ := am_sig_spec l5
            have hna : na - 0 = as2.length := by rw [← hb3]; simp
            rw [hna] at s1
            have cw := cwS (R := az_rm d n0 n1) (rm := am_rm d' σ.1 n1') (ws := Cond.code M2.1 M2.2.1 M2.2.2.1 M2.2.2.2.1 :: am_tb) as2.length hB.2.2.2.2.2.1 (am_goodIn (fun w hw => by
                  unfold wsS at hw
                  rcases List.mem_append.mp hw with z | z
                  · simp only [List.mem_cons, List.not_mem_nil, or_false] at z
                    rcases z with rfl | rfl | rfl
                    · exact am_in_tb l1
                    · exact am_in_tb l2
                    · exact am_in_tb l3
                  · rcases List.mem_cons.mp z with rfl | z
                    · exact hcode
                    · exact z)) rfl rfl rfl ⟨l4, s1⟩ (az_roomok hd s2)
            have hrun := va_runS (l := l) (e := e) (below := below) (meth := meth) (locs := locs) (cells := σ.1 - n0) (slots := am_sz σ.1 - am_sz n0) (As := as2.map (am_v ad)) (rest := r2.map (am_v ad)) (g := F0 m pc ls (st.map (am_v ad))) hfix (hC ad H.size hS.hf has) cw ⟨hblind, hpre⟩ rfl (by simp) hsize (by show st.map (am_v ad) = _; rw [hb1]; simp) hcat hdec hcells
            exact zam_after hrun hB hS hr hn (am_oke_nx ho rfl) k
          · cases h
        · cases h
      · cases h
    · cases h
  · cases h
end AmCall


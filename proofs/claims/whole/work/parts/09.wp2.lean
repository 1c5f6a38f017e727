section AmGo2
variable {l : Launch} {dC : Nat → ClassId} {dI : Nat → Nat → Nat} {tc : Nat → ClassId} {M : am_M} {d n0 n1 : Nat} {Q : Option am_V → am_H → Prop} {i : Nat} {lv : am_L} {st : List am_V} {σ : am_H}
variable {p : Program} {e : Env} {s : State} {m : MethodId} {args : Array Value} {below : List Frame} {meth : Method} {c : Code} {ad0 : Nat → Nat} {A : Nat → Prop}
variable {pc nx : Nat} {ins : Instr} {xs : List Nat} {kk : Int} {r : List am_V}
theorem am_hf_u1 {a j : Nat} {x : Int} (h : am_hf σ) (hx : -2147483648 ≤ x ∧ x ≤ 2147483647) : am_hf (σ.1, am_u1 σ.2.1 a j x, σ.2.2.1, σ.2.2.2) := by
  refine ⟨h.1, fun b hb => ⟨fun q => ?_, (h.2 b hb).2⟩⟩
  show -2147483648 ≤ am_u1 σ.2.1 a j x b q ∧ am_u1 σ.2.1 a j x b q ≤ 2147483647
  unfold am_u1
  split
  · split
    · exact hx
    · exact (h.2 b hb).1 q
  · exact (h.2 b hb).1 q
theorem am_hf_u3 {a : Nat} {j x : Int} (h : am_hf σ) (hx : -2147483648 ≤ x ∧ x ≤ 2147483647) : am_hf (σ.1, σ.2.1, am_u3 σ.2.2.1 a j x, σ.2.2.2) := by
  refine ⟨h.1, fun b hb => ⟨(h.2 b hb).1, fun q => ?_, (h.2 b hb).2.2⟩⟩
  show -2147483648 ≤ am_u3 σ.2.2.1 a j x b q ∧ am_u3 σ.2.2.1 a j x b q ≤ 2147483647
  unfold am_u3
  split
  · split
    · exact hx
    · exact (h.2 b hb).2.1 q
  · exact (h.2 b hb).2.1 q
theorem am_hf_u2 {a j : Nat} {k : Option Nat} (h : am_hf σ) (hx : ∀ q, k = some q → q < σ.1) : am_hf (σ.1, σ.2.1, σ.2.2.1, am_u2 σ.2.2.2 a j k) := by
  refine ⟨h.1, fun b hb => ⟨(h.2 b hb).1, (h.2 b hb).2.1, fun q => ?_⟩⟩
  show ∀ z, am_u2 σ.2.2.2 a j k b q = some z → z < σ.1
  unfold am_u2
  split
  · split
    · exact hx
    · exact (h.2 b hb).2.2 q
  · exact (h.2 b hb).2.2 q
theorem am_put_arr {a t len : Nat} {y x : Int} {ad : Nat → Nat} (hy : 0 ≤ y) (ha : a < σ.1) (hsh : am_at am_sh a = some (.inl (t, len))) : (am_w ad tc σ).set a (ad a, .inl (tc t, len, .inl (upd (fun j => Int32.ofInt (σ.2.2.1 a (j : Int))) y.toNat (Int32.ofInt x)))) = am_w ad tc (σ.1, σ.2.1, am_u3 σ.2.2.1 a y x, σ.2.2.2) := by
  refine am_w_put ha rfl ?_ (fun b hb => am_c_same (fun q => rfl) (fun q => by simp [am_u3, hb]) (fun q => rfl))
  unfold am_c
  rw [hsh]
  have e1 : (fun q : Nat => Int32.ofInt (am_u3 σ.2.2.1 a y x a (q : Int))) = upd (fun j => Int32.ofInt (σ.2.2.1 a (j : Int))) y.toNat (Int32.ofInt x) := by
    funext q
    simp only [am_u3, upd, if_true]
    by_cases z : q = y.toNat
    · rw [if_pos z, if_pos (by omega)]
    · rw [if_neg z, if_neg (by omega)]
  simp only [e1]
theorem am_nac {x : Int} (h : 0 ≤ x ∧ x < 65536) : vp_nar .char (Int32.ofInt x) = Int32.ofInt x := by
  have := pk_vc (Int32.ofInt x)
  rwa [am_i2c h] at this
theorem am_naz {x : Int} (h : x = 0 ∨ x = 1) : vp_nar .boolean (Int32.ofInt x) = Int32.ofInt x := by
  rcases h with rfl | rfl <;> decide
theorem gk_iast {x y : Int} {a len : Nat} (hs : 0 ≤ y ∧ y < (len : Int))  (ha : a < σ.1) (hsh : am_at am_sh a = some (.inl (0, len))) (hB : am_B dC dI tc M ad0 A p s m args meth c) (ho : am_oke M (pc, .iastore, nx, xs, kk) = true) (hp : am_pcd M i = pc) (k : am_K l dC dI tc M d n0 n1 Q p e s m args below meth c ad0 A nx lv r (σ.1, σ.2.1, am_u3 σ.2.2.1 a y x, σ.2.2.2)) : am_K l dC dI tc M d n0 n1 Q p e s m args below meth c ad0 A i lv (.inl x :: .inl y :: .inr (.inr (some a)) :: r) σ := by
  intro ad H locs ls hS
  have hd := am_oke_dec ho (fun a b c d h => by cases h)
  obtain ⟨hx, hy, -, hr⟩ := hS.vs
  rw [hp]
  refine va_iast hB.1 hB.2.1 hB.2.2.2.2.2.2.2.2.1 hS.2.2.2.1 hS.2.2.2.2.1 hS.2.2.2.2.2.1 a 0 (am_w_arr ha hsh) rfl (am_in hy hs) hd (fun H1 locs1 hP1 hD1 hS1 => ?_)
  rw [am_cl hy, am_put_arr hs.1 ha hsh] at hP1 hD1
  have hk := k ad H1 locs1 ls ⟨hS.1, hS.2.1, ⟨am_hf_u3 hS.hf hx, hr, hS.2.2.1.2.2⟩, hP1, hD1, hS1, hS.lh⟩
  rw [am_oke_nx ho rfl] at hk
  exact hk
theorem gk_cast {x y : Int} {a len : Nat} (hs : 0 ≤ y ∧ y < (len : Int)) (hs2 : 0 ≤ x ∧ x < 65536) (ha : a < σ.1) (hsh : am_at am_sh a = some (.inl (1, len))) (hB : am_B dC dI tc M ad0 A p s m args meth c) (ho : am_oke M (pc, .castore, nx, xs, kk) = true) (hp : am_pcd M i = pc) (k : am_K l dC dI tc M d n0 n1 Q p e s m args below meth c ad0 A nx lv r (σ.1, σ.2.1, am_u3 σ.2.2.1 a y x, σ.2.2.2)) : am_K l dC dI tc M d n0 n1 Q p e s m args below meth c ad0 A i lv (.inl x :: .inl y :: .inr (.inr (some a)) :: r) σ := by
  intro ad H locs ls hS
  have hd := am_oke_dec ho (fun a b c d h => by cases h)
  obtain ⟨hx, hy, -, hr⟩ := hS.vs
  rw [hp]
  refine va_cast hB.1 hB.2.1 hB.2.2.2.2.2.2.2.2.1 hS.2.2.2.1 hS.2.2.2.2.1 hS.2.2.2.2.2.1 a 1 (am_w_arr ha hsh) rfl (am_in hy hs) hd (fun H1 locs1 hP1 hD1 hS1 => ?_)
  rw [am_cl hy, am_nac hs2, am_put_arr hs.1 ha hsh] at hP1 hD1
  have hk := k ad H1 locs1 ls ⟨hS.1, hS.2.1, ⟨am_hf_u3 hS.hf hx, hr, hS.2.2.1.2.2⟩, hP1, hD1, hS1, hS.lh⟩
  rw [am_oke_nx ho rfl] at hk
  exact hk
theorem gk_zast {x y : Int} {a len : Nat} (hs : 0 ≤ y ∧ y < (len : Int)) (hs2 : x = 0 ∨ x = 1) (ha : a < σ.1) (hsh : am_at am_sh a = some (.inl (2, len))) (hB : am_B dC dI tc M ad0 A p s m args meth c) (ho : am_oke M (pc, .bastore, nx, xs, kk) = true) (hp : am_pcd M i = pc) (k : am_K l dC dI tc M d n0 n1 Q p e s m args below meth c ad0 A nx lv r (σ.1, σ.2.1, am_u3 σ.2.2.1 a y x, σ.2.2.2)) : am_K l dC dI tc M d n0 n1 Q p e s m args below meth c ad0 A i lv (.inl x :: .inl y :: .inr (.inr (some a)) :: r) σ := by
  intro ad H locs ls hS
  have hd := am_oke_dec ho (fun a b c d h => by cases h)
  obtain ⟨hx, hy, -, hr⟩ := hS.vs
  rw [hp]
  refine va_zast hB.1 hB.2.1 hB.2.2.2.2.2.2.2.2.1 hS.2.2.2.1 hS.2.2.2.2.1 hS.2.2.2.2.2.1 a 2 (am_w_arr ha hsh) rfl (am_in hy hs) hd (fun H1 locs1 hP1 hD1 hS1 => ?_)
  rw [am_cl hy, am_naz hs2, am_put_arr hs.1 ha hsh] at hP1 hD1
  have hk := k ad H1 locs1 ls ⟨hS.1, hS.2.1, ⟨am_hf_u3 hS.hf hx, hr, hS.2.2.1.2.2⟩, hP1, hD1, hS1, hS.lh⟩
  rw [am_oke_nx ho rfl] at hk
  exact hk
theorem am_lk_put {idx ci j : Nat} (h : am_lk M (.putfield idx) [ci, j] kk = true) : ∃ q, am_at classes ci = some q ∧ j < q.2.2 ∧ (q.2.1 j).1 = q.1 ∧ Cond.fieldLink M.1.cls idx q.1 (q.2.1 j).2.1 (q.2.1 j).2.2.1 ∈ am_tb ∧ ((q.2.1 j).2.2.2 = false ∨ ((q.2.1 j).2.2.2 = true ∧ M.1.name = "<init>" ∧ q.1 = M.1.cls)) := by
  simp only [am_lk] at h
  split at h
  · rename_i q hq
    simp only [Bool.and_eq_true, Bool.or_eq_true, decide_eq_true_eq, beq_iff_eq] at h
    refine ⟨q, hq, h.1.1.1, h.1.1.2, am_in_tb h.1.2, ?_⟩
    rcases h.2 with z | z
    · exact Or.inl z
    · by_cases f : (q.2.1 j).2.2.2 = false
      · exact Or.inl f
      · exact Or.inr ⟨by simpa using f, z.1, z.2⟩
  · cases h
theorem gk_put {idx ci j a kd : Nat} {v : am_V} {σ' : am_H} (ha : a < σ.1) (hsh : am_at am_sh a = some (.inr ci)) (hkd : am_kd ci j = some kd) (h1 : σ'.1 = σ.1) (hv : ∀ ad, am_f ad σ' a j kd = am_v ad v)
    (hne : ∀ b q, b ≠ a ∨ q ≠ j → σ'.2.1 b q = σ.2.1 b q ∧ σ'.2.2.2 b q = σ.2.2.2 b q) (hg3 : σ'.2.2.1 = σ.2.2.1) (hhf : am_hf σ → am_vf σ.1 v → am_hf σ') (hfit : ∀ (ad : Nat → Nat) (ty : FieldType), am_tyk kd ty = true → narrow ty (am_v ad v) = am_v ad v ∧ fits ty (am_v ad v) = true)
    (hB : am_B dC dI tc M ad0 A p s m args meth c) (ho : am_oke M (pc, .putfield idx, nx, [ci, j], kk) = true) (hp : am_pcd M i = pc) (k : am_K l dC dI tc M d n0 n1 Q p e s m args below meth c ad0 A nx lv r σ') : am_K l dC dI tc M d n0 n1 Q p e s m args below meth c ad0 A i lv (v :: .inr (.inr (some a)) :: r) σ := by
  intro ad H locs ls hS
  have hd := am_oke_dec ho (fun a b c d h => by cases h)
  obtain ⟨hx, -, hr⟩ := hS.vs
  rw [hp]
  obtain ⟨q, hq, hj, hT, hlk, hfin⟩ := am_lk_put (am_oke_lk ho)
  obtain ⟨t1, ⟨ks2, hks2, hlen, htk⟩, t3, t4⟩ := am_Tc ci q hq
  obtain ⟨ks, hks, hkj⟩ := am_kd_at hkd
  have hke : ks = ks2 := Option.some.inj (hks.symm.trans hks2)
  subst hke
  have hcq : classes[ci]? = some q := by rw [← am_at_eq]; exact hq
  have hw : (am_w ad tc σ).set a (ad a, .inr (ci, (am_fs ad σ a ks).set j (am_v ad v))) = am_w ad tc σ' := by
    refine am_w_put ha h1 ?_ (fun b hb => am_c_same (fun q => (hne b q (Or.inl hb)).1) (fun q => by rw [hg3]) (fun q => (hne b q (Or.inl hb)).2))
    unfold am_c
    rw [hsh]
    simp only [hks, Option.getD_some]
    rw [am_fs_set (σ := σ) (σ' := σ') hkj (hv ad) (fun i kd hi => by simp only [am_f, (hne a i (Or.inr hi)).1, (hne a i (Or.inr hi)).2])]
  have hfin2 : ∀ (H1 : Heap) (locs1 : List Loc), va_P (dC, dI) classes ((am_w ad tc σ).set a (ad a, .inr (ci, (am_fs ad σ a ks).set j (am_v ad v)))) H1 → va_D A ((am_w ad tc σ).set a (ad a, .inr (ci, (am_fs ad σ a ks).set j (am_v ad v)))) → va_S A s.heap H1 locs1 → W p l e (am_rm d n0 n1) s m args below meth c H1 locs1 (σ.1 - n0) (am_sz σ.1 - am_sz n0) (MQ below (am_Qc dC dI tc ad0 n0 n1 A Q) args s (n1 - n0) (am_sz n1 - am_sz n0) A) (F0 m (pc + 3) ls (r.map (am_v ad))) := by
    intro H1 locs1 hP1 hD1 hS1
    rw [hw] at hP1 hD1
    have hk := k ad H1 locs1 ls ⟨hS.1, by rw [h1]; exact hS.2.1, ⟨hhf hS.hf hx, by rw [h1]; exact hr, by rw [h1]; exact hS.2.2.1.2.2⟩, hP1, hD1, hS1, hS.lh⟩
    rw [am_oke_nx ho rfl, h1] at hk
    exact hk
  obtain ⟨f1, f2⟩ := hfit ad _ (htk j kd hkj)
  rcases hfin with f | ⟨f, f3, f4⟩
  · exact va_put (D := (dC, dI)) (C := q.1) (T := q.2.1) (N := q.2.2) hB.1 hB.2.1 hB.2.2.2.2.2.1 t1 (am_ty ci) t3 t4 hB.2.2.2.2.1 hB.2.2.2.2.2.2.2.2.1 hS.2.2.2.1 hS.2.2.2.2.1 hS.2.2.2.2.2.1 a (am_w_obj ha hsh hks) hcq j hj (hB.2.2.2.2.2.1 _ hlk) (fun z hz => by rw [hT] at hz; exact hz) f (t3 j hj) f1 f2 (by simp only [am_fs, List.length_mapIdx]; omega) hd hfin2
  · exact va_putF (D := (dC, dI)) (C := q.1) (T := q.2.1) (N := q.2.2) hB.1 hB.2.1 hB.2.2.2.2.2.1 t1 (am_ty ci) t3 t4 hB.2.2.2.2.1 hB.2.2.2.2.2.2.2.2.1 hS.2.2.2.1 hS.2.2.2.2.1 hS.2.2.2.2.2.1 a (am_w_obj ha hsh hks) hcq j hj (hB.2.2.2.2.2.1 _ hlk) (fun z hz => by rw [hT] at hz; exact hz) f (hB.2.2.2.2.2.2.2.1.trans f3) (hT.trans f4) (t3 j hj) f1 f2 (by simp only [am_fs, List.length_mapIdx]; omega) hd hfin2
theorem am_u1_ne {h : Nat → Nat → Int} {a j : Nat} {x : Int} {b q : Nat} (hne : b ≠ a ∨ q ≠ j) : am_u1 h a j x b q = h b q := by
  unfold am_u1
  split
  · split
    · rename_i h1 h2
      exact absurd h1 (by rcases hne with z | z; exact z; exact absurd h2 z)
    · rfl
  · rfl
theorem am_u2_ne {h : Nat → Nat → Option Nat} {a j : Nat} {x : Option Nat} {b q : Nat} (hne : b ≠ a ∨ q ≠ j) : am_u2 h a j x b q = h b q := by
  unfold am_u2
  split
  · split
    · rename_i h1 h2
      exact absurd h1 (by rcases hne with z | z; exact z; exact absurd h2 z)
    · rfl
  · rfl
theorem am_u1_eq {h : Nat → Nat → Int} {a j : Nat} {x : Int} : am_u1 h a j x a j = x := by simp [am_u1]
theorem am_u2_eq {h : Nat → Nat → Option Nat} {a j : Nat} {x : Option Nat} : am_u2 h a j x a j = x := by simp [am_u2]
theorem gk_puti {idx ci j a : Nat} {x : Int} (ha : a < σ.1) (hsh : am_at am_sh a = some (.inr ci)) (hkd : am_kd ci j = some 0)
    (hB : am_B dC dI tc M ad0 A p s m args meth c) (ho : am_oke M (pc, .putfield idx, nx, [ci, j], kk) = true) (hp : am_pcd M i = pc) (k : am_K l dC dI tc M d n0 n1 Q p e s m args below meth c ad0 A nx lv r (σ.1, am_u1 σ.2.1 a j x, σ.2.2.1, σ.2.2.2)) : am_K l dC dI tc M d n0 n1 Q p e s m args below meth c ad0 A i lv (.inl x :: .inr (.inr (some a)) :: r) σ :=
  gk_put (σ' := (σ.1, am_u1 σ.2.1 a j x, σ.2.2.1, σ.2.2.2)) ha hsh hkd rfl (fun ad => by simp [am_f, am_v, am_u1_eq]) (fun b q h => ⟨am_u1_ne h, rfl⟩) rfl (fun h1 h2 => am_hf_u1 h1 h2) (fun ad ty h => by cases ty <;> simp_all [am_tyk, am_v, narrow, fits]) hB ho hp k
theorem gk_putz {idx ci j a : Nat} {x : Int} (hs : x = 0 ∨ x = 1) (ha : a < σ.1) (hsh : am_at am_sh a = some (.inr ci)) (hkd : am_kd ci j = some 2)
    (hB : am_B dC dI tc M ad0 A p s m args meth c) (ho : am_oke M (pc, .putfield idx, nx, [ci, j], kk) = true) (hp : am_pcd M i = pc) (k : am_K l dC dI tc M d n0 n1 Q p e s m args below meth c ad0 A nx lv r (σ.1, am_u1 σ.2.1 a j x, σ.2.2.1, σ.2.2.2)) : am_K l dC dI tc M d n0 n1 Q p e s m args below meth c ad0 A i lv (.inl x :: .inr (.inr (some a)) :: r) σ :=
  gk_put (σ' := (σ.1, am_u1 σ.2.1 a j x, σ.2.2.1, σ.2.2.2)) ha hsh hkd rfl (fun ad => by simp [am_f, am_v, am_u1_eq]) (fun b q h => ⟨am_u1_ne h, rfl⟩) rfl (fun h1 h2 => am_hf_u1 h1 h2) (fun ad ty h => by
    have e : ty = .boolean := by cases ty <;> simp_all [am_tyk]
    subst e
    rcases hs with rfl | rfl
    · exact ⟨(by decide : narrow .boolean (.int (Int32.ofInt 0)) = .int (Int32.ofInt 0)), (by decide : fits .boolean (.int (Int32.ofInt 0)) = true)⟩
    · exact ⟨(by decide : narrow .boolean (.int (Int32.ofInt 1)) = .int (Int32.ofInt 1)), (by decide : fits .boolean (.int (Int32.ofInt 1)) = true)⟩) hB ho hp k
theorem gk_puta {idx ci j a b : Nat} (ha : a < σ.1) (hb : b < σ.1) (hsh : am_at am_sh a = some (.inr ci)) (hkd : am_kd ci j = some 1)
    (hB : am_B dC dI tc M ad0 A p s m args meth c) (ho : am_oke M (pc, .putfield idx, nx, [ci, j], kk) = true) (hp : am_pcd M i = pc) (k : am_K l dC dI tc M d n0 n1 Q p e s m args below meth c ad0 A nx lv r (σ.1, σ.2.1, σ.2.2.1, am_u2 σ.2.2.2 a j (some b))) : am_K l dC dI tc M d n0 n1 Q p e s m args below meth c ad0 A i lv (.inr (.inr (some b)) :: .inr (.inr (some a)) :: r) σ :=
  gk_put (σ' := (σ.1, σ.2.1, σ.2.2.1, am_u2 σ.2.2.2 a j (some b))) ha hsh hkd rfl (fun ad => by simp [am_f, am_u2_eq]) (fun b q h => ⟨rfl, am_u2_ne h⟩) rfl (fun h1 h2 => am_hf_u2 h1 (fun q hq => by cases hq; exact hb)) (fun ad ty h => by cases ty <;> simp_all [am_tyk, am_v, narrow, fits]) hB ho hp k
theorem gk_ifeq {o : Int} {t : Nat} {x : Int} (hB : am_B dC dI tc M ad0 A p s m args meth c) (ho : am_oke M (pc, .ifCond .eq o, nx, [t], kk) = true) (hp : am_pcd M i = pc) (kt : x = 0 → am_K l dC dI tc M d n0 n1 Q p e s m args below meth c ad0 A t lv r σ) (kf : ¬ (x = 0) → am_K l dC dI tc M d n0 n1 Q p e s m args below meth c ad0 A nx lv r σ) : am_K l dC dI tc M d n0 n1 Q p e s m args below meth c ad0 A i lv (.inl x :: r) σ := by
  intro ad H locs ls hS
  have hd := am_oke_dec ho (fun a b c d h => by cases h)
  obtain ⟨hx, hr⟩ := hS.vs
  rw [hp]
  refine lv_if_eq hB.1 hB.2.1 hd (am_oke_t ho rfl) (fun z => kt ((am_eq0 hx).mp z) ad H locs ls (hS.sk hr)) (fun z => ?_)
  have hk := kf ((not_congr (am_eq0 hx)).mp z) ad H locs ls (hS.sk hr)
  rw [am_oke_nx ho rfl] at hk
  exact hk
theorem gk_ifne {o : Int} {t : Nat} {x : Int} (hB : am_B dC dI tc M ad0 A p s m args meth c) (ho : am_oke M (pc, .ifCond .ne o, nx, [t], kk) = true) (hp : am_pcd M i = pc) (kt : ¬ x = 0 → am_K l dC dI tc M d n0 n1 Q p e s m args below meth c ad0 A t lv r σ) (kf : ¬ (¬ x = 0) → am_K l dC dI tc M d n0 n1 Q p e s m args below meth c ad0 A nx lv r σ) : am_K l dC dI tc M d n0 n1 Q p e s m args below meth c ad0 A i lv (.inl x :: r) σ := by
  intro ad H locs ls hS
  have hd := am_oke_dec ho (fun a b c d h => by cases h)
  obtain ⟨hx, hr⟩ := hS.vs
  rw [hp]
  refine lv_if_ne hB.1 hB.2.1 hd (am_oke_t ho rfl) (fun z => kt ((not_congr (am_eq0 hx)).mp z) ad H locs ls (hS.sk hr)) (fun z => ?_)
  have hk := kf (fun q => q ((am_eq0 hx).mp z)) ad H locs ls (hS.sk hr)
  rw [am_oke_nx ho rfl] at hk
  exact hk
theorem gk_iflt {o : Int} {t : Nat} {x : Int} (hB : am_B dC dI tc M ad0 A p s m args meth c) (ho : am_oke M (pc, .ifCond .lt o, nx, [t], kk) = true) (hp : am_pcd M i = pc) (kt : x < 0 → am_K l dC dI tc M d n0 n1 Q p e s m args below meth c ad0 A t lv r σ) (kf : ¬ (x < 0) → am_K l dC dI tc M d n0 n1 Q p e s m args below meth c ad0 A nx lv r σ) : am_K l dC dI tc M d n0 n1 Q p e s m args below meth c ad0 A i lv (.inl x :: r) σ := by
  intro ad H locs ls hS
  have hd := am_oke_dec ho (fun a b c d h => by cases h)
  obtain ⟨hx, hr⟩ := hS.vs
  rw [hp]
  refine lv_if_lt hB.1 hB.2.1 hd (am_oke_t ho rfl) (fun z => kt ((am_lt0 hx).mp z) ad H locs ls (hS.sk hr)) (fun z => ?_)
  have hk := kf ((not_congr (am_lt0 hx)).mp z) ad H locs ls (hS.sk hr)
  rw [am_oke_nx ho rfl] at hk
  exact hk
theorem gk_ifge {o : Int} {t : Nat} {x : Int} (hB : am_B dC dI tc M ad0 A p s m args meth c) (ho : am_oke M (pc, .ifCond .ge o, nx, [t], kk) = true) (hp : am_pcd M i = pc) (kt : 0 ≤ x → am_K l dC dI tc M d n0 n1 Q p e s m args below meth c ad0 A t lv r σ) (kf : ¬ (0 ≤ x) → am_K l dC dI tc M d n0 n1 Q p e s m args below meth c ad0 A nx lv r σ) : am_K l dC dI tc M d n0 n1 Q p e s m args below meth c ad0 A i lv (.inl x :: r) σ := by
  intro ad H locs ls hS
  have hd := am_oke_dec ho (fun a b c d h => by cases h)
  obtain ⟨hx, hr⟩ := hS.vs
  rw [hp]
  refine lv_if_ge hB.1 hB.2.1 hd (am_oke_t ho rfl) (fun z => kt ((am_0le hx).mp z) ad H locs ls (hS.sk hr)) (fun z => ?_)
  have hk := kf ((not_congr (am_0le hx)).mp z) ad H locs ls (hS.sk hr)
  rw [am_oke_nx ho rfl] at hk
  exact hk
theorem gk_ifgt {o : Int} {t : Nat} {x : Int} (hB : am_B dC dI tc M ad0 A p s m args meth c) (ho : am_oke M (pc, .ifCond .gt o, nx, [t], kk) = true) (hp : am_pcd M i = pc) (kt : 0 < x → am_K l dC dI tc M d n0 n1 Q p e s m args below meth c ad0 A t lv r σ) (kf : ¬ (0 < x) → am_K l dC dI tc M d n0 n1 Q p e s m args below meth c ad0 A nx lv r σ) : am_K l dC dI tc M d n0 n1 Q p e s m args below meth c ad0 A i lv (.inl x :: r) σ := by
  intro ad H locs ls hS
  have hd := am_oke_dec ho (fun a b c d h => by cases h)
  obtain ⟨hx, hr⟩ := hS.vs
  rw [hp]
  refine lv_if_gt hB.1 hB.2.1 hd (am_oke_t ho rfl) (fun z => kt ((am_0lt hx).mp z) ad H locs ls (hS.sk hr)) (fun z => ?_)
  have hk := kf ((not_congr (am_0lt hx)).mp z) ad H locs ls (hS.sk hr)
  rw [am_oke_nx ho rfl] at hk
  exact hk
theorem gk_ifle {o : Int} {t : Nat} {x : Int} (hB : am_B dC dI tc M ad0 A p s m args meth c) (ho : am_oke M (pc, .ifCond .le o, nx, [t], kk) = true) (hp : am_pcd M i = pc) (kt : x ≤ 0 → am_K l dC dI tc M d n0 n1 Q p e s m args below meth c ad0 A t lv r σ) (kf : ¬ (x ≤ 0) → am_K l dC dI tc M d n0 n1 Q p e s m args below meth c ad0 A nx lv r σ) : am_K l dC dI tc M d n0 n1 Q p e s m args below meth c ad0 A i lv (.inl x :: r) σ := by
  intro ad H locs ls hS
  have hd := am_oke_dec ho (fun a b c d h => by cases h)
  obtain ⟨hx, hr⟩ := hS.vs
  rw [hp]
  refine lv_if_le hB.1 hB.2.1 hd (am_oke_t ho rfl) (fun z => kt ((am_le0 hx).mp z) ad H locs ls (hS.sk hr)) (fun z => ?_)
  have hk := kf ((not_congr (am_le0 hx)).mp z) ad H locs ls (hS.sk hr)
  rw [am_oke_nx ho rfl] at hk
  exact hk
theorem gk_iceq {o : Int} {t : Nat} {x y : Int} (hB : am_B dC dI tc M ad0 A p s m args meth c) (ho : am_oke M (pc, .if_icmp .eq o, nx, [t], kk) = true) (hp : am_pcd M i = pc) (kt : x = y → am_K l dC dI tc M d n0 n1 Q p e s m args below meth c ad0 A t lv r σ) (kf : ¬ (x = y) → am_K l dC dI tc M d n0 n1 Q p e s m args below meth c ad0 A nx lv r σ) : am_K l dC dI tc M d n0 n1 Q p e s m args below meth c ad0 A i lv (.inl y :: .inl x :: r) σ := by
  intro ad H locs ls hS
  have hd := am_oke_dec ho (fun a b c d h => by cases h)
  obtain ⟨hy, hx, hr⟩ := hS.vs
  rw [hp]
  refine lv_icmp_eq hB.1 hB.2.1 hd (am_oke_t ho rfl) (fun z => kt ((am_eq hx hy).mp z) ad H locs ls (hS.sk hr)) (fun z => ?_)
  have hk := kf ((not_congr (am_eq hx hy)).mp z) ad H locs ls (hS.sk hr)
  rw [am_oke_nx ho rfl] at hk
  exact hk
theorem gk_icne {o : Int} {t : Nat} {x y : Int} (hB : am_B dC dI tc M ad0 A p s m args meth c) (ho : am_oke M (pc, .if_icmp .ne o, nx, [t], kk) = true) (hp : am_pcd M i = pc) (kt : ¬ x = y → am_K l dC dI tc M d n0 n1 Q p e s m args below meth c ad0 A t lv r σ) (kf : ¬ (¬ x = y) → am_K l dC dI tc M d n0 n1 Q p e s m args below meth c ad0 A nx lv r σ) : am_K l dC dI tc M d n0 n1 Q p e s m args below meth c ad0 A i lv (.inl y :: .inl x :: r) σ := by
  intro ad H locs ls hS
  have hd := am_oke_dec ho (fun a b c d h => by cases h)
  obtain ⟨hy, hx, hr⟩ := hS.vs
  rw [hp]
  refine lv_icmp_ne hB.1 hB.2.1 hd (am_oke_t ho rfl) (fun z => kt ((not_congr (am_eq hx hy)).mp z) ad H locs ls (hS.sk hr)) (fun z => ?_)
  have hk := kf (fun q => q ((am_eq hx hy).mp z)) ad H locs ls (hS.sk hr)
  rw [am_oke_nx ho rfl] at hk
  exact hk
theorem gk_iclt {o : Int} {t : Nat} {x y : Int} (hB : am_B dC dI tc M ad0 A p s m args meth c) (ho : am_oke M (pc, .if_icmp .lt o, nx, [t], kk) = true) (hp : am_pcd M i = pc) (kt : x < y → am_K l dC dI tc M d n0 n1 Q p e s m args below meth c ad0 A t lv r σ) (kf : ¬ (x < y) → am_K l dC dI tc M d n0 n1 Q p e s m args below meth c ad0 A nx lv r σ) : am_K l dC dI tc M d n0 n1 Q p e s m args below meth c ad0 A i lv (.inl y :: .inl x :: r) σ := by
  intro ad H locs ls hS
  have hd := am_oke_dec ho (fun a b c d h => by cases h)
  obtain ⟨hy, hx, hr⟩ := hS.vs
  rw [hp]
  refine lv_icmp_lt hB.1 hB.2.1 hd (am_oke_t ho rfl) (fun z => kt ((am_lt hx hy).mp z) ad H locs ls (hS.sk hr)) (fun z => ?_)
  have hk := kf ((not_congr (am_lt hx hy)).mp z) ad H locs ls (hS.sk hr)
  rw [am_oke_nx ho rfl] at hk
  exact hk
theorem gk_icge {o : Int} {t : Nat} {x y : Int} (hB : am_B dC dI tc M ad0 A p s m args meth c) (ho : am_oke M (pc, .if_icmp .ge o, nx, [t], kk) = true) (hp : am_pcd M i = pc) (kt : y ≤ x → am_K l dC dI tc M d n0 n1 Q p e s m args below meth c ad0 A t lv r σ) (kf : ¬ (y ≤ x) → am_K l dC dI tc M d n0 n1 Q p e s m args below meth c ad0 A nx lv r σ) : am_K l dC dI tc M d n0 n1 Q p e s m args below meth c ad0 A i lv (.inl y :: .inl x :: r) σ := by
  intro ad H locs ls hS
  have hd := am_oke_dec ho (fun a b c d h => by cases h)
  obtain ⟨hy, hx, hr⟩ := hS.vs
  rw [hp]
  refine lv_icmp_ge hB.1 hB.2.1 hd (am_oke_t ho rfl) (fun z => kt ((am_le hy hx).mp z) ad H locs ls (hS.sk hr)) (fun z => ?_)
  have hk := kf ((not_congr (am_le hy hx)).mp z) ad H locs ls (hS.sk hr)
  rw [am_oke_nx ho rfl] at hk
  exact hk
theorem gk_icgt {o : Int} {t : Nat} {x y : Int} (hB : am_B dC dI tc M ad0 A p s m args meth c) (ho : am_oke M (pc, .if_icmp .gt o, nx, [t], kk) = true) (hp : am_pcd M i = pc) (kt : y < x → am_K l dC dI tc M d n0 n1 Q p e s m args below meth c ad0 A t lv r σ) (kf : ¬ (y < x) → am_K l dC dI tc M d n0 n1 Q p e s m args below meth c ad0 A nx lv r σ) : am_K l dC dI tc M d n0 n1 Q p e s m args below meth c ad0 A i lv (.inl y :: .inl x :: r) σ := by
  intro ad H locs ls hS
  have hd := am_oke_dec ho (fun a b c d h => by cases h)
  obtain ⟨hy, hx, hr⟩ := hS.vs
  rw [hp]
  refine lv_icmp_gt hB.1 hB.2.1 hd (am_oke_t ho rfl) (fun z => kt ((am_lt hy hx).mp z) ad H locs ls (hS.sk hr)) (fun z => ?_)
  have hk := kf ((not_congr (am_lt hy hx)).mp z) ad H locs ls (hS.sk hr)
  rw [am_oke_nx ho rfl] at hk
  exact hk
theorem gk_icle {o : Int} {t : Nat} {x y : Int} (hB : am_B dC dI tc M ad0 A p s m args meth c) (ho : am_oke M (pc, .if_icmp .le o, nx, [t], kk) = true) (hp : am_pcd M i = pc) (kt : x ≤ y → am_K l dC dI tc M d n0 n1 Q p e s m args below meth c ad0 A t lv r σ) (kf : ¬ (x ≤ y) → am_K l dC dI tc M d n0 n1 Q p e s m args below meth c ad0 A nx lv r σ) : am_K l dC dI tc M d n0 n1 Q p e s m args below meth c ad0 A i lv (.inl y :: .inl x :: r) σ := by
  intro ad H locs ls hS
  have hd := am_oke_dec ho (fun a b c d h => by cases h)
  obtain ⟨hy, hx, hr⟩ := hS.vs
  rw [hp]
  refine lv_icmp_le hB.1 hB.2.1 hd (am_oke_t ho rfl) (fun z => kt ((am_le hx hy).mp z) ad H locs ls (hS.sk hr)) (fun z => ?_)
  have hk := kf ((not_congr (am_le hx hy)).mp z) ad H locs ls (hS.sk hr)
  rw [am_oke_nx ho rfl] at hk
  exact hk
theorem gk_iret {x : Int} (hret : M.2.2.2.1 = some .int) (hn : σ.1 = n1) (hq : Q (some (.inl x)) σ) (hB : am_B dC dI tc M ad0 A p s m args meth c) (ho : am_oke M (pc, .ireturn, nx, xs, kk) = true) (hp : am_pcd M i = pc) : am_K l dC dI tc M d n0 n1 Q p e s m args below meth c ad0 A i lv [.inl x] σ := by
  intro ad H locs ls hS
  have hd := am_oke_dec ho (fun a b c d h => by cases h)
  rw [hp]
  subst hn
  have hlocks := hB.2.2.2.2.2.2.1
  exact W.iret hB.1 hB.2.1 (hB.2.2.1.trans hret) (fun t ht hW => ⟨⟨some (.inl x), σ, ad, rfl, hq, hS.1, rfl, hS.hf, fun v hv => by cases hv; exact hS.vs.1, by rw [ht]; exact hS.2.2.2.1, hS.2.2.2.2.1⟩, hS.2.2.2.2.2.1.F ht⟩) hS.2.2.2.2.2.1.2.2 hd hlocks
theorem gk_zret {x : Int} (hret : M.2.2.2.1 = some .boolean) (hz : x = 0 ∨ x = 1) (hn : σ.1 = n1) (hq : Q (some (.inl x)) σ) (hB : am_B dC dI tc M ad0 A p s m args meth c) (ho : am_oke M (pc, .ireturn, nx, xs, kk) = true) (hp : am_pcd M i = pc) : am_K l dC dI tc M d n0 n1 Q p e s m args below meth c ad0 A i lv [.inl x] σ := by
  intro ad H locs ls hS
  have hd := am_oke_dec ho (fun a b c d h => by cases h)
  rw [hp]
  subst hn
  have hlocks := hB.2.2.2.2.2.2.1
  exact W.zret hB.1 hB.2.1 (hB.2.2.1.trans hret) (by rcases hz with rfl | rfl <;> decide) (fun t ht hW => ⟨⟨some (.inl x), σ, ad, rfl, hq, hS.1, rfl, hS.hf, fun v hv => by cases hv; exact hS.vs.1, by rw [ht]; exact hS.2.2.2.1, hS.2.2.2.2.1⟩, hS.2.2.2.2.2.1.F ht⟩) hS.2.2.2.2.2.1.2.2 hd hlocks
theorem gk_lret {x : Int} (hret : M.2.2.2.1 = some .long) (hn : σ.1 = n1) (hq : Q (some (.inr (.inl x))) σ) (hB : am_B dC dI tc M ad0 A p s m args meth c) (ho : am_oke M (pc, .lreturn, nx, xs, kk) = true) (hp : am_pcd M i = pc) : am_K l dC dI tc M d n0 n1 Q p e s m args below meth c ad0 A i lv [.inr (.inl x)] σ := by
  intro ad H locs ls hS
  have hd := am_oke_dec ho (fun a b c d h => by cases h)
  rw [hp]
  subst hn
  have hlocks := hB.2.2.2.2.2.2.1
  exact W.lret hB.1 hB.2.1 (hB.2.2.1.trans hret) (fun t ht hW => ⟨⟨some (.inr (.inl x)), σ, ad, rfl, hq, hS.1, rfl, hS.hf, fun v hv => by cases hv; exact hS.vs.1, by rw [ht]; exact hS.2.2.2.1, hS.2.2.2.2.1⟩, hS.2.2.2.2.2.1.F ht⟩) hS.2.2.2.2.2.1.2.2 hd hlocks
theorem gk_vret {x : Int} (hret : M.2.2.2.1 = none) (hn : σ.1 = n1) (hq : Q (none) σ) (hB : am_B dC dI tc M ad0 A p s m args meth c) (ho : am_oke M (pc, .return_, nx, xs, kk) = true) (hp : am_pcd M i = pc) : am_K l dC dI tc M d n0 n1 Q p e s m args below meth c ad0 A i lv [] σ := by
  intro ad H locs ls hS
  have hd := am_oke_dec ho (fun a b c d h => by cases h)
  rw [hp]
  subst hn
  have hlocks := hB.2.2.2.2.2.2.1
  exact W.vret hB.1 hB.2.1 (hB.2.2.1.trans hret) (fun t ht hW => ⟨⟨none, σ, ad, rfl, hq, hS.1, rfl, hS.hf, (fun v hv => by cases hv), by rw [ht]; exact hS.2.2.2.1, hS.2.2.2.2.1⟩, hS.2.2.2.2.2.1.F ht⟩) hS.2.2.2.2.2.1.2.2 hd hlocks
theorem gk_aret {x : Nat} {cn : String} (hret : M.2.2.2.1 = some (.object cn)) (hn : σ.1 = n1) (hq : Q (some (.inr (.inr (some x)))) σ) (hB : am_B dC dI tc M ad0 A p s m args meth c) (ho : am_oke M (pc, .areturn, nx, xs, kk) = true) (hp : am_pcd M i = pc) : am_K l dC dI tc M d n0 n1 Q p e s m args below meth c ad0 A i lv [.inr (.inr (some x))] σ := by
  intro ad H locs ls hS
  have hd := am_oke_dec ho (fun a b c d h => by cases h)
  rw [hp]
  subst hn
  have hlocks := hB.2.2.2.2.2.2.1
  exact W.aret hB.1 hB.2.1 (hB.2.2.1.trans hret) (Or.inl ⟨cn, rfl⟩) (Or.inr ⟨ad x, rfl⟩) (fun t ht hW => ⟨⟨some (.inr (.inr (some x))), σ, ad, rfl, hq, hS.1, rfl, hS.hf, fun v hv => by cases hv; exact hS.vs.1, by rw [ht]; exact hS.2.2.2.1, hS.2.2.2.2.1⟩, hS.2.2.2.2.2.1.F ht⟩) hS.2.2.2.2.2.1.2.2 hd hlocks
end AmGo2

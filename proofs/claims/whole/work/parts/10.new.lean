section AmGo3
variable {l : Launch} {dC : Nat → ClassId} {dI : Nat → Nat → Nat} {tc : Nat → ClassId} {M : am_M} {d n0 n1 : Nat} {Q : Option am_V → am_H → Prop} {i : Nat} {lv : am_L} {st : List am_V} {σ : am_H}
variable {p : Program} {e : Env} {s : State} {m : MethodId} {args : Array Value} {below : List Frame} {meth : Method} {c : Code} {ad0 : Nat → Nat} {A : Nat → Prop}
variable {pc nx : Nat} {ins : Instr} {xs : List Nat} {kk : Int} {r : List am_V} {n : Nat} {h : Nat → Nat → Int} {g : Nat → Int → Int} {rf : Nat → Nat → Option Nat}
def am_ua (ad : Nat → Nat) (n q : Nat) : Nat → Nat := fun k => if k = n then q else ad k
theorem am_v_ad {ad ad' : Nat → Nat} {n : Nat} (h : ∀ k, k < n ∨ 1000 ≤ k → ad' k = ad k) {v : am_V} (hv : am_vf n v) : am_v ad' v = am_v ad v := by
  rcases v with x | y | k
  · rfl
  · rfl
  · cases k with
    | none => rfl
    | some k =>
      have : ad' k = ad k := h k (hv k rfl)
      simp only [am_v, this]
theorem am_vs_ad {ad ad' : Nat → Nat} {n : Nat} (h : ∀ k, k < n ∨ 1000 ≤ k → ad' k = ad k) {st : List am_V} (hv : am_vs n st) : st.map (am_v ad') = st.map (am_v ad) := by
  apply List.map_congr_left
  intro v q
  exact am_v_ad h (am_vs_mem hv v q)
theorem am_lh_ad {ad ad' : Nat → Nat} {n nL : Nat} {ls : Array Slot} (h : ∀ k, k < n ∨ 1000 ≤ k → ad' k = ad k) (hv : ∀ i v, am_get lv i = some v → am_vf n v) (hl : am_lh ad ls nL lv) : am_lh ad' ls nL lv :=
  ⟨hl.1, hl.2.1, hl.2.2.1, fun i v hi => by rw [am_v_ad h (hv i v hi)]; exact hl.2.2.2 i v hi⟩
theorem am_ua_ad {ad : Nat → Nat} {n q : Nat} (hn : n < 1000) : ∀ k, k < n ∨ 1000 ≤ k → am_ua ad n q k = ad k := by
  intro k hk
  unfold am_ua
  rw [if_neg (by omega)]
theorem am_w_new {ad : Nat → Nat} {q : Nat} {E : va_E} (hn : n < 1000) (hf : am_hf (n, h, g, rf)) (hE : am_c (am_ua ad n q) tc (n + 1, am_n1 h n, am_n3 g n, am_n2 rf n) n = (q, E)) : am_w ad tc (n, h, g, rf) ++ [(q, E)] = am_w (am_ua ad n q) tc (n + 1, am_n1 h n, am_n3 g n, am_n2 rf n) := by
  unfold am_w
  show _ = List.map _ (List.range (n + 1))
  rw [List.range_succ, List.map_append, List.map_singleton, hE]
  congr 1
  apply List.map_congr_left
  intro b hb
  have hb : b < n := List.mem_range.mp hb
  have e0 : am_ua ad n q b = ad b := am_ua_ad hn b (Or.inl hb)
  have e1 : ∀ j, am_n1 h n b j = h b j := fun j => by unfold am_n1; rw [if_neg (by omega)]
  have e4 : ∀ j, am_n3 g n b j = g b j := fun j => by unfold am_n3; rw [if_neg (by omega)]
  have e2 : ∀ j, am_n2 rf n b j = rf b j := fun j => by unfold am_n2; rw [if_neg (by omega)]
  have e3 : ∀ ks : List Nat, am_fs (am_ua ad n q) (n + 1, am_n1 h n, am_n3 g n, am_n2 rf n) b ks = am_fs ad (n, h, g, rf) b ks := fun ks => by
    unfold am_fs
    congr 1
    funext j kd
    simp only [am_f, e1, e2]
    rw [am_v_ad (am_ua_ad hn) (show am_vf n (.inr (.inr (rf b j))) from fun q hq => Or.inl ((hf.2 b hb).2.2 j q hq))]
  unfold am_c
  simp only [e0, e4, e3]
theorem am_hf_new (hn : n < 1000) (hf : am_hf (n, h, g, rf)) : am_hf (n + 1, am_n1 h n, am_n3 g n, am_n2 rf n) := by
  refine ⟨hn, fun b hb => ?_⟩
  show (∀ j, -2147483648 ≤ am_n1 h n b j ∧ am_n1 h n b j ≤ 2147483647) ∧ (∀ j, -2147483648 ≤ am_n3 g n b j ∧ am_n3 g n b j ≤ 2147483647) ∧ ∀ j q, am_n2 rf n b j = some q → q < n + 1
  by_cases z : b = n
  · simp only [am_n1, am_n2, am_n3, if_pos z]
    exact ⟨fun _ => by omega, fun _ => by omega, fun j q hq => by cases hq⟩
  · simp only [am_n1, am_n2, am_n3, if_neg z]
    have hb : b < n + 1 := hb
    have := hf.2 b (show b < n by omega)
    exact ⟨this.1, this.2.1, fun j q hq => Nat.lt_succ_of_lt (this.2.2 j q hq)⟩
theorem am_ra_prim {U : State} {c1 c2 : ClassId} {ty : FieldType} (hp : ty = .int ∨ ty = .char ∨ ty = .boolean) (h1 : va_RA U c1 ty) (h2 : va_RA U c2 ty) : c1 = c2 := by
  rcases hp with rfl | rfl | rfl <;> exact Option.some.inj (h1.symm.trans h2)
theorem gk_newa {x : Int} {aty : ArrayType} {ty : FieldType} {t len : Nat} (hx : x = (len : Int)) (hn1 : n < n1) (hsh : am_at am_sh n = some (.inl (t, len))) (hty : newarray.typeOf aty = ty) (ht : (am_tys tc)[t]? = some (tc t, ty)) (hpr : ty = .int ∨ ty = .char ∨ ty = .boolean)
    (hB : am_B dC dI tc M ad0 A p s m args meth c) (ho : am_oke M (pc, .newarray aty, nx, xs, kk) = true) (hp : am_pcd M i = pc) (k : am_K l dC dI tc M d n0 n1 Q p e s m args below meth c ad0 A nx lv (.inr (.inr (some n)) :: r) (n + 1, am_n1 h n, am_n3 g n, am_n2 rf n)) : am_K l dC dI tc M d n0 n1 Q p e s m args below meth c ad0 A i lv (.inl x :: r) (n, h, g, rf) := by
  intro ad H locs ls hS
  have hd := am_oke_dec ho (fun a b c d h => by cases h)
  obtain ⟨hxr, hr⟩ := hS.vs
  have hn0 : n0 ≤ n := hS.2.1
  have hnk : n < 1000 := am_Tsh1 n _ hsh
  have hlen := am_Tlen n t len hsh
  have hszn : am_sz (n + 1) = am_sz n + len := by
    show am_sz n + am_szc n = am_sz n + len
    unfold am_szc
    rw [hsh]
  have hm1 := am_sz_mono (show n + 1 ≤ n1 from hn1)
  have hm0 := am_sz_mono hn0
  have harr : Cond.arrayClass (newarray.typeOf aty) ∈ am_tb := by
    rw [hty]
    rcases hpr with rfl | rfl | rfl
    · exact am_Tarr.1
    · exact am_Tarr.2.1
    · exact am_Tarr.2.2
  rw [hp]
  show W p l e (am_rm d n0 n1) s m args below meth c H locs (n - n0) (am_sz n - am_sz n0) _ _
  refine va_newa hB.1 hB.2.1 (hB.2.2.2.2.2.1 _ harr) hty hB.2.2.2.2.2.2.2.2.1 hS.2.2.2.1 hS.2.2.2.2.1 hS.2.2.2.2.2.1 hB.2.2.2.2.2.2.2.2.2.1 (N' := len) (a0 := (len, .inl (fun _ => 0))) (fun cA => ?_) (fun z => ?_) ?_ ?_ ?_ ?_ hd (fun q cA H1 hK1 hP1 hD1 hS1 => ?_)
  · rcases hpr with rfl | rfl | rfl <;> rfl
  · have := (am_lt0 hxr).mp z
    omega
  · rw [am_cl hxr, hx]; rfl
  · have : componentBytes ty ≤ 8 := by rcases hpr with rfl | rfl | rfl <;> decide
    have := Nat.mul_le_mul_left len this
    omega
  · show n - n0 + 1 ≤ n1 - n0
    omega
  · show am_sz n - am_sz n0 + len ≤ am_sz n1 - am_sz n0
    omega
  · have hcA : cA = tc t := by
      have h1 := (hK1.2 3 (cA, ty) rfl).2
      have h2 := (hB.2.2.2.2.2.2.2.2.1.2 t (tc t, ty) ht).2
      exact am_ra_prim hpr h1 h2
    subst hcA
    have hE : am_c (am_ua ad n q) tc (n + 1, am_n1 h n, am_n3 g n, am_n2 rf n) n = (q, .inl (tc t, len, .inl (fun _ => 0))) := by
      unfold am_c
      rw [hsh]
      have e1 : (fun j : Nat => Int32.ofInt (am_n3 g n n (j : Int))) = (fun _ : Nat => (0 : Int32)) := by
        funext j
        simp [am_n3]
      simp only [am_ua, if_true, e1]
    rw [am_w_new hnk hS.hf hE] at hP1 hD1
    have hua := am_ua_ad (ad := ad) (q := q) hnk
    have hk := k (am_ua ad n q) H1 locs ls ⟨fun b hb => by rw [hua b (by omega)]; exact hS.1 b hb, by show n0 ≤ n + 1; omega, ⟨am_hf_new hnk hS.hf, ⟨fun z hz => by cases hz; exact Or.inl (Nat.lt_succ_self n), am_vs_up (Nat.le_succ n) hr⟩, fun b v hb => am_vf_up (Nat.le_succ n) (hS.lvf hb)⟩, hP1, hD1, hS1, am_lh_ad hua (fun b v hb => hS.lvf hb) hS.lh⟩
    rw [am_oke_nx ho rfl] at hk
    have e2 : List.map (am_v (am_ua ad n q)) (.inr (.inr (some n)) :: r) = .ref q :: r.map (am_v ad) := by
      rw [List.map_cons, am_vs_ad hua hr]
      simp [am_v, am_ua]
    rw [e2] at hk
    have e3 : n - n0 + 1 = n + 1 - n0 := by omega
    have e4 : am_sz n - am_sz n0 + len = am_sz (n + 1) - am_sz n0 := by omega
    rw [e3, e4]
    exact hk
theorem am_tyk_def {kd : Nat} {ty : FieldType} (h : am_tyk kd ty = true) : (kd = 1 ∧ defaultValue ty = .null) ∨ (kd ≠ 1 ∧ defaultValue ty = .int 0) := by
  unfold am_tyk at h
  split at h
  · exact Or.inr ⟨by decide, rfl⟩
  · exact Or.inr ⟨by decide, rfl⟩
  · exact Or.inl ⟨rfl, rfl⟩
  · exact Or.inl ⟨rfl, rfl⟩
  · cases h
theorem gk_new {idx ci : Nat} (hn1 : n < n1) (hsh : am_at am_sh n = some (.inr ci))
    (hB : am_B dC dI tc M ad0 A p s m args meth c) (ho : am_oke M (pc, .new idx, nx, [ci], kk) = true) (hp : am_pcd M i = pc) (k : am_K l dC dI tc M d n0 n1 Q p e s m args below meth c ad0 A nx lv (.inr (.inr (some n)) :: r) (n + 1, am_n1 h n, am_n3 g n, am_n2 rf n)) : am_K l dC dI tc M d n0 n1 Q p e s m args below meth c ad0 A i lv r (n, h, g, rf) := by
  intro ad H locs ls hS
  have hd := am_oke_dec ho (fun a b c d h => by cases h)
  have hr := hS.vs
  have hn0 : n0 ≤ n := hS.2.1
  have hnk : n < 1000 := am_Tsh1 n _ hsh
  have hl := am_oke_lk ho
  simp only [am_lk] at hl
  split at hl
  · rename_i q hq
    simp only [Bool.and_eq_true] at hl
    obtain ⟨t1, ⟨ks, hks, hlen, htk⟩, t3, t4⟩ := am_Tc ci q hq
    have hszn : am_sz (n + 1) = am_sz n + q.2.2 := by
      show am_sz n + am_szc n = am_sz n + q.2.2
      unfold am_szc
      rw [hsh]
      simp only [hks, hlen]
    have hm1 := am_sz_mono (show n + 1 ≤ n1 from hn1)
    have hm0 := am_sz_mono hn0
    rw [hp]
    show W p l e (am_rm d n0 n1) s m args below meth c H locs (n - n0) (am_sz n - am_sz n0) _ _
    refine va_new (D := (dC, dI)) (C := q.1) (T := q.2.1) (N := q.2.2) (fs := am_fs ad (n + 1, am_n1 h n, am_n3 g n, am_n2 rf n) n ks) hB.1 hB.2.1 hB.2.2.2.2.2.1 t1 (am_ty ci) t3 hB.2.2.2.2.1 (hB.2.2.2.2.2.1 _ (am_in_tb hl.1.1)) (hB.2.2.2.2.2.1 _ (am_in_tb hl.1.2)) (hB.2.2.2.2.2.1 _ (am_in_tb hl.2)) hB.2.2.2.2.2.2.2.2.1 hS.2.2.2.1 hS.2.2.2.2.1 hS.2.2.2.2.2.1 hB.2.2.2.2.2.2.2.2.2.1 (by rw [← am_at_eq]; exact hq) (fun j hj => ?_) ?_ ?_ hd (fun b H1 hP1 hD1 hS1 => ?_)
    · have hkj : ks[j]? = some ks[j] := List.getElem?_eq_getElem (by omega)
      have e1 := am_fs_at (ad := ad) (σ := (n + 1, am_n1 h n, am_n3 g n, am_n2 rf n)) (c := n) hkj
      unfold vp_V
      rw [List.getD_eq_getElem?_getD, e1, Option.getD_some]
      rcases am_tyk_def (htk j _ hkj) with z | z
      · rw [z.2]; unfold am_f; rw [if_pos z.1]; simp [am_n2, am_v]
      · rw [z.2]; unfold am_f; rw [if_neg z.1]; simp [am_n1]
    · show n - n0 + 1 ≤ n1 - n0
      omega
    · show am_sz n - am_sz n0 + q.2.2 ≤ am_sz n1 - am_sz n0
      omega
    · have e0 : ∀ ks : List Nat, am_fs (am_ua ad n b) (n + 1, am_n1 h n, am_n3 g n, am_n2 rf n) n ks = am_fs ad (n + 1, am_n1 h n, am_n3 g n, am_n2 rf n) n ks := fun ks => by
        unfold am_fs
        congr 1
        funext j kd
        simp [am_f, am_n2, am_v]
      have hE : am_c (am_ua ad n b) tc (n + 1, am_n1 h n, am_n3 g n, am_n2 rf n) n = (b, .inr (ci, am_fs ad (n + 1, am_n1 h n, am_n3 g n, am_n2 rf n) n ks)) := by
        unfold am_c
        rw [hsh]
        simp only [hks, Option.getD_some, e0, am_ua, if_true]
      rw [am_w_new hnk hS.hf hE] at hP1 hD1
      have hua := am_ua_ad (ad := ad) (q := b) hnk
      have hk := k (am_ua ad n b) H1 locs ls ⟨fun b hb => by rw [hua b (by omega)]; exact hS.1 b hb, by show n0 ≤ n + 1; omega, ⟨am_hf_new hnk hS.hf, ⟨fun z hz => by cases hz; exact Or.inl (Nat.lt_succ_self n), am_vs_up (Nat.le_succ n) hr⟩, fun b v hb => am_vf_up (Nat.le_succ n) (hS.lvf hb)⟩, hP1, hD1, hS1, am_lh_ad hua (fun b v hb => hS.lvf hb) hS.lh⟩
      rw [am_oke_nx ho rfl] at hk
      have e2 : List.map (am_v (am_ua ad n b)) (.inr (.inr (some n)) :: r) = .ref b :: r.map (am_v ad) := by
        rw [List.map_cons, am_vs_ad hua hr]
        simp [am_v, am_ua]
      rw [e2] at hk
      have e3 : n - n0 + 1 = n + 1 - n0 := by omega
      have e4 : am_sz n - am_sz n0 + q.2.2 = am_sz (n + 1) - am_sz n0 := by omega
      rw [e3, e4]
      exact hk
  · cases hl
end AmGo3

/-! the law, from its entry -/
theorem ls_d0 : decode code 0 = .ok (.new 8, 3) := by decide +kernel
theorem ls_d3 : decode code 3 = .ok (.dup, 1) := by decide +kernel
theorem ls_d4 : decode code 4 = .ok (.invokespecial 15, 3) := by decide +kernel
theorem ls_d7 : decode code 7 = .ok (.astore_n 1, 1) := by decide +kernel
theorem ls_d8 : decode code 8 = .ok (.new 16, 3) := by decide +kernel
theorem ls_d11 : decode code 11 = .ok (.dup, 1) := by decide +kernel
theorem ls_d12 : decode code 12 = .ok (.invokespecial 18, 3) := by decide +kernel
theorem ls_d15 : decode code 15 = .ok (.astore_n 2, 1) := by decide +kernel
theorem ls_d16 : decode code 16 = .ok (.iconst 1, 1) := by decide +kernel
theorem ls_d17 : decode code 17 = .ok (.newarray .long, 2) := by decide +kernel
theorem ls_d19 : decode code 19 = .ok (.astore_n 3, 1) := by decide +kernel
theorem ls_d20 : decode code 20 = .ok (.iconst 0, 1) := by decide +kernel
theorem ls_d21 : decode code 21 = .ok (.istore 4, 2) := by decide +kernel
theorem ls_k1 : am_isin (.classLink R_law 8 nR0) = true ∧ am_isin (.instantiable nR0 10) = true ∧ am_isin (.initialized nR0) = true := ⟨by decide +kernel, by decide +kernel, by decide +kernel⟩
theorem ls_k2 : am_isin (.classLink R_law 16 nR6) = true ∧ am_isin (.instantiable nR6 30) = true ∧ am_isin (.initialized nR6) = true := ⟨by decide +kernel, by decide +kernel, by decide +kernel⟩
theorem ls_k3 : am_isin (Cond.methodLink R_law 15 mm0_init.1) = true ∧ am_isin (Cond.instanceMethod mm0_init.1) = true ∧ am_isin (Cond.initialized mm0_init.1.cls) = true ∧ am_sig mm0_init 1 (0 + 1) = true := ⟨by decide +kernel, by decide +kernel, by decide +kernel, by decide +kernel⟩
theorem ls_k4 : am_isin (Cond.methodLink R_law 18 mm6_init.1) = true ∧ am_isin (Cond.instanceMethod mm6_init.1) = true ∧ am_isin (Cond.initialized mm6_init.1.cls) = true ∧ am_sig mm6_init 1 (0 + 1) = true := ⟨by decide +kernel, by decide +kernel, by decide +kernel, by decide +kernel⟩
theorem ls_n1 : am_n1 (fun _ _ => 0) 0 = fun _ _ => 0 := by
  funext a b
  unfold am_n1
  split <;> rfl
theorem ls_n3 : am_n3 (fun _ _ => 0) 0 = fun _ _ => 0 := by
  funext a b
  unfold am_n3
  split <;> rfl
theorem ls_n2 : am_n2 (fun _ _ => none) 0 = fun _ _ => none := by
  funext a b
  unfold am_n2
  split <;> rfl
section LsW
variable {p : Program} {l : Launch} {e : Env} {s : State} {m : MethodId} {below : List Frame} {meth : Method} {c : Code} {b L : Nat} {xs : Nat → Int32} {dC : Nat → ClassId} {dI : Nat → Nat → Nat} {tc : Nat → ClassId} {ad0 : Nat → Nat} {cJ : ClassId} {oa : Nat} {H : Heap} {locs : List Loc} {cells slots : Nat} {Q : State → Prop} {ad : Nat → Nat} {ls : Array Slot} {rest : List Value} {pc : Nat}
set_option maxRecDepth 100000 in
set_option maxHeartbeats 4000000 in
theorem ls_new {idx ci n : Nat} {h : Nat → Nat → Int} {g : Nat → Int → Int} {rf : Nat → Nat → Option Nat} {q : vw_C} (hfix : CallFix p m c code 7 s #[Value.ref b] am_tb R_law) (hI : lw_I dC dI tc s (lw_A s) ad (n, h, g, rf) H locs) (hK : va_K (dC, dI) classes (am_tys tc) s) (hsh : am_at am_sh n = some (.inr ci)) (hq : am_at classes ci = some q) (hl : am_isin (.classLink R_law idx q.1) = true ∧ am_isin (.instantiable q.1 q.2.2) = true ∧ am_isin (.initialized q.1) = true) (hr : cells + 1 ≤ 1084 ∧ slots + q.2.2 ≤ 13087) (hd : decode code pc = .ok (.new idx, 3))
    (k : ∀ b' H1, lw_I dC dI tc s (lw_A s) (am_ua ad n b') (n + 1, am_n1 h n, am_n3 g n, am_n2 rf n) H1 locs → W p l e room_1 s m #[Value.ref b] below meth c H1 locs (cells + 1) (slots + q.2.2) Q (F0 m (pc + 3) ls (.ref b' :: rest))) : W p l e room_1 s m #[Value.ref b] below meth c H locs cells slots Q (F0 m pc ls rest) := by
  obtain ⟨hx, hb, hml, hown, hts⟩ := hfix
  obtain ⟨hf, hP, hD, hS⟩ := hI
  have hnk : n < 1000 := am_Tsh1 n _ hsh
  obtain ⟨t1, ⟨ks, hks, hlen, htk⟩, t3, t4⟩ := am_Tc ci q hq
  refine va_new (D := (dC, dI)) (C := q.1) (T := q.2.1) (N := q.2.2) (fs := am_fs ad (n + 1, am_n1 h n, am_n3 g n, am_n2 rf n) n ks) hx hb hts t1 (am_ty ci) t3 hown (hts _ (am_in_tb hl.1)) (hts _ (am_in_tb hl.2.1)) (hts _ (am_in_tb hl.2.2)) hK hP hD hS (fun q h => h) (by rw [← am_at_eq]; exact hq) (fun j hj => ?_) hr.1 hr.2 hd (fun b' H1 hP1 hD1 hS1 => ?_)
  · have hkj : ks[j]? = some ks[j] := List.getElem?_eq_getElem (by omega)
    have e1 := am_fs_at (ad := ad) (σ := (n + 1, am_n1 h n, am_n3 g n, am_n2 rf n)) (c := n) hkj
    unfold vp_V
    rw [List.getD_eq_getElem?_getD, e1, Option.getD_some]
    rcases am_tyk_def (htk j _ hkj) with z | z
    · rw [z.2]; unfold am_f; rw [if_pos z.1]; simp [am_n2, am_v]
    · rw [z.2]; unfold am_f; rw [if_neg z.1]; simp [am_n1]
  · have e0 : ∀ ks : List Nat, am_fs (am_ua ad n b') (n + 1, am_n1 h n, am_n3 g n, am_n2 rf n) n ks = am_fs ad (n + 1, am_n1 h n, am_n3 g n, am_n2 rf n) n ks := fun ks => by
      unfold am_fs
      congr 1
      funext j kd
      simp [am_f, am_n2, am_v]
    have hE : am_c (am_ua ad n b') tc (n + 1, am_n1 h n, am_n3 g n, am_n2 rf n) n = (b', .inr (ci, am_fs ad (n + 1, am_n1 h n, am_n3 g n, am_n2 rf n) n ks)) := by
      unfold am_c
      rw [hsh]
      simp only [hks, Option.getD_some, e0, am_ua, if_true]
    rw [am_w_new hnk hf hE] at hP1 hD1
    exact k b' H1 ⟨am_hf_new hnk hf, hP1, hD1, hS1⟩
theorem ls_rot {D : va_G} {cl : List vw_C} {x : Nat × va_E} {w : va_W} {A : Nat → Prop} (hP : va_P D cl (w ++ [x]) H) (hD : va_D A (w ++ [x])) : va_P D cl (x :: w) H ∧ va_D A (x :: w) := by
  have hx : (w ++ [x])[w.length]? = some x := by simp
  have hl : ∀ (k : Nat) (q : Nat × va_E), w[k]? = some q → (w ++ [x])[k]? = some q := fun k q hk => by
    rw [List.getElem?_append_left (List.getElem?_eq_some_iff.mp hk).1]
    exact hk
  refine ⟨lw_Pk (hP _ x hx) (fun k q hk => hP k q (hl k q hk)), lw_Dc (hD.2 _ x hx) ⟨fun i j p q h1 h2 h3 => hD.1 i j p q (hl i p h1) (hl j q h2) h3, fun k q hk => hD.2 k q (hl k q hk)⟩ (fun k q hk he => ?_)⟩
  have h1 := hD.1 k w.length q x (hl k q hk) hx he
  have h2 := (List.getElem?_eq_some_iff.mp hk).1
  omega
end LsW
set_option maxRecDepth 100000 in
set_option maxHeartbeats 4000000 in
theorem whole_start {p : Program} {e : Env} {s : State} {m : MethodId} {below : List Frame} {meth : Method} {c : Code} (l : Launch) (hfl : l.flags = flags0) {b L : Nat} {xs : Nat → Int32} (hL : L ≤ 3072) (C0 : lw_At p s m meth c b L xs) : W p l e room_1 s m #[Value.ref b] below meth c s.heap [] 0 0 (lw_Z below #[Value.ref b] s) (entryFrame m ([Value.ref b] : List Value).toArray 7) := by
  have hfix := lw_fix C0
  obtain ⟨hx, hb, hr, hml, hown, hts, hX, hbl, hlocks, hgv⟩ := id C0
  have hts' := hfix.2.2.2.2
  obtain ⟨dC, dI, hKc⟩ : ∃ (dC : Nat → ClassId) (dI : Nat → Nat → Nat), ∀ (k : Nat) (q : vw_C), classes[k]? = some q → u_Kn s q.1 q.2.1 q.2.2 (dC k) (dI k) := by
    have h0 : ∀ k : Nat, ∃ d : ClassId × (Nat → Nat), ∀ q : vw_C, classes[k]? = some q → u_Kn s q.1 q.2.1 q.2.2 d.1 d.2 := by
      intro k
      cases hk : classes[k]? with
      | none => exact ⟨(0, fun _ => 0), fun q hq => by cases hq⟩
      | some q =>
        obtain ⟨t1, -⟩ := am_Tc k q (by rw [am_at_eq]; exact hk)
        have h1 := List.all_eq_true.mp ls_cls q (List.mem_of_getElem? hk)
        obtain ⟨cC, iS, h2⟩ := u_known (ws := am_tb) (n := q.2.2) hts' t1 (hts _ (of_decide_eq_true h1))
        exact ⟨(cC, iS), fun q' hq' => by cases hq'; exact h2⟩
    obtain ⟨d, hd⟩ := Classical.axiomOfChoice h0
    exact ⟨fun k => (d k).1, fun k => (d k).2, hd⟩
  obtain ⟨tc, htc⟩ : ∃ tc : Nat → ClassId, ∀ (k : Nat) (q : ClassId × FieldType), (am_tys tc)[k]? = some q → ArrOfT s q.1 q.2 ∧ va_RA s q.1 q.2 := by
    obtain ⟨c0, h0⟩ := ls_arr (Or.inl rfl) (hts' _ am_Tarr.1)
    obtain ⟨c1, h1⟩ := ls_arr (Or.inr (Or.inl rfl)) (hts' _ am_Tarr.2.1)
    obtain ⟨c2, h2⟩ := ls_arr (Or.inr (Or.inr rfl)) (hts' _ am_Tarr.2.2)
    refine ⟨fun k => if k = 0 then c0 else if k = 1 then c1 else c2, ?_⟩
    intro k q hk
    match k, hk with
    | 0, hk => cases hk; exact h0
    | 1, hk => cases hk; exact h1
    | 2, hk => cases hk; exact h2
    | k + 3, hk => cases hk
  obtain ⟨ad0, hZ⟩ := ls_Z hts hgv
  have hE := ls_E hts hgv
  have hK : va_K (dC, dI) classes (am_tys tc) s := ⟨hKc, htc⟩
  have hl := lv_entry ([Value.ref b]) (n := 7) (Nat.le_of_ble_eq_true rfl)
  rw [lg_entry_eq]
  generalize (lg_sl ([Value.ref b]) ++ List.replicate (7 - (lg_sl ([Value.ref b])).length) Slot.unset).toArray = ls at hl ⊢
  have hl : lv_has ls 7 [(0, .ref b)] := hl
  have hI0 : lw_I dC dI tc s (lw_A s) ad0 (0, (fun _ _ => 0), (fun _ _ => 0), (fun _ _ => none)) s.heap [] := ⟨⟨Nat.zero_le _, fun c hc => absurd hc (Nat.not_lt_zero c)⟩, fun k q h => by simp [am_w] at h, ⟨fun i j p q h => by simp [am_w] at h, fun k q h => by simp [am_w] at h⟩, va_S.rf⟩
  refine ls_new (n := 0) (ci := 0) (q := (nR0, nT0, 10)) hfix hI0 hK rfl rfl ls_k1 ⟨Nat.le_of_ble_eq_true rfl, Nat.le_of_ble_eq_true rfl⟩ ls_d0 (fun b1 H1 hI1 => ?_)
  rw [ls_n1, ls_n2, ls_n3] at hI1
  have a1 : am_ua ad0 0 b1 0 = b1 := if_pos rfl
  refine lv_dup hx hb ls_d3 rfl ?_
  refine lw_callI (mno := 0) (c0 := 0) (as3 := []) (rest := [.ref b1]) hfix hI1 (fun q h => h) hK hZ (fun k hk => am_ua_ad (by omega) k (Or.inr hk)) cI_0_0 trivial rfl (by show 0 < 1; omega) (by show 1 ≤ 38; omega) ls_k3.1 ls_k3.2.1 ls_k3.2.2.1 rfl rfl ls_k3.2.2.2 ⟨Nat.le_of_ble_eq_true rfl, Nat.le_of_ble_eq_true rfl⟩ ⟨?_, ?_⟩ hl.1 (by rw [a1]; rfl) (Nat.le_of_ble_eq_true rfl) ls_d4 (fun rv σ2 ad2 H2 locs2 hQ2 hB2 => ?_)
  · show 0 + 1 + (38 - 1) ≤ 1084
    omega
  · show 0 + 10 + (am_sz 38 - am_sz 1) ≤ 13087
    rw [ls_sz.1, ls_sz.2.1]
    omega
  obtain ⟨rfl, rfl⟩ := hQ2
  obtain ⟨had2, -, -, hI2, -, -, -⟩ := hB2
  refine W.widen (k := 38) (n := 4038) ?_ ?_ ?_
  · show 0 + 1 + (38 - 1) ≤ 38
    omega
  · show 0 + 10 + (am_sz 38 - am_sz 1) ≤ 4038
    rw [ls_sz.1, ls_sz.2.1]
    omega
  refine lv_astore_n hx hb ls_d7 rfl hl (by decide) rfl (fun ls1 hl1 => ?_)
  refine ls_new (n := 38) (ci := 6) (q := (nR6, nT6, 30)) hfix hI2 hK rfl rfl ls_k2 ⟨Nat.le_of_ble_eq_true rfl, Nat.le_of_ble_eq_true rfl⟩ ls_d8 (fun b2 H3 hI3 => ?_)
  have a2 : am_ua ad2 38 b2 38 = b2 := if_pos rfl
  refine lv_dup hx hb ls_d11 rfl ?_
  have hadk : ∀ k, 1000 ≤ k → am_ua ad2 38 b2 k = ad0 k := fun k hk => by
    rw [am_ua_ad (by omega) k (Or.inr hk), had2 k (Or.inr hk), am_ua_ad (by omega) k (Or.inr hk)]
  refine lw_callI (mno := 17) (c0 := 38) (as3 := []) (rest := [.ref b2]) hfix hI3 (fun q h => h) hK hZ hadk cI_6_38 trivial rfl (by show 38 < 39; omega) (by show 39 ≤ 58; omega) ls_k4.1 ls_k4.2.1 ls_k4.2.2.1 rfl rfl ls_k4.2.2.2 ⟨Nat.le_of_ble_eq_true rfl, Nat.le_of_ble_eq_true rfl⟩ ⟨?_, ?_⟩ hl1.1 (by rw [a2]; rfl) (Nat.le_of_ble_eq_true rfl) ls_d12 (fun rv σ4 ad4 H4 locs4 hQ4 hB4 => ?_)
  · show 38 + 1 + (58 - 39) ≤ 1084
    omega
  · show 4038 + 30 + (am_sz 58 - am_sz 39) ≤ 13087
    rw [ls_sz.2.2.1, ls_sz.2.2.2]
    omega
  obtain ⟨rfl, rfl⟩ := hQ4
  obtain ⟨had4, -, -, hI4, -, -, -⟩ := hB4
  refine W.widen (k := 58) (n := 4888) ?_ ?_ ?_
  · show 38 + 1 + (58 - 39) ≤ 58
    omega
  · show 4038 + 30 + (am_sz 58 - am_sz 39) ≤ 4888
    rw [ls_sz.2.2.1, ls_sz.2.2.2]
    omega
  have e0 : ad4 0 = b1 := by
    rw [had4 0 (Or.inl (by show 0 < 39; omega)), am_ua_ad (by omega) 0 (Or.inl (by omega)), had2 0 (Or.inl (by show 0 < 1; omega))]
    exact a1
  have e38 : ad4 38 = b2 := by
    rw [had4 38 (Or.inl (by show 38 < 39; omega))]
    exact a2
  refine lv_astore_n hx hb ls_d15 rfl hl1 (by decide) rfl (fun ls2 hl2 => ?_)
  have hI5 : lw_I dC dI tc s (lw_A s) ad4 (58, jF0, jG0, jR0) H4 locs4 := hI4
  obtain ⟨hf5, hP5, hD5, hS5⟩ := hI5
  rw [ls_w] at hP5 hD5
  refine lv_iconst (v := 1) hx hb ls_d16 (by decide) ?_
  refine va_newa (A := lw_A s) (atype := .long) hx hb (hts' _ (am_in_tb (w := .arrayClass .long) (by decide +kernel))) rfl hK hP5 hD5 hS5 (fun q h => h) (N' := 1) (a0 := (1, .inr (.inl (fun _ => 0)))) (fun cA => rfl) (by decide) rfl (Nat.le_of_ble_eq_true rfl) (Nat.le_of_ble_eq_true rfl) (Nat.le_of_ble_eq_true rfl) ls_d17 (fun oa cJ H6 hK6 hP6 hD6 hS6 => ?_)
  obtain ⟨hP7, hD7⟩ := ls_rot hP6 hD6
  refine lv_astore_n hx hb ls_d19 rfl hl2 (by decide) rfl (fun ls3 hl3 => ?_)
  refine lv_iconst (v := nI (6 * 0)) hx hb ls_d20 (by decide +kernel) ?_
  refine lv_istore hx hb ls_d21 hl3 (by decide) rfl (fun ls4 hl4 => ?_)
  have hf6 : am_hf (58, jF0, jG0, pr_r 23 26 29) := ⟨hf5.1, fun c hc => ⟨(hf5.2 c hc).1, (hf5.2 c hc).2.1, fun j k hk => ls_prr hk⟩⟩
  refine lw_loop (oa := oa) hfl ⟨C0, hL, hK6, hZ, hE⟩ 4889 (by omega) 513 0 H6 locs4 ad4 (fun _ => 0) (58, jF0, jG0, pr_r 23 26 29) ls4 (by omega) (by omega) ⟨rfl, hf6, hP7, hD7, hS6, fun k hk => (had4 k (Or.inr hk)).trans (hadk k hk)⟩ ⟨jF0, jG0, 23, 26, 29, rfl, jSim0⟩ ?_
  rw [e0, e38]
  exact lv_sub hl4 [4, 3, 2, 1, 0] rfl
set_option maxHeartbeats 4000000 in
theorem lw_walk (l : Launch) (hfl : l.flags = flags0) (b : Addr) (xs : List Int32) : MetFree l x (headSpec (Jvm.Cond.code x code maxLocals ret :: tables_1) room_1) (lw_P b xs) (fun _ _ _ _ _ => True) lw_Q := by
  refine MetFree.of_bodyS (code := code) (maxLocals := maxLocals) (ret := ret) (by decide) ?_ ?_
  · intro args s m h hn
    obtain ⟨meth, c, h1, h2, h3, h4, h5, h6, -, -⟩ := Cond.code_spec hn (atoms_spec (ws := Jvm.Cond.code x code maxLocals ret :: tables_1) h _ List.mem_cons_self)
    exact ⟨meth, c, h1, h2, h3, h4, h5, h6⟩
  · intro p e s m args below meth c s₁ B hml0 hP _
    obtain ⟨rfl, hx, hbd, hgv⟩ := hP
    obtain ⟨scr, harrAt, hlist, hof, hsmall⟩ := hx
    obtain ⟨hcb, hkn, -, -⟩ := State.arrayAt?_spec harrAt
    have hown : s.vm.findClass R_law = some m.cls := findClass_of_methodNamed B.named
    have hts0 : ∀ c ∈ (Jvm.Cond.code x code maxLocals ret :: tables_1), c.before #[Value.ref b] s = true := atoms_spec (ws := Jvm.Cond.code x code maxLocals ret :: tables_1) B.pre
    have hts : ∀ w ∈ lw_tbl, w.before #[Value.ref b] s = true := k2_hts_sels lw_privs (fun w hw => hts0 w (List.mem_cons_of_mem _ hw)) lw_privs_ok
    have hml : c.maxLocals = 7 := B.maxLocals_eq (hts0 _ List.mem_cons_self)
    have X₀ : Stand p l e room_1 s m #[Value.ref b] below meth c s₁ [] 0 0 := Stand.of_body B
    have hh0 : s₁.heap = s.heap := by rw [B.state]; rfl
    have hsz : scr.slots.size = xs.length := by rw [← Array.length_toList, hlist, List.length_map]
    have hval : ∀ j : Nat, j < xs.length → scr.slots[j]? = some (.int (xs.getD j 0)) := fun j hj => by
      rw [← Array.getElem?_toList, hlist]
      simp [hj]
    have hbl : b < s.heap.size := (Array.getElem?_eq_some_iff.mp hcb).1
    have hX : va_X b xs.length (fun j => xs.getD j 0) s s.heap := ⟨scr, hcb, hof, hkn, hsz, hval⟩
    have K : W p l e room_1 s m #[Value.ref b] below meth c s₁.heap [] 0 0 (lw_Z below #[Value.ref b] s) (entryFrame m ([Value.ref b] : List Value).toArray 7) := by
      rw [hh0]
      exact whole_start l hfl hbd ⟨B.exec, B.bytes, B.returns, hml, hown, hts, hX, hbl, B.notSynchronized, hgv⟩
    obtain ⟨t, a1, o, b1, b2, b3⟩ := K s₁ rfl X₀
    exact ⟨t, o, a1, b1, b2, b3⟩
theorem lw_pre_spec {args : Array Value} {s : State} (h : (Jvm.Cond.and given_1 narrow_1).before args s = true) (hr : rest_1_c.before args s = true) : ∃ (b : Addr) (xs : List Int32), lw_P b xs args s := by
  have hs := flat_of_before _ h
  have hq := flat_of_before _ hr
  have hc : (Cond.count 1).before args s = true := hs _ (by decide +kernel)
  have harr : (Cond.arrayOf (.arg 0) .int).before args s = true := hs _ (by decide +kernel)
  have hle : (Cond.le (.length (.arg 0)) (.int 3072)).before args s = true := hs _ (by decide +kernel)
  have hlen : (Cond.isInt (.length (.arg 0))).before args s = true := hq _ (by decide +kernel)
  have hall : (Cond.all (.arg 0) (.isInt (.elem (.arg 0) (.index 0)))).before args s = true := hq _ (by decide +kernel)
  obtain ⟨b, xs, hb, hx⟩ := State.ints_of_pre rfl harr hlen hall
  have hsm : xs.length < 2 ^ 31 := hx.choose_spec.2.2.2
  have hev : (Term.length (.arg 0)).eval args s none [] s = some (.int xs.length.toInt32) := hx.length_eval hb
  have hv := Cond.le_ints hev (show (Term.int 3072).eval args s none [] s = some (.int 3072) from rfl)
  have hd : xs.length.toInt32 ≤ 3072 := by
    simpa [Cond.before, Cond.holds, hv] using hle
  have hN : xs.length ≤ 3072 := (Int32.ofNat_le_ofNat hsm (by decide)).mp (show Int32.ofNat xs.length ≤ Int32.ofNat 3072 from hd)
  exact ⟨b, xs, Cond.one_arg hc (show args[0]? = some (.ref b) from hb), hx, hN, h⟩
theorem lw_comes (l : Launch) (hfl : l.flags = flags0) : Comes l x (Jvm.Cond.code x code maxLocals ret :: tables_1) room_1 (fun tb e args s => Calls_1 tb e args s ∧ rest_1 tb e args s ∧ Pre_1 tb e args s)
    (fun _ _ args s o t => lw_Q args s o t) := by
  intro p e ha hc hk s m args below hf hfit hheap happ hpre
  obtain ⟨b, xs, hP⟩ := lw_pre_spec hpre.2.2 hpre.2.1
  obtain ⟨k, o, h1, h2, h3, hQ⟩ := lw_walk l hfl b xs p e ha hc hk s m args below hf ((Spec.applies_iff_loose hf).mp happ).1 hP trivial
  exact ⟨k, o, h1, h2, h3, hQ⟩
theorem lw_frame {s t : State} {o : Outcome} {args : Array Value} (h : Framed s o t [] 1084 13087) :
    Framed s o t (fieldLocs frame_1_writes args s ++ arrayLocs frame_1_arrays args s ++ staticLocs frame_1_statics s) 1084 13087 := h
theorem lw_limb (L : Cond) (hL : ∀ (args : Array Value) (s t : State), L.after args s (.returned (some (.int 1))) t = true) :
    ArmFor flags0 classFile x code maxLocals ret World_1 tables_1 room_1 Calls_1 rest_1 Pre_1
      (fun tb e a s o t => postC L tb e a s o t ∧ Framed s o t (fieldLocs frame_1_writes a s ++ arrayLocs frame_1_arrays a s ++ staticLocs frame_1_statics s) 1084 13087) := by
  intro l hfl _ _ p e ha hc hk s m args below hf hfit hheap happ hpre
  obtain ⟨k, o, h1, h2, h3, rfl, hF⟩ := lw_comes l hfl p e ha hc hk s m args below hf hfit hheap happ hpre
  exact ⟨k, _, h1, h2, h3, hL args s _, lw_frame hF⟩
theorem i_vc : Claimed_1_1 ∧ Claimed_1_2 := ⟨lw_limb limb_1_1 (fun args s t => by simp [limb_1_1, Cond.after, Cond.holds, Cond.value]), lw_limb limb_1_2 (fun args s t => Cond.after_iff.mpr (by
  first | (rw [show limb_1_2 = Cond.eq .result (.int 1) from rfl, Cond.eq_ints (x := 1) (y := 1) rfl rfl]; simp; done) | (simp [limb_1_2, Cond.value, Term.eval]; done)))⟩

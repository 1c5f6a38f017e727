/-! what the start gives -/
def ls_T : Cond := Jvm.Cond.and given_1 narrow_1
def ls_tm (i : Nat) : Term := if i = 0 then .string "AddressGrammar" 143 else .string "AddressGrammar" 65
def ls_in (w : Cond) : Bool := decide (w ∈ flatC ls_T)
theorem ls_of {args : Array Value} {s : State} (h : ls_T.before args s = true) {w : Cond} (hw : ls_in w = true) : w.before args s = true := flat_of_before _ h w (of_decide_eq_true hw)
theorem ls_all {n : Nat} {P : Nat → Bool} (h : (List.range n).all P = true) {i : Nat} (hi : i < n) : P i = true := List.all_eq_true.mp h i (List.mem_range.mpr hi)
theorem ls_ex : (List.range 2).all (fun i => ls_in (.exactly (ls_tm i) "java/lang/String")) = true := by decide +kernel
theorem ls_co : (List.range 2).all (fun i => ls_in (.eq (.field (ls_tm i) "java/lang/String" "coder" "B") (.int 0))) = true := by decide +kernel
theorem ls_ar : (List.range 2).all (fun i => ls_in (.arrayOf (.field (ls_tm i) "java/lang/String" "value" "[B") .byte)) = true := by decide +kernel
theorem ls_le : (List.range 2).all (fun i => ls_in (.eq (.length (.field (ls_tm i) "java/lang/String" "value" "[B")) (.int (Int32.ofNat (am_slen.getD i 0))))) = true := by decide +kernel
theorem ls_el : (List.range 2).all (fun i => (List.range (am_slen.getD i 0)).all (fun j => ls_in (.eq (.elem (.field (ls_tm i) "java/lang/String" "value" "[B") (.int (Int32.ofNat j))) (.int ((am_sbyt.getD i []).getD j 0))))) = true := by decide +kernel
theorem ls_ne : ls_in (.not (.eq (ls_tm 0) (ls_tm 1))) = true := by decide +kernel
theorem ls_56 : ls_in (.eq (.string "AddressGrammar" 143) (.string "AddressGrammar$Form" 56)) = true := by decide +kernel
theorem ls_cs : ls_in (.eq (.static "java/lang/String" "COMPACT_STRINGS" "Z") (.int 1)) = true := by decide +kernel
theorem ls_rf : am_refst.all (fun q => ls_in (.isRef (.static q.1 q.2.1 q.2.2)) && decide (Cond.laysStatic q.1 q.2.1 q.2.2 ∈ lw_tbl) && decide (Cond.initialized q.1 ∈ lw_tbl)) = true := by decide +kernel
theorem ls_nst : am_nest.all (fun q => decide (Cond.methodLinkNest q.1 q.2.1 q.2.2.1 q.2.2.2 ∈ lw_tbl)) = true := by decide +kernel
theorem ls_cls : classes.all (fun q => decide (Cond.instantiable q.1 q.2.2 ∈ lw_tbl)) = true := by decide +kernel
theorem ls_w1 : Cond.laysStatic "java/lang/String" "COMPACT_STRINGS" "Z" ∈ lw_tbl := by decide +kernel
theorem ls_w2 : Cond.initialized "java/lang/String" ∈ lw_tbl := by decide +kernel
theorem ls_w3 : Cond.stringRef "AddressGrammar" 143 "NFSHXBCPL" ∈ lw_tbl := by decide +kernel
theorem ls_w4 : Cond.stringRef "AddressGrammar$Form" 56 "NFSHXBCPL" ∈ lw_tbl := by decide +kernel
theorem ls_w5 : Cond.stringRef "AddressGrammar" 65 "the text is not a form" ∈ lw_tbl := by decide +kernel
theorem ls_w6 : Cond.castable "java/lang/IllegalStateException" "java/lang/IllegalStateException" ∈ lw_tbl := by decide +kernel
theorem ls_w7 : lx_D.all (fun w => decide (w ∈ lw_tbl) && w.onTables) = true := by decide +kernel
theorem ls_w8 : Cond.laysStatic Bundle.tN "UNASSIGNED_STACK" Bundle.steD ∈ lw_tbl ∧ Cond.laysStatic Bundle.tN "SUPPRESSED_SENTINEL" Bundle.listD ∈ lw_tbl := ⟨by decide +kernel, by decide +kernel⟩
theorem ls_w9 : ls_in (.isRef (.static Bundle.tN "UNASSIGNED_STACK" Bundle.steD)) = true ∧ ls_in (.isRef (.static Bundle.tN "SUPPRESSED_SENTINEL" Bundle.listD)) = true := ⟨by decide +kernel, by decide +kernel⟩
theorem ls_rv {args : Array Value} {s : State} {t : Term} (h : (Cond.isRef t).before args s = true) : ∃ o : Option Nat, t.eval args s none [] s = some (match o with | some a => .ref a | none => .null) := by
  cases hv : t.eval args s none [] s with
  | none => simp [Cond.before, Cond.holds, Cond.value, hv] at h
  | some v =>
    cases v <;> first | exact ⟨some _, rfl⟩ | exact ⟨none, rfl⟩ | (simp [Cond.before, Cond.holds, Cond.value, hv] at h; done)
section LsZ
variable {s : State} {b : Nat}
set_option maxRecDepth 100000 in
set_option maxHeartbeats 4000000 in
theorem ls_Z (hts : ∀ w ∈ lw_tbl, w.before #[Value.ref b] s = true) (hgv : ls_T.before #[Value.ref b] s = true) : ∃ ad0, am_Z ad0 (lw_A s) s := by
  have hA : ∀ a : Nat, a < s.heap.size → ¬ lw_A s a := fun a h => Nat.not_le.mpr h
  obtain ⟨adK, adV, hS, htm⟩ := vk_Sof (args := #[Value.ref b]) (s := s) (N := 2) (tm := ls_tm) (len := am_slen) (byt := am_sbyt) (A := lw_A s) (fun i hi => by
      rcases (show i = 0 ∨ i = 1 by omega) with rfl | rfl <;> decide) (fun i hi => ls_of hgv (ls_all ls_ex hi)) (fun i hi => ls_of hgv (ls_all ls_co hi)) (fun i hi => ls_of hgv (ls_all ls_ar hi)) (fun i hi => ls_of hgv (ls_all ls_le hi)) (fun i hi j hj => ls_of hgv (ls_all (ls_all ls_el hi) hj)) (fun i j hi hj hij => by
      rcases (show i = 0 ∧ j = 1 ∨ i = 1 ∧ j = 0 by omega) with ⟨rfl, rfl⟩ | ⟨rfl, rfl⟩
      · exact Or.inl (ls_of hgv ls_ne)
      · exact Or.inr (ls_of hgv ls_ne)) hA
  have hst : ∀ q ∈ am_refst, ∃ o : Option Nat, va_Z q.1 q.2.1 q.2.2 (match o with | some a => .ref a | none => .null) (lw_A s) s s.heap := by
    intro q hq
    have h1 := List.all_eq_true.mp ls_rf q hq
    simp only [Bool.and_eq_true, decide_eq_true_eq] at h1
    obtain ⟨o, ho⟩ := ls_rv (ls_of hgv h1.1.1)
    exact ⟨o, va_Zof (hts _ h1.1.2) (hts _ h1.2) ho hA⟩
  obtain ⟨o0, h0⟩ := hst ("java/lang/Throwable", "UNASSIGNED_STACK", "[Ljava/lang/StackTraceElement;") (by simp [am_refst])
  obtain ⟨o1, h1⟩ := hst ("java/lang/Throwable", "SUPPRESSED_SENTINEL", "Ljava/util/List;") (by simp [am_refst])
  obtain ⟨o2, h2⟩ := hst ("jdk/internal/util/Preconditions", "SIOOBE_FORMATTER", "Ljava/util/function/BiFunction;") (by simp [am_refst])
  obtain ⟨ad0, had⟩ : ∃ ad0 : Nat → Nat, ad0 = fun k => if k = 3000 then o0.getD 0 else if k = 3001 then o1.getD 0 else if k = 3002 then o2.getD 0 else if 2000 ≤ k then adV (k - 2000) else adK (k - 1000) := ⟨_, rfl⟩
  have eK : ∀ i, i < 2 → ad0 (1000 + i) = adK i := fun i hi => by
    rw [had]
    show (if 1000 + i = 3000 then _ else _) = _
    rw [if_neg (by omega), if_neg (by omega), if_neg (by omega), if_neg (by omega), show 1000 + i - 1000 = i by omega]
  have eV : ∀ i, i < 2 → ad0 (2000 + i) = adV i := fun i hi => by
    rw [had]
    show (if 2000 + i = 3000 then _ else _) = _
    rw [if_neg (by omega), if_neg (by omega), if_neg (by omega), if_pos (by omega), show 2000 + i - 2000 = i by omega]
  have e0 : ad0 3000 = o0.getD 0 := by rw [had]; rfl
  have e1 : ad0 3001 = o1.getD 0 := by rw [had]; rfl
  have e2 : ad0 3002 = o2.getD 0 := by rw [had]; rfl
  have ev : ∀ (o : Option Nat) (n : Nat), 1000 ≤ n → ad0 n = o.getD 0 → ∃ o' : Option Nat, (∀ k, o' = some k → 1000 ≤ k) ∧ am_v ad0 (.inr (.inr o')) = (match o with | some a => .ref a | none => .null) := by
    intro o n hn he
    cases o with
    | none => exact ⟨none, fun k hk => (by cases hk), rfl⟩
    | some a => exact ⟨some n, fun k hk => (by cases hk; exact hn), by show Value.ref (ad0 n) = Value.ref a; rw [he]; rfl⟩
  have t0 := htm 0 (by omega)
  have t1 := htm 1 (by omega)
  refine ⟨ad0, fun q hq => ?_, fun q hq => ?_, ⟨fun i hi => ?_, fun i j hi hj he => ?_⟩, ?_, fun q hq => ?_⟩
  · have h := List.all_eq_true.mp ls_nst q hq
    exact va_Nw.of rfl (hts _ (of_decide_eq_true h))
  · simp only [am_strs, List.mem_cons, List.not_mem_nil, or_false] at hq
    rcases hq with rfl | rfl | rfl
    · exact vk_R.of (hts _ ls_w3) (by show _ = some (Value.ref (ad0 (1000 + 0))); rw [eK 0 (by omega)]; exact t0)
    · exact vk_R.of (hts _ ls_w4) (by show _ = some (Value.ref (ad0 (1000 + 0))); rw [eK 0 (by omega)]; exact va_eqR (ls_of hgv ls_56) t0)
    · exact vk_R.of (hts _ ls_w5) (by show _ = some (Value.ref (ad0 (1000 + 1))); rw [eK 1 (by omega)]; exact t1)
  · have := hS.1 i hi
    rw [← eK i hi, ← eV i hi] at this
    exact this
  · have he : ad0 (1000 + i) = ad0 (1000 + j) := he
    rw [eK i hi, eK j hj] at he
    exact hS.2 i j hi hj he
  · exact va_Zof (hts _ ls_w1) (hts _ ls_w2) (va_eqi (ls_of hgv ls_cs)) hA
  · simp only [am_refst, List.mem_cons, List.not_mem_nil, or_false] at hq
    rcases hq with rfl | rfl | rfl
    · obtain ⟨o', h3, h4⟩ := ev o0 3000 (by omega) e0
      exact ⟨o', h3, by rw [h4]; exact h0⟩
    · obtain ⟨o', h3, h4⟩ := ev o1 3001 (by omega) e1
      exact ⟨o', h3, by rw [h4]; exact h1⟩
    · obtain ⟨o', h3, h4⟩ := ev o2 3002 (by omega) e2
      exact ⟨o', h3, by rw [h4]; exact h2⟩
theorem ls_E (hts : ∀ w ∈ lw_tbl, w.before #[Value.ref b] s = true) (hgv : ls_T.before #[Value.ref b] s = true) : lx_E (lw_A s) s := by
  have hA : ∀ a : Nat, a < s.heap.size → ¬ lw_A s a := fun a h => Nat.not_le.mpr h
  refine ⟨fun w hw => ?_, va_Nw.of rfl (hts _ ls_w6), lx_S.of (hts _ ls_w8.1) (ls_of hgv ls_w9.1) hA, lx_S.of (hts _ ls_w8.2) (ls_of hgv ls_w9.2) hA⟩
  have h := List.all_eq_true.mp ls_w7 w hw
  simp only [Bool.and_eq_true, decide_eq_true_eq] at h
  exact va_Nw.of h.2 (hts _ h.1)
end LsZ
theorem ls_arr {s : State} {args : Array Value} {ty : FieldType} (hp : ty = .int ∨ ty = .char ∨ ty = .boolean) (h : (Cond.arrayClass ty).before args s = true) : ∃ cA : ClassId, ArrOfT s cA ty ∧ va_RA s cA ty := by
  obtain ⟨cA, kA, comp, h1, h2, h3⟩ := Cond.arrayClass_spec h
  refine ⟨cA, fun n z => ⟨fun k h => (by cases h), kA, h2, comp, h3⟩, ?_⟩
  rcases hp with rfl | rfl | rfl <;> exact h1
theorem ls_sz : am_sz 1 = 10 ∧ am_sz 38 = 4038 ∧ am_sz 39 = 4068 ∧ am_sz 58 = 4888 := by decide +kernel
theorem ls_ptr : (pr_t 23 26 29).all (fun l => l.all (fun o => match o with | some k => decide (k < 58) | none => true)) = true := by decide +kernel
theorem ls_atm {α : Type} {l : List α} {i : Nat} {x : α} (h : am_at l i = some x) : x ∈ l := List.mem_of_getElem? (by rw [← am_at_eq]; exact h)
theorem ls_prr {x y k : Nat} (h : pr_r 23 26 29 x y = some k) : k < 58 := by
  unfold pr_r at h
  split at h
  · rename_i l hl
    split at h
    · rename_i o ho
      subst h
      have h1 := List.all_eq_true.mp (List.all_eq_true.mp ls_ptr l (ls_atm hl)) _ (ls_atm ho)
      exact of_decide_eq_true h1
    · cases h
  · cases h
def ls_req : Bool := (List.range 58).all fun c => match am_at am_sh c with
  | some (.inr ci) => (List.range ((am_at am_ks ci).getD []).length).all (fun j => decide (jR0 c j = pr_r 23 26 29 c j))
  | _ => true
theorem ls_re : ls_req = true := by decide +kernel
theorem ls_w {ad : Nat → Nat} {tc : Nat → ClassId} : am_w ad tc (58, jF0, jG0, jR0) = am_w ad tc (58, jF0, jG0, pr_r 23 26 29) := by
  unfold am_w
  apply List.map_congr_left
  intro c hc
  have h := List.all_eq_true.mp (show (List.range 58).all _ = true from ls_re) c hc
  unfold am_c
  split
  · rfl
  · rename_i ci hci
    rw [hci] at h
    have e3 : am_fs ad (58, jF0, jG0, jR0) c ((am_at am_ks ci).getD []) = am_fs ad (58, jF0, jG0, pr_r 23 26 29) c ((am_at am_ks ci).getD []) := by
      unfold am_fs
      apply List.ext_getElem?
      intro j
      rw [List.getElem?_mapIdx, List.getElem?_mapIdx]
      cases hj : ((am_at am_ks ci).getD [])[j]? with
      | none => rfl
      | some kd =>
        have hlt := (List.getElem?_eq_some_iff.mp hj).1
        have e9 : jR0 c j = pr_r 23 26 29 c j := of_decide_eq_true (List.all_eq_true.mp h j (List.mem_range.mpr hlt))
        show some (am_f _ _ _ _ _) = some (am_f _ _ _ _ _)
        unfold am_f
        rw [show (58, jF0, jG0, jR0).2.2.2 c j = pr_r 23 26 29 c j from e9]
    rw [e3]
  · rfl

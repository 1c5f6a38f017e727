/-! the JDK's methods on Strings: what they answer for the letters -/
theorem okj_coder : am_okM mk_coder := am_okM_of (by decide +kernel)
theorem okj_isLatin1 : am_okM mk_isLatin1 := am_okM_of (by decide +kernel)
theorem okj_length : am_okM mk_length := am_okM_of (by decide +kernel)
theorem okj_checkIndex : am_okM mk_checkIndex := am_okM_of (by decide +kernel)
theorem okj_lcharAt : am_okM mk_lcharAt := am_okM_of (by decide +kernel)
theorem okj_charAt : am_okM mk_charAt := am_okM_of (by decide +kernel)
theorem okj_canEncode : am_okM mk_canEncode := am_okM_of (by decide +kernel)
theorem okj_indexOfChar : am_okM mk_indexOfChar := am_okM_of (by decide +kernel)
theorem okj_lindexOf : am_okM mk_lindexOf := am_okM_of (by decide +kernel)
theorem okj_indexOf2 : am_okM mk_indexOf2 := am_okM_of (by decide +kernel)
theorem okj_indexOf : am_okM mk_indexOf := am_okM_of (by decide +kernel)
def mk_pre : am_M := (⟨"jdk/internal/util/Preconditions", "checkIndex", "(IILjava/util/function/BiFunction;)I"⟩, prog_18_method_11_code, 3, (some (.int)), [(0, .iload_n 0, 1, [], 0), (1, .ifCond .lt (8), 2, [5], 0), (4, .iload_n 0, 3, [], 0), (5, .iload_n 1, 4, [], 0), (6, .if_icmp .lt (10), 5, [10], 0), (9, .aload_n 2, 6, [], 0), (10, .iload_n 0, 7, [], 0), (11, .iload_n 1, 8, [], 0), (12, .invokestatic (95), 9, [0, 0, 0], 0), (15, .athrow, 10, [], 0), (16, .iload_n 0, 11, [], 0), (17, .ireturn, 12, [], 0)])
theorem okj_pre : am_okM mk_pre := am_okM_of (by decide +kernel)
section Jdk2
variable {l : Launch} {dC : Nat → ClassId} {dI : Nat → Nat → Nat} {tc : Nat → ClassId} {M : am_M} {d n0 n1 : Nat} {Q : Option am_V → am_H → Prop} {i : Nat} {lv : am_L} {st : List am_V} {σ : am_H}
theorem am_nret {pc nx : Nat} {xs : List Nat} {kk : Int} {x : Int} {ty : FieldType} (he : am_at M.2.2.2.2 i = some (pc, .ireturn, nx, xs, kk)) (hret : M.2.2.2.1 = some ty) (hz : narrow ty (.int (Int32.ofInt x)) = .int (Int32.ofInt x)) (hn : σ.1 = n1) (hq : Q (some (.inl x)) σ) : am_wp l dC dI tc M d n0 n1 Q i lv [.inl x] σ := by
  intro hok p e s m args below meth c ad0 A hB ad H locs ls hS
  have hd := am_oke_dec (hok i _ he) (fun a b c d h => by cases h)
  rw [show am_pcd M i = pc by unfold am_pcd; rw [he]]
  subst hn
  have hlocks := hB.2.2.2.2.2.2.1
  exact W.zret hB.1 hB.2.1 (hB.2.2.1.trans hret) hz (fun t ht hW => ⟨⟨some (.inl x), σ, ad, rfl, hq, hS.1, rfl, hS.hf, fun v hv => by cases hv; exact hS.vs.1, by rw [ht]; exact hS.2.2.2.1, hS.2.2.2.2.1⟩, hS.2.2.2.2.2.1.F ht⟩) hS.2.2.2.2.2.1.2.2 hd hlocks
theorem am_cnar {x : Int} (h : 0 ≤ x ∧ x < 65536) : narrow .char (.int (Int32.ofInt x)) = .int (Int32.ofInt x) := by
  have h1 := vp_nar_char (Int32.ofInt x)
  have h2 := am_i2c h
  show Value.int _ = Value.int _
  congr 1
set_option maxRecDepth 100000 in
set_option maxHeartbeats 4000000 in
theorem cj_coder   : am_Ct l dC dI tc mk_coder 0 σ.1 [(.inr (.inr (some 1000)))] σ (fun r s => r = some (.inl 0) ∧ s = σ) := by
  refine am_enter okj_coder rfl (by decide) (Nat.le_of_ble_eq_true rfl) rfl ?_
  refine am_gets (P := fun v => v = .inl 1) rfl (by decide +kernel) (fun ad0 A s h => ⟨.inl 1, h.2.2.2.1, ⟨by decide, by decide⟩, rfl⟩) (fun v hv => ?_)
  subst hv
  refine am_if rfl (fun c1 => by omega) (fun c1 => ?_)
  (refine am_go rfl (by first | exact True.intro | omega | exact ⟨by decide, Nat.le_of_ble_eq_true rfl, Nat.le_of_ble_eq_true rfl⟩ | exact ⟨by decide, Nat.le_of_ble_eq_true rfl⟩) ?_)
  refine am_coder (q := 0) rfl (by decide) (by decide +kernel) ?_
  (refine am_go rfl (by first | exact True.intro | omega | exact ⟨by decide, Nat.le_of_ble_eq_true rfl, Nat.le_of_ble_eq_true rfl⟩ | exact ⟨by decide, Nat.le_of_ble_eq_true rfl⟩) ?_)
  exact am_nret rfl rfl (by decide) rfl ⟨rfl, rfl⟩
set_option maxRecDepth 100000 in
set_option maxHeartbeats 4000000 in
theorem cj_isLatin1   : am_Ct l dC dI tc mk_isLatin1 0 σ.1 [(.inr (.inr (some 1000)))] σ (fun r s => r = some (.inl 1) ∧ s = σ) := by
  refine am_enter okj_isLatin1 rfl (by decide) (Nat.le_of_ble_eq_true rfl) rfl ?_
  refine am_gets (P := fun v => v = .inl 1) rfl (by decide +kernel) (fun ad0 A s h => ⟨.inl 1, h.2.2.2.1, ⟨by decide, by decide⟩, rfl⟩) (fun v hv => ?_)
  subst hv
  refine am_if rfl (fun c1 => by omega) (fun c1 => ?_)
  (refine am_go rfl (by first | exact True.intro | omega | exact ⟨by decide, Nat.le_of_ble_eq_true rfl, Nat.le_of_ble_eq_true rfl⟩ | exact ⟨by decide, Nat.le_of_ble_eq_true rfl⟩) ?_)
  refine am_coder (q := 0) rfl (by decide) (by decide +kernel) ?_
  refine am_if rfl (fun c1 => by omega) (fun c1 => ?_)
  iterate 2 (refine am_go rfl (by first | exact True.intro | omega | exact ⟨by decide, Nat.le_of_ble_eq_true rfl, Nat.le_of_ble_eq_true rfl⟩ | exact ⟨by decide, Nat.le_of_ble_eq_true rfl⟩) ?_)
  exact am_nret rfl rfl (by decide) rfl ⟨rfl, rfl⟩
set_option maxRecDepth 100000 in
set_option maxHeartbeats 4000000 in
theorem cj_length   : am_Ct l dC dI tc mk_length 1 σ.1 [(.inr (.inr (some 1000)))] σ (fun r s => r = some (.inl 9) ∧ s = σ) := by
  refine am_enter okj_length rfl (by decide) (Nat.le_of_ble_eq_true rfl) rfl ?_
  (refine am_go rfl (by first | exact True.intro | omega | exact ⟨by decide, Nat.le_of_ble_eq_true rfl, Nat.le_of_ble_eq_true rfl⟩ | exact ⟨by decide, Nat.le_of_ble_eq_true rfl⟩) ?_)
  refine am_value (q := 0) rfl (by decide) (by decide +kernel) ?_
  refine am_blen rfl ?_
  (refine am_go rfl (by first | exact True.intro | omega | exact ⟨by decide, Nat.le_of_ble_eq_true rfl, Nat.le_of_ble_eq_true rfl⟩ | exact ⟨by decide, Nat.le_of_ble_eq_true rfl⟩) ?_)
  (refine am_callJ (q := 0) (na := 1) rfl rfl (by decide) rfl (by decide +kernel) (by decide +kernel) (by decide +kernel) (by decide +kernel) (by decide +kernel) (by decide +kernel) (cj_coder) (by decide) (Nat.le_refl _) (Nat.le_of_ble_eq_true rfl) (fun rv s q => ?_))
  obtain ⟨rfl, rfl⟩ := q
  (refine am_go rfl (by first | exact True.intro | omega | exact ⟨by decide, Nat.le_of_ble_eq_true rfl, Nat.le_of_ble_eq_true rfl⟩ | exact ⟨by decide, Nat.le_of_ble_eq_true rfl⟩) ?_)
  exact am_iret rfl rfl rfl ⟨rfl, rfl⟩
set_option maxRecDepth 100000 in
set_option maxHeartbeats 4000000 in
theorem cj_pre (x y : Int) (o : Option Nat) (hx : 0 ≤ x ∧ x < y) : am_Ct l dC dI tc mk_pre 0 σ.1 [.inl x, .inl y, .inr (.inr o)] σ (fun r s => r = some (.inl x) ∧ s = σ) := by
  refine am_enter okj_pre rfl (by decide) (Nat.le_of_ble_eq_true rfl) rfl ?_
  (refine am_go rfl (by first | exact True.intro | omega | exact ⟨by decide, Nat.le_of_ble_eq_true rfl, Nat.le_of_ble_eq_true rfl⟩ | exact ⟨by decide, Nat.le_of_ble_eq_true rfl⟩) ?_)
  refine am_if rfl (fun c1 => by omega) (fun c1 => ?_)
  iterate 2 (refine am_go rfl (by first | exact True.intro | omega | exact ⟨by decide, Nat.le_of_ble_eq_true rfl, Nat.le_of_ble_eq_true rfl⟩ | exact ⟨by decide, Nat.le_of_ble_eq_true rfl⟩) ?_)
  refine am_if rfl (fun c1 => ?_) (fun c1 => by omega)
  (refine am_go rfl (by first | exact True.intro | omega | exact ⟨by decide, Nat.le_of_ble_eq_true rfl, Nat.le_of_ble_eq_true rfl⟩ | exact ⟨by decide, Nat.le_of_ble_eq_true rfl⟩) ?_)
  exact am_iret rfl rfl rfl ⟨rfl, rfl⟩
set_option maxRecDepth 100000 in
set_option maxHeartbeats 4000000 in
theorem cj_checkIndex (x y : Int) (hx : 0 ≤ x ∧ x < y) : am_Ct l dC dI tc mk_checkIndex 1 σ.1 [.inl x, .inl y] σ (fun r s => r = none ∧ s = σ) := by
  refine am_enter okj_checkIndex rfl (by decide) (Nat.le_of_ble_eq_true rfl) rfl ?_
  iterate 2 (refine am_go rfl (by first | exact True.intro | omega | exact ⟨by decide, Nat.le_of_ble_eq_true rfl, Nat.le_of_ble_eq_true rfl⟩ | exact ⟨by decide, Nat.le_of_ble_eq_true rfl⟩) ?_)
  refine am_gets (P := fun v => ∃ o, v = .inr (.inr o)) (C := "jdk/internal/util/Preconditions") (n := "SIOOBE_FORMATTER") (dd := "Ljava/util/function/BiFunction;") rfl (by decide +kernel) (fun ad0 A s h => ?_) (fun v hv => ?_)
  · obtain ⟨o, h1, h2⟩ := h.2.2.2.2 ("jdk/internal/util/Preconditions", "SIOOBE_FORMATTER", "Ljava/util/function/BiFunction;") (by decide)
    exact ⟨.inr (.inr o), h2, fun k hk => Or.inr (h1 k hk), o, rfl⟩
  · obtain ⟨o, rfl⟩ := hv
    (refine am_callT (na := 3) rfl rfl (by decide +kernel) (by decide +kernel) (by decide +kernel) (by decide +kernel) (by decide +kernel) (cj_pre x y o hx) (by decide) (Nat.le_refl _) (Nat.le_of_ble_eq_true rfl) (fun rv s q => ?_))
    obtain ⟨rfl, rfl⟩ := q
    refine am_pop rfl ?_
    exact am_vret (x := 0) rfl rfl rfl ⟨rfl, rfl⟩
set_option maxRecDepth 100000 in
set_option maxHeartbeats 4000000 in
theorem cj_lcharAt (x : Int) (hx : 0 ≤ x ∧ x < 9) : am_Ct l dC dI tc mk_lcharAt 2 σ.1 [(.inr (.inr (some 2000))), .inl x] σ (fun r s => r = some (.inl (zLet x)) ∧ s = σ) := by
  refine am_enter okj_lcharAt rfl (by decide) (Nat.le_of_ble_eq_true rfl) rfl ?_
  have hz := zLet_r x
  iterate 2 (refine am_go rfl (by first | exact True.intro | omega | exact ⟨by decide, Nat.le_of_ble_eq_true rfl, Nat.le_of_ble_eq_true rfl⟩ | exact ⟨by decide, Nat.le_of_ble_eq_true rfl⟩) ?_)
  refine am_blen rfl ?_
  (refine am_callT (na := 2) rfl rfl (by decide +kernel) (by decide +kernel) (by decide +kernel) (by decide +kernel) (by decide +kernel) (cj_checkIndex x 9 hx) (by decide) (Nat.le_refl _) (Nat.le_of_ble_eq_true rfl) (fun rv s q => ?_))
  obtain ⟨rfl, rfl⟩ := q
  iterate 2 (refine am_go rfl (by first | exact True.intro | omega | exact ⟨by decide, Nat.le_of_ble_eq_true rfl, Nat.le_of_ble_eq_true rfl⟩ | exact ⟨by decide, Nat.le_of_ble_eq_true rfl⟩) ?_)
  refine am_bald rfl hx ?_
  iterate 2 (refine am_go rfl (by first | exact True.intro | omega | exact ⟨by decide, Nat.le_of_ble_eq_true rfl, Nat.le_of_ble_eq_true rfl⟩ | exact ⟨by decide, Nat.le_of_ble_eq_true rfl⟩) ?_)
  have e1 : am_and (zLet x) 255 = zLet x := by
    unfold zLet
    repeat' split
    all_goals decide
  rw [e1]
  (refine am_go rfl (by first | exact True.intro | omega | exact ⟨by decide, Nat.le_of_ble_eq_true rfl, Nat.le_of_ble_eq_true rfl⟩ | exact ⟨by decide, Nat.le_of_ble_eq_true rfl⟩) ?_)
  exact am_nret rfl rfl (am_cnar (by omega)) rfl ⟨rfl, rfl⟩
set_option maxRecDepth 100000 in
set_option maxHeartbeats 4000000 in
theorem cj_charAt (x : Int) (hx : 0 ≤ x ∧ x < 9) : am_Ct l dC dI tc mk_charAt 3 σ.1 [(.inr (.inr (some 1000))), .inl x] σ (fun r s => r = some (.inl (zLet x)) ∧ s = σ) := by
  refine am_enter okj_charAt rfl (by decide) (Nat.le_of_ble_eq_true rfl) rfl ?_
  have hz := zLet_r x
  (refine am_go rfl (by first | exact True.intro | omega | exact ⟨by decide, Nat.le_of_ble_eq_true rfl, Nat.le_of_ble_eq_true rfl⟩ | exact ⟨by decide, Nat.le_of_ble_eq_true rfl⟩) ?_)
  (refine am_callJ (q := 0) (na := 1) rfl rfl (by decide) rfl (by decide +kernel) (by decide +kernel) (by decide +kernel) (by decide +kernel) (by decide +kernel) (by decide +kernel) (cj_isLatin1) (by decide) (Nat.le_refl _) (Nat.le_of_ble_eq_true rfl) (fun rv s q => ?_))
  obtain ⟨rfl, rfl⟩ := q
  refine am_if rfl (fun c1 => by omega) (fun c1 => ?_)
  (refine am_go rfl (by first | exact True.intro | omega | exact ⟨by decide, Nat.le_of_ble_eq_true rfl, Nat.le_of_ble_eq_true rfl⟩ | exact ⟨by decide, Nat.le_of_ble_eq_true rfl⟩) ?_)
  refine am_value (q := 0) rfl (by decide) (by decide +kernel) ?_
  (refine am_go rfl (by first | exact True.intro | omega | exact ⟨by decide, Nat.le_of_ble_eq_true rfl, Nat.le_of_ble_eq_true rfl⟩ | exact ⟨by decide, Nat.le_of_ble_eq_true rfl⟩) ?_)
  (refine am_callT (na := 2) rfl rfl (by decide +kernel) (by decide +kernel) (by decide +kernel) (by decide +kernel) (by decide +kernel) (cj_lcharAt x hx) (by decide) (Nat.le_refl _) (Nat.le_of_ble_eq_true rfl) (fun rv s q => ?_))
  obtain ⟨rfl, rfl⟩ := q
  exact am_nret rfl rfl (am_cnar (by omega)) rfl ⟨rfl, rfl⟩
set_option maxRecDepth 100000 in
set_option maxHeartbeats 4000000 in
theorem cj_canEncode (x : Int) (hx : 0 ≤ x ∧ x < 128) : am_Ct l dC dI tc mk_canEncode 0 σ.1 [.inl x] σ (fun r s => r = some (.inl 1) ∧ s = σ) := by
  refine am_enter okj_canEncode rfl (by decide) (Nat.le_of_ble_eq_true rfl) rfl ?_
  (refine am_go rfl (by first | exact True.intro | omega | exact ⟨by decide, Nat.le_of_ble_eq_true rfl, Nat.le_of_ble_eq_true rfl⟩ | exact ⟨by decide, Nat.le_of_ble_eq_true rfl⟩) ?_)
  refine am_if rfl (fun c1 => by omega) (fun c1 => ?_)
  iterate 2 (refine am_go rfl (by first | exact True.intro | omega | exact ⟨by decide, Nat.le_of_ble_eq_true rfl, Nat.le_of_ble_eq_true rfl⟩ | exact ⟨by decide, Nat.le_of_ble_eq_true rfl⟩) ?_)
  refine am_if rfl (fun c1 => by omega) (fun c1 => ?_)
  iterate 2 (refine am_go rfl (by first | exact True.intro | omega | exact ⟨by decide, Nat.le_of_ble_eq_true rfl, Nat.le_of_ble_eq_true rfl⟩ | exact ⟨by decide, Nat.le_of_ble_eq_true rfl⟩) ?_)
  exact am_nret rfl rfl (by decide) rfl ⟨rfl, rfl⟩
set_option maxRecDepth 100000 in
set_option maxHeartbeats 4000000 in
theorem cj_indexOfChar (x : Int) (hx : 0 ≤ x ∧ x < 128) : am_Ct l dC dI tc mk_indexOfChar 0 σ.1 [(.inr (.inr (some 2000))), .inl x, .inl 0, .inl 9] σ (fun r s => s = σ ∧ ∃ q, r = some (.inl q) ∧ zIxR x q) := by
  refine am_enter okj_indexOfChar rfl (by decide) (Nat.le_of_ble_eq_true rfl) rfl ?_
  have loop : ∀ (n : Nat) (j : Int), j + n = 9 → 0 ≤ j → (∀ t, 0 ≤ t → t < j → zLet t ≠ x) → am_wp l dC dI tc mk_indexOfChar 0 σ.1 σ.1 (fun r s => s = σ ∧ ∃ q, r = some (.inl q) ∧ zIxR x q) 5 [some (.inr (.inr (some 2000))), some (.inl x), some (.inl 0), some (.inl 9), some (.inl x), some (.inl j)] [] σ := by
    intro n
    induction n with
    | zero =>
      intro j hj h0 h
      iterate 2 (refine am_go rfl (by first | exact True.intro | omega | exact ⟨by decide, Nat.le_of_ble_eq_true rfl, Nat.le_of_ble_eq_true rfl⟩ | exact ⟨by decide, Nat.le_of_ble_eq_true rfl⟩) ?_)
      refine am_if rfl (fun c1 => ?_) (fun c1 => by omega)
      (refine am_go rfl (by first | exact True.intro | omega | exact ⟨by decide, Nat.le_of_ble_eq_true rfl, Nat.le_of_ble_eq_true rfl⟩ | exact ⟨by decide, Nat.le_of_ble_eq_true rfl⟩) ?_)
      exact am_iret rfl rfl rfl ⟨rfl, -1, rfl, Or.inr ⟨rfl, fun t t1 t2 => h t t1 (by omega)⟩⟩
    | succ n ih =>
      intro j hj h0 h
      iterate 2 (refine am_go rfl (by first | exact True.intro | omega | exact ⟨by decide, Nat.le_of_ble_eq_true rfl, Nat.le_of_ble_eq_true rfl⟩ | exact ⟨by decide, Nat.le_of_ble_eq_true rfl⟩) ?_)
      refine am_if rfl (fun c1 => by omega) (fun c1 => ?_)
      iterate 2 (refine am_go rfl (by first | exact True.intro | omega | exact ⟨by decide, Nat.le_of_ble_eq_true rfl, Nat.le_of_ble_eq_true rfl⟩ | exact ⟨by decide, Nat.le_of_ble_eq_true rfl⟩) ?_)
      refine am_bald rfl ⟨h0, by omega⟩ ?_
      (refine am_go rfl (by first | exact True.intro | omega | exact ⟨by decide, Nat.le_of_ble_eq_true rfl, Nat.le_of_ble_eq_true rfl⟩ | exact ⟨by decide, Nat.le_of_ble_eq_true rfl⟩) ?_)
      refine am_if rfl (fun c2 => ?_) (fun c2 => ?_)
      · iterate 2 (refine am_go rfl (by first | exact True.intro | omega | exact ⟨by decide, Nat.le_of_ble_eq_true rfl, Nat.le_of_ble_eq_true rfl⟩ | exact ⟨by decide, Nat.le_of_ble_eq_true rfl⟩) ?_)
        exact ih (j + 1) (by omega) (by omega) (fun t t1 t2 => by
          by_cases u : t = j
          · rw [u]; exact c2
          · exact h t t1 (by omega))
      · (refine am_go rfl (by first | exact True.intro | omega | exact ⟨by decide, Nat.le_of_ble_eq_true rfl, Nat.le_of_ble_eq_true rfl⟩ | exact ⟨by decide, Nat.le_of_ble_eq_true rfl⟩) ?_)
        exact am_iret rfl rfl rfl ⟨rfl, j, rfl, Or.inl ⟨h0, by omega, by omega⟩⟩
  (refine am_go rfl (by first | exact True.intro | omega | exact ⟨by decide, Nat.le_of_ble_eq_true rfl, Nat.le_of_ble_eq_true rfl⟩ | exact ⟨by decide, Nat.le_of_ble_eq_true rfl⟩) ?_)
  refine am_i2b rfl hx ?_
  iterate 3 (refine am_go rfl (by first | exact True.intro | omega | exact ⟨by decide, Nat.le_of_ble_eq_true rfl, Nat.le_of_ble_eq_true rfl⟩ | exact ⟨by decide, Nat.le_of_ble_eq_true rfl⟩) ?_)
  exact loop 9 0 (by omega) (by omega) (fun t t1 t2 => by omega)
theorem am_mmin {pc nx idx : Nat} {xs : List Nat} {kk : Int} {r : List am_V} (he : am_at M.2.2.2.2 i = some (pc, .invokestatic idx, nx, xs, kk)) (hl : am_isin (Cond.methodLink M.1.cls idx Lib.Math.min.name) = true) (l1 : am_isin (Cond.static Lib.Math.min.name) = true) (l2 : am_isin (Cond.initialized "java/lang/Math") = true) (l3 : am_isin (Cond.code Lib.Math.min.name Lib.Math.min.code 2 (some .int)) = true) (hd : 0 < d) (hr : r.length ≤ 8) (hc1 : σ.1 ≤ n1) (k : am_wp l dC dI tc M d n0 n1 Q nx lv (.inl 9 :: r) σ) : am_wp l dC dI tc M d n0 n1 Q i lv (.inl 9 :: .inl 9 :: r) σ := by
  intro hok p e s m args below meth c ad0 A hB ad H locs ls hS
  have ho := hok i _ he
  have hp : am_pcd M i = pc := by unfold am_pcd; rw [he]
  have hdc := am_oke_dec ho (fun a b c d h => by cases h)
  have hk := k hok p e s m args below meth c ad0 A hB ad H locs ls (hS.sk ⟨hS.vs.1, hS.vs.2.2⟩)
  rw [am_oke_nx ho rfl] at hk
  rw [hp]
  have hn0 := hS.2.1
  refine va_mmin (R := am_rm d n0 n1) hB.1 hB.2.1 (hB.2.2.2.1.trans hS.lh.1.symm) hB.2.2.2.2.1 (hB.2.2.2.2.2.1 _ (am_in_tb hl)) (hB.2.2.2.2.2.1 _ (am_in_tb l1)) (hB.2.2.2.2.2.1 _ (am_in_tb l2)) (hB.2.2.2.2.2.1 _ (am_in_tb l3)) hd ?_ ?_ ?_ hdc ?_
  · have := am_cats ad r
    show _ ≤ 35 * d
    omega
  · show σ.1 - n0 ≤ n1 - n0
    omega
  · have hm0 := am_sz_mono hn0
    have hm2 := am_sz_mono hc1
    show am_sz σ.1 - am_sz n0 ≤ am_sz n1 - am_sz n0
    omega
  · rw [ite_self]
    exact hk
set_option maxRecDepth 100000 in
set_option maxHeartbeats 4000000 in
theorem cj_lindexOf (x : Int) (hx : 0 ≤ x ∧ x < 128) : am_Ct l dC dI tc mk_lindexOf 1 σ.1 [(.inr (.inr (some 2000))), .inl x, .inl 0, .inl 9] σ (fun r s => s = σ ∧ ∃ q, r = some (.inl q) ∧ zIxR x q) := by
  refine am_enter okj_lindexOf rfl (by decide) (Nat.le_of_ble_eq_true rfl) rfl ?_
  (refine am_go rfl (by first | exact True.intro | omega | exact ⟨by decide, Nat.le_of_ble_eq_true rfl, Nat.le_of_ble_eq_true rfl⟩ | exact ⟨by decide, Nat.le_of_ble_eq_true rfl⟩) ?_)
  (refine am_callT (na := 1) rfl rfl (by decide +kernel) (by decide +kernel) (by decide +kernel) (by decide +kernel) (by decide +kernel) (cj_canEncode x hx) (by decide) (Nat.le_refl _) (Nat.le_of_ble_eq_true rfl) (fun rv s q => ?_))
  obtain ⟨rfl, rfl⟩ := q
  refine am_if rfl (fun c1 => ?_) (fun c1 => by omega)
  iterate 2 (refine am_go rfl (by first | exact True.intro | omega | exact ⟨by decide, Nat.le_of_ble_eq_true rfl, Nat.le_of_ble_eq_true rfl⟩ | exact ⟨by decide, Nat.le_of_ble_eq_true rfl⟩) ?_)
  refine am_go rfl ⟨by decide, Nat.le_of_ble_eq_true rfl, Nat.le_refl _⟩ ?_
  iterate 3 (refine am_go rfl (by first | exact True.intro | omega | exact ⟨by decide, Nat.le_of_ble_eq_true rfl, Nat.le_of_ble_eq_true rfl⟩ | exact ⟨by decide, Nat.le_of_ble_eq_true rfl⟩) ?_)
  refine am_blen rfl ?_
  refine am_mmin rfl (by decide +kernel) (by decide +kernel) (by decide +kernel) (by decide +kernel) (by decide) (Nat.le_of_ble_eq_true rfl) (Nat.le_refl _) ?_
  iterate 3 (refine am_go rfl (by first | exact True.intro | omega | exact ⟨by decide, Nat.le_of_ble_eq_true rfl, Nat.le_of_ble_eq_true rfl⟩ | exact ⟨by decide, Nat.le_of_ble_eq_true rfl⟩) ?_)
  refine am_if rfl (fun c1 => ?_) (fun c1 => by omega)
  iterate 4 (refine am_go rfl (by first | exact True.intro | omega | exact ⟨by decide, Nat.le_of_ble_eq_true rfl, Nat.le_of_ble_eq_true rfl⟩ | exact ⟨by decide, Nat.le_of_ble_eq_true rfl⟩) ?_)
  (refine am_callT (na := 4) rfl rfl (by decide +kernel) (by decide +kernel) (by decide +kernel) (by decide +kernel) (by decide +kernel) (cj_indexOfChar x hx) (by decide) (Nat.le_refl _) (Nat.le_of_ble_eq_true rfl) (fun rv s q => ?_))
  obtain ⟨rfl, q, rfl, hq⟩ := q
  exact am_iret rfl rfl rfl ⟨rfl, q, rfl, hq⟩
set_option maxRecDepth 100000 in
set_option maxHeartbeats 4000000 in
theorem cj_indexOf2 (x : Int) (hx : 0 ≤ x ∧ x < 128) : am_Ct l dC dI tc mk_indexOf2 2 σ.1 [(.inr (.inr (some 1000))), .inl x, .inl 0] σ (fun r s => s = σ ∧ ∃ q, r = some (.inl q) ∧ zIxR x q) := by
  refine am_enter okj_indexOf2 rfl (by decide) (Nat.le_of_ble_eq_true rfl) rfl ?_
  (refine am_go rfl (by first | exact True.intro | omega | exact ⟨by decide, Nat.le_of_ble_eq_true rfl, Nat.le_of_ble_eq_true rfl⟩ | exact ⟨by decide, Nat.le_of_ble_eq_true rfl⟩) ?_)
  (refine am_callJ (q := 0) (na := 1) rfl rfl (by decide) rfl (by decide +kernel) (by decide +kernel) (by decide +kernel) (by decide +kernel) (by decide +kernel) (by decide +kernel) (cj_isLatin1) (by decide) (Nat.le_refl _) (Nat.le_of_ble_eq_true rfl) (fun rv s q => ?_))
  obtain ⟨rfl, rfl⟩ := q
  refine am_if rfl (fun c1 => by omega) (fun c1 => ?_)
  (refine am_go rfl (by first | exact True.intro | omega | exact ⟨by decide, Nat.le_of_ble_eq_true rfl, Nat.le_of_ble_eq_true rfl⟩ | exact ⟨by decide, Nat.le_of_ble_eq_true rfl⟩) ?_)
  refine am_value (q := 0) rfl (by decide) (by decide +kernel) ?_
  iterate 3 (refine am_go rfl (by first | exact True.intro | omega | exact ⟨by decide, Nat.le_of_ble_eq_true rfl, Nat.le_of_ble_eq_true rfl⟩ | exact ⟨by decide, Nat.le_of_ble_eq_true rfl⟩) ?_)
  (refine am_callJ (q := 0) (na := 1) rfl rfl (by decide) rfl (by decide +kernel) (by decide +kernel) (by decide +kernel) (by decide +kernel) (by decide +kernel) (by decide +kernel) (cj_length) (by decide) (Nat.le_refl _) (Nat.le_of_ble_eq_true rfl) (fun rv s q => ?_))
  obtain ⟨rfl, rfl⟩ := q
  (refine am_callT (na := 4) rfl rfl (by decide +kernel) (by decide +kernel) (by decide +kernel) (by decide +kernel) (by decide +kernel) (cj_lindexOf x hx) (by decide) (Nat.le_refl _) (Nat.le_of_ble_eq_true rfl) (fun rv s q => ?_))
  obtain ⟨rfl, q, rfl, hq⟩ := q
  (refine am_go rfl (by first | exact True.intro | omega | exact ⟨by decide, Nat.le_of_ble_eq_true rfl, Nat.le_of_ble_eq_true rfl⟩ | exact ⟨by decide, Nat.le_of_ble_eq_true rfl⟩) ?_)
  exact am_iret rfl rfl rfl ⟨rfl, q, rfl, hq⟩
set_option maxRecDepth 100000 in
set_option maxHeartbeats 4000000 in
theorem cj_indexOf (x : Int) (hx : 0 ≤ x ∧ x < 128) : am_Ct l dC dI tc mk_indexOf 3 σ.1 [(.inr (.inr (some 1000))), .inl x] σ (fun r s => s = σ ∧ ∃ q, r = some (.inl q) ∧ zIxR x q) := by
  refine am_enter okj_indexOf rfl (by decide) (Nat.le_of_ble_eq_true rfl) rfl ?_
  iterate 3 (refine am_go rfl (by first | exact True.intro | omega | exact ⟨by decide, Nat.le_of_ble_eq_true rfl, Nat.le_of_ble_eq_true rfl⟩ | exact ⟨by decide, Nat.le_of_ble_eq_true rfl⟩) ?_)
  (refine am_callJ (q := 0) (na := 3) rfl rfl (by decide) rfl (by decide +kernel) (by decide +kernel) (by decide +kernel) (by decide +kernel) (by decide +kernel) (by decide +kernel) (cj_indexOf2 x hx) (by decide) (Nat.le_refl _) (Nat.le_of_ble_eq_true rfl) (fun rv s q => ?_))
  obtain ⟨rfl, q, rfl, hq⟩ := q
  exact am_iret rfl rfl rfl ⟨rfl, q, rfl, hq⟩
end Jdk2

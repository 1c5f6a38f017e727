/-! the law's loop -/
theorem lw_d23 : decode code 23 = .ok (.iload 4, 2) := by decide +kernel
theorem lw_d25 : decode code 25 = .ok (.aload_n 0, 1) := by decide +kernel
theorem lw_d26 : decode code 26 = .ok (.arraylength, 1) := by decide +kernel
theorem lw_d27 : decode code 27 = .ok (.bipush 6, 2) := by decide +kernel
theorem lw_d29 : decode code 29 = .ok (.isub, 1) := by decide +kernel
theorem lw_d30 : decode code 30 = .ok (.if_icmp .gt 480, 3) := by decide +kernel
theorem lw_d33 : decode code 33 = .ok (.aload_n 0, 1) := by decide +kernel
theorem lw_d34 : decode code 34 = .ok (.iload 4, 2) := by decide +kernel
theorem lw_d36 : decode code 36 = .ok (.iaload, 1) := by decide +kernel
theorem lw_d37 : decode code 37 = .ok (.bipush 15, 2) := by decide +kernel
theorem lw_d39 : decode code 39 = .ok (.iand, 1) := by decide +kernel
theorem lw_d40 : decode code 40 = .ok (.tableswitch 464 0 11 #[64, 89, 133, 146, 239, 252, 301, 326, 375, 401, 414, 439], 64) := by decide +kernel
theorem lw_d504 : decode code 504 = .ok (.iinc 4 6, 3) := by decide +kernel
theorem lw_d507 : decode code 507 = .ok (.goto (-484), 3) := by decide +kernel
theorem lw_d510 : decode code 510 = .ok (.iconst 1, 1) := by decide +kernel
theorem lw_d511 : decode code 511 = .ok (.ireturn, 1) := by decide +kernel
section LwL
variable {p : Program} {l : Launch} {e : Env} {s : State} {m : MethodId} {below : List Frame} {meth : Method} {c : Code} {b L : Nat} {xs : Nat → Int32} {dC : Nat → ClassId} {dI : Nat → Nat → Nat} {tc : Nat → ClassId} {ad0 : Nat → Nat} {cJ : ClassId} {oa : Nat}
set_option maxRecDepth 100000 in
set_option maxHeartbeats 4000000 in
theorem lw_loop (hfl : l.flags = flags0) (G : lw_G dC dI tc ad0 cJ p s m meth c b L xs) (S : Nat) (hS : S + 3072 ≤ 13087) : ∀ (n j : Nat) (H : Heap) (locs : List Loc) (ad : Nat → Nat) (fo : Nat → Int64) (σ : am_H) (ls : Array Slot), L ≤ 6 * j + 6 * n → 6 * j ≤ L + 5 → lw_J dC dI tc s ad0 oa cJ H locs ad fo σ → zSg σ → lv_has ls 7 [(0, .ref b), (1, .ref (ad 0)), (2, .ref (ad 38)), (3, .ref oa), (4, .int (nI (6 * j)))] → W p l e room_1 s m #[Value.ref b] below meth c H locs (59 + j) (S + 6 * j) (lw_Z below #[Value.ref b] s) (F0 m 23 ls []) := by
  intro n
  have C0 := G.1
  have hL := G.2.1
  have hbA : ¬ lw_A s b := fun h => absurd C0.2.2.2.2.2.2.2.1 (Nat.not_lt.mpr h)
  induction n with
  | zero =>
    intro j H locs ad fo σ ls hn hj J hz hl
    refine lv_iload C0.1 C0.2.1 lw_d23 (lv_at hl 4 rfl) ?_
    refine lv_aload_n C0.1 C0.2.1 lw_d25 rfl (lv_at hl 0 rfl) ?_
    refine va_slen C0.1 C0.2.1 C0.2.2.2.2.2.2.1 C0.2.2.2.2.2.2.2.1 hbA J.2.2.2.2.1 lw_d26 ?_
    refine lv_bipush (v := nI 6) C0.1 C0.2.1 lw_d27 (by decide +kernel) ?_
    refine lv_isub C0.1 C0.2.1 lw_d29 ?_
    refine lv_icmp_gt (tgt := 510) C0.1 C0.2.1 lw_d30 rfl (fun _ => ?_) (fun h => ?_)
    · refine lv_iconst (v := 1) C0.1 C0.2.1 lw_d510 (by decide) ?_
      refine va_forget J.2.2.2.2.1.2.2 ?_
      refine W.widen (k := 1084) (n := 13087) (by omega) (by omega) ?_
      exact lw_ret C0.1 C0.2.1 C0.2.2.1 C0.2.2.2.2.2.2.2.2.1 lw_d511
    · exfalso
      rw [Int32.lt_iff_toInt_lt, show Int32.ofNat L - nI 6 = nI L - nI 6 from rfl, pk_sub_toInt (by omega) (by omega), nI_toInt (by omega)] at h
      omega
  | succ n ih =>
    intro j H locs ad fo σ ls hn hj J hz hl
    refine lv_iload C0.1 C0.2.1 lw_d23 (lv_at hl 4 rfl) ?_
    refine lv_aload_n C0.1 C0.2.1 lw_d25 rfl (lv_at hl 0 rfl) ?_
    refine va_slen C0.1 C0.2.1 C0.2.2.2.2.2.2.1 C0.2.2.2.2.2.2.2.1 hbA J.2.2.2.2.1 lw_d26 ?_
    refine lv_bipush (v := nI 6) C0.1 C0.2.1 lw_d27 (by decide +kernel) ?_
    refine lv_isub C0.1 C0.2.1 lw_d29 ?_
    refine lv_icmp_gt (tgt := 510) C0.1 C0.2.1 lw_d30 rfl (fun _ => ?_) (fun h => ?_)
    · refine lv_iconst (v := 1) C0.1 C0.2.1 lw_d510 (by decide) ?_
      refine va_forget J.2.2.2.2.1.2.2 ?_
      refine W.widen (k := 1084) (n := 13087) (by omega) (by omega) ?_
      exact lw_ret C0.1 C0.2.1 C0.2.2.1 C0.2.2.2.2.2.2.2.2.1 lw_d511
    · rw [Int32.lt_iff_toInt_lt, show Int32.ofNat L - nI 6 = nI L - nI 6 from rfl, pk_sub_toInt (by omega) (by omega), nI_toInt (by omega)] at h
      have hi : 6 * j + 5 < L := by omega
      have hr : (59 + j) + 1 ≤ 1084 ∧ (S + 6 * j) + 6 ≤ 13087 := ⟨by omega, by omega⟩
      have kont : ∀ H' locs' ad' fo' σ' ls', lw_J dC dI tc s ad0 oa cJ H' locs' ad' fo' σ' → zSg σ' → lv_has ls' 7 [(0, .ref b), (1, .ref (ad' 0)), (2, .ref (ad' 38)), (3, .ref oa), (4, .int (nI (6 * j)))] → W p l e room_1 s m #[Value.ref b] below meth c H' locs' ((59 + j) + 1) ((S + 6 * j) + 6) (lw_Z below #[Value.ref b] s) (F0 m 504 ls' []) := by
        intro H' locs' ad' fo' σ' ls' J' hz' hl'
        refine lv_iinc (k := 4) (v := nI (6 * (j + 1))) C0.1 C0.2.1 lw_d504 hl' rfl (by rw [show Int32.ofInt 6 = nI 6 from by decide +kernel, nI_add]; rfl) (by decide) rfl (fun ls2 hl2 => ?_)
        refine lv_goto (tgt := 23) C0.1 C0.2.1 lw_d507 rfl ?_
        have := ih (j + 1) H' locs' ad' fo' σ' ls2 (by omega) (by omega) J' hz' (lv_sub hl2 [1, 2, 3, 4, 0] rfl)
        rw [show (59 + j) + 1 = 59 + (j + 1) by omega, show (S + 6 * j) + 6 = S + 6 * (j + 1) by omega]
        exact this
      refine lv_aload_n C0.1 C0.2.1 lw_d33 rfl (lv_at hl 0 rfl) ?_
      refine lv_iload C0.1 C0.2.1 lw_d34 (lv_at hl 4 rfl) ?_
      refine va_sld C0.1 C0.2.1 C0.2.2.2.2.2.2.1 C0.2.2.2.2.2.2.2.1 hbA J.2.2.2.2.1 (pk_in (6 * j) L (by omega)) lw_d36 ?_
      refine lv_bipush (v := 15) C0.1 C0.2.1 lw_d37 (by decide +kernel) ?_
      refine lv_iand C0.1 C0.2.1 lw_d39 ?_
      obtain ⟨t, ht, et⟩ := pk_andE (xs (nI (6 * j)).toNatClampNeg) 4 (m := 15) (by decide +kernel)
      rw [et]
      clear et
      have hout : 12 ≤ t → W p l e room_1 s m #[Value.ref b] below meth c H locs (59 + j) (S + 6 * j) (lw_Z below #[Value.ref b] s) (F0 m 40 ls [.int (nI t)]) := fun h12 => by
        refine lv_tableOut (tgt := 504) C0.1 C0.2.1 lw_d40 (Or.inr (by rw [nI_toInt (by omega)]; omega)) rfl ?_
        refine W.widen (k := (59 + j) + 1) (n := (S + 6 * j) + 6) (Nat.le_add_right _ _) (Nat.le_add_right _ _) ?_
        exact kont H locs ad fo σ ls J hz hl
      match t, ht with
      | 0, _ => exact lv_tableIn (x := nI 0) (off := 64) (tgt := 104) C0.1 C0.2.1 lw_d40 (by decide +kernel) (by decide +kernel) (by decide +kernel) rfl (lw_c104 G J hz hi hr hl kont)
      | 1, _ => exact lv_tableIn (x := nI 1) (off := 89) (tgt := 129) C0.1 C0.2.1 lw_d40 (by decide +kernel) (by decide +kernel) (by decide +kernel) rfl (lw_c129 hfl G J hz hr hl kont)
      | 2, _ => exact lv_tableIn (x := nI 2) (off := 133) (tgt := 173) C0.1 C0.2.1 lw_d40 (by decide +kernel) (by decide +kernel) (by decide +kernel) rfl (lw_c173 G J hz hi hr hl kont)
      | 3, _ => exact lv_tableIn (x := nI 3) (off := 146) (tgt := 186) C0.1 C0.2.1 lw_d40 (by decide +kernel) (by decide +kernel) (by decide +kernel) rfl (lw_c186 G J hz hi hr hl kont)
      | 4, _ => exact lv_tableIn (x := nI 4) (off := 239) (tgt := 279) C0.1 C0.2.1 lw_d40 (by decide +kernel) (by decide +kernel) (by decide +kernel) rfl (lw_c279 G J hz hi hr hl kont)
      | 5, _ => exact lv_tableIn (x := nI 5) (off := 252) (tgt := 292) C0.1 C0.2.1 lw_d40 (by decide +kernel) (by decide +kernel) (by decide +kernel) rfl (lw_c292 G J hz hi hr hl kont)
      | 6, _ => exact lv_tableIn (x := nI 6) (off := 301) (tgt := 341) C0.1 C0.2.1 lw_d40 (by decide +kernel) (by decide +kernel) (by decide +kernel) rfl (lw_c341 G J hz hi hr hl kont)
      | 7, _ => exact lv_tableIn (x := nI 7) (off := 326) (tgt := 366) C0.1 C0.2.1 lw_d40 (by decide +kernel) (by decide +kernel) (by decide +kernel) rfl (lw_c366 G J hz hi hr hl kont)
      | 8, _ => exact lv_tableIn (x := nI 8) (off := 375) (tgt := 415) C0.1 C0.2.1 lw_d40 (by decide +kernel) (by decide +kernel) (by decide +kernel) rfl (lw_c415 G J hz hi hr hl kont)
      | 9, _ => exact lv_tableIn (x := nI 9) (off := 401) (tgt := 441) C0.1 C0.2.1 lw_d40 (by decide +kernel) (by decide +kernel) (by decide +kernel) rfl (lw_c441 G J hz hi hr hl kont)
      | 10, _ => exact lv_tableIn (x := nI 10) (off := 414) (tgt := 454) C0.1 C0.2.1 lw_d40 (by decide +kernel) (by decide +kernel) (by decide +kernel) rfl (lw_c454 G J hz hi hr hl kont)
      | 11, _ => exact lv_tableIn (x := nI 11) (off := 439) (tgt := 479) C0.1 C0.2.1 lw_d40 (by decide +kernel) (by decide +kernel) (by decide +kernel) rfl (lw_c479 G J hz hi hr hl kont)
      | t + 12, _ => exact hout (by omega)
end LwL

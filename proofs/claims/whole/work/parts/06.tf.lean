theorem nW0 : ∀ w ∈ u_ws nR0 nT0 10, w ∈ am_tb := fun w h => am_in_tb ((by decide +kernel : ∀ w ∈ u_ws nR0 nT0 10, am_isin w = true) w h)
theorem nW1 : ∀ w ∈ u_ws nR1 nT1 8, w ∈ am_tb := fun w h => am_in_tb ((by decide +kernel : ∀ w ∈ u_ws nR1 nT1 8, am_isin w = true) w h)
theorem nW2 : ∀ w ∈ u_ws nR2 nT2 6, w ∈ am_tb := fun w h => am_in_tb ((by decide +kernel : ∀ w ∈ u_ws nR2 nT2 6, am_isin w = true) w h)
theorem nW3 : ∀ w ∈ u_ws nR3 nT3 4, w ∈ am_tb := fun w h => am_in_tb ((by decide +kernel : ∀ w ∈ u_ws nR3 nT3 4, am_isin w = true) w h)
theorem nW4 : ∀ w ∈ u_ws nR4 nT4 15, w ∈ am_tb := fun w h => am_in_tb ((by decide +kernel : ∀ w ∈ u_ws nR4 nT4 15, am_isin w = true) w h)
theorem nW5 : ∀ w ∈ u_ws nR5 nT5 5, w ∈ am_tb := fun w h => am_in_tb ((by decide +kernel : ∀ w ∈ u_ws nR5 nT5 5, am_isin w = true) w h)
theorem nW6 : ∀ w ∈ u_ws nR6 nT6 30, w ∈ am_tb := fun w h => am_in_tb ((by decide +kernel : ∀ w ∈ u_ws nR6 nT6 30, am_isin w = true) w h)
theorem am_Tk : ∀ ci, ci < 7 → ∀ k, k < ((am_at am_ks ci).getD []).length → am_tyk (((am_at am_ks ci).getD []).getD k 9) (am_ty ci k) = true := by decide +kernel
theorem am_Tc : ∀ (ci : Nat) (q : vw_C), am_at classes ci = some q → (∀ w ∈ u_ws q.1 q.2.1 q.2.2, w ∈ am_tb) ∧ (∃ ks, am_at am_ks ci = some ks ∧ ks.length = q.2.2 ∧ ∀ k kd, ks[k]? = some kd → am_tyk kd (am_ty ci k) = true) ∧ (∀ k, k < q.2.2 → parseFieldDescriptor (q.2.1 k).2.2.1 = some (am_ty ci k)) ∧ (∀ a, a < q.2.2 → ∀ b, b < q.2.2 → a ≠ b → (q.2.1 a).2.1 ≠ (q.2.1 b).2.1) := by
  have key : ∀ ci, ci < 7 → ∀ ks, am_at am_ks ci = some ks → ∀ k kd, ks[k]? = some kd → am_tyk kd (am_ty ci k) = true := by
    intro ci hci ks hks k kd hk
    have hl : k < ks.length := (List.getElem?_eq_some_iff.mp hk).1
    have h := am_Tk ci hci k (by rw [hks]; exact hl)
    rw [hks, Option.getD_some, List.getD_eq_getElem?_getD, hk, Option.getD_some] at h
    exact h
  intro ci q h
  match ci, h with
  | 0, h =>
    cases (show some (nR0, nT0, 10) = some q from h)
    exact ⟨nW0, ⟨_, rfl, rfl, key 0 (by decide) _ rfl⟩, nP0, nN0⟩
  | 1, h =>
    cases (show some (nR1, nT1, 8) = some q from h)
    exact ⟨nW1, ⟨_, rfl, rfl, key 1 (by decide) _ rfl⟩, nP1, nN1⟩
  | 2, h =>
    cases (show some (nR2, nT2, 6) = some q from h)
    exact ⟨nW2, ⟨_, rfl, rfl, key 2 (by decide) _ rfl⟩, nP2, nN2⟩
  | 3, h =>
    cases (show some (nR3, nT3, 4) = some q from h)
    exact ⟨nW3, ⟨_, rfl, rfl, key 3 (by decide) _ rfl⟩, nP3, nN3⟩
  | 4, h =>
    cases (show some (nR4, nT4, 15) = some q from h)
    exact ⟨nW4, ⟨_, rfl, rfl, key 4 (by decide) _ rfl⟩, nP4, nN4⟩
  | 5, h =>
    cases (show some (nR5, nT5, 5) = some q from h)
    exact ⟨nW5, ⟨_, rfl, rfl, key 5 (by decide) _ rfl⟩, nP5, nN5⟩
  | 6, h =>
    cases (show some (nR6, nT6, 30) = some q from h)
    exact ⟨nW6, ⟨_, rfl, rfl, key 6 (by decide) _ rfl⟩, nP6, nN6⟩
  | ci + 7, h => exact absurd (show none = some q from h) (by simp)
theorem am_Tall {P : (Nat × Nat) ⊕ Nat → Prop} (h : ∀ e ∈ am_sh, P e) {x : Nat} {e : (Nat × Nat) ⊕ Nat} (he : am_at am_sh x = some e) : P e := by
  rw [am_at_eq] at he
  exact h e (List.mem_of_getElem? he)
def am_shk (e : (Nat × Nat) ⊕ Nat) : Bool := match e with
  | .inl (t, n) => decide (t < 3) && decide (n ≤ 1000)
  | .inr _ => true
theorem am_Tshk : am_sh.all am_shk = true := by decide +kernel
theorem am_Tsh : ∀ x t len, am_at am_sh x = some (.inl (t, len)) → t < 3 := by
  intro x t len h
  have := am_Tall (P := fun e => am_shk e = true) (fun e he => List.all_eq_true.mp am_Tshk e he) h
  simp only [am_shk, Bool.and_eq_true, decide_eq_true_eq] at this
  exact this.1
theorem am_Tlen : ∀ x t len, am_at am_sh x = some (.inl (t, len)) → len ≤ 1000 := by
  intro x t len h
  have := am_Tall (P := fun e => am_shk e = true) (fun e he => List.all_eq_true.mp am_Tshk e he) h
  simp only [am_shk, Bool.and_eq_true, decide_eq_true_eq] at this
  exact this.2
theorem am_Tsh1 : ∀ x e, am_at am_sh x = some e → x < 1000 := by
  intro x e h
  rw [am_at_eq] at h
  have h1 := (List.getElem?_eq_some_iff.mp h).1
  have h2 : am_sh.length ≤ 1000 := by decide +kernel
  omega
theorem am_Tarr : Cond.arrayClass .int ∈ am_tb ∧ Cond.arrayClass .char ∈ am_tb ∧ Cond.arrayClass .boolean ∈ am_tb := ⟨am_in_tb (by decide +kernel), am_in_tb (by decide +kernel), am_in_tb (by decide +kernel)⟩
set_option maxRecDepth 100000 in
theorem am_Tmax : Cond.static Lib.Math.max.name ∈ am_tb ∧ Cond.initialized "java/lang/Math" ∈ am_tb ∧ Cond.code Lib.Math.max.name Lib.Math.max.code 2 (some .int) ∈ am_tb := ⟨am_in_tb (by decide +kernel), am_in_tb (by decide +kernel), List.mem_filter.mpr ⟨List.mem_of_getElem? (i := 299) rfl, rfl⟩⟩
set_option maxRecDepth 100000 in
theorem am_Tobj : Cond.instanceMethod objectInit ∈ am_tb ∧ Cond.code objectInit ⟨#[0xb1]⟩ 1 none ∈ am_tb := ⟨am_in_tb (by decide +kernel), List.mem_filter.mpr ⟨List.mem_of_getElem? (i := 66) rfl, rfl⟩⟩
set_option maxRecDepth 100000 in
theorem am_Tcode : ∀ (j : Nat) (M' : am_M), am_at am_mt j = some M' → Cond.code M'.1 M'.2.1 M'.2.2.1 M'.2.2.2.1 ∈ am_tb := by
  intro j M' h
  match j, h with
  | 0, h =>
    cases (show some mm0_init = some M' from h)
    exact List.mem_filter.mpr ⟨List.mem_of_getElem? (i := 63) rfl, rfl⟩
  | 1, h =>
    cases (show some mm0_sign = some M' from h)
    exact List.mem_filter.mpr ⟨List.mem_of_getElem? (i := 264) rfl, rfl⟩
  | 2, h =>
    cases (show some mm0_read = some M' from h)
    exact List.mem_filter.mpr ⟨List.mem_of_getElem? (i := 545) rfl, rfl⟩
  | 3, h =>
    cases (show some mm0_wrong = some M' from h)
    exact List.mem_filter.mpr ⟨List.mem_of_getElem? (i := 268) rfl, rfl⟩
  | 4, h =>
    cases (show some mm0_word = some M' from h)
    exact List.mem_filter.mpr ⟨List.mem_of_getElem? (i := 272) rfl, rfl⟩
  | 5, h =>
    cases (show some mm0_clear = some M' from h)
    exact List.mem_filter.mpr ⟨List.mem_of_getElem? (i := 303) rfl, rfl⟩
  | 6, h =>
    cases (show some mm0_fits = some M' from h)
    exact List.mem_filter.mpr ⟨List.mem_of_getElem? (i := 311) rfl, rfl⟩
  | 7, h =>
    cases (show some mm0_derive = some M' from h)
    exact List.mem_filter.mpr ⟨List.mem_of_getElem? (i := 323) rfl, rfl⟩
  | 8, h =>
    cases (show some mm0_part = some M' from h)
    exact List.mem_filter.mpr ⟨List.mem_of_getElem? (i := 458) rfl, rfl⟩
  | 9, h =>
    cases (show some mm0_sum = some M' from h)
    exact List.mem_filter.mpr ⟨List.mem_of_getElem? (i := 466) rfl, rfl⟩
  | 10, h =>
    cases (show some mm0_furthest = some M' from h)
    exact List.mem_filter.mpr ⟨List.mem_of_getElem? (i := 471) rfl, rfl⟩
  | 11, h =>
    cases (show some mm0_print = some M' from h)
    exact List.mem_filter.mpr ⟨List.mem_of_getElem? (i := 475) rfl, rfl⟩
  | 12, h =>
    cases (show some mm0_at = some M' from h)
    exact List.mem_filter.mpr ⟨List.mem_of_getElem? (i := 537) rfl, rfl⟩
  | 13, h =>
    cases (show some mm0_isNoRank = some M' from h)
    exact List.mem_filter.mpr ⟨List.mem_of_getElem? (i := 326) rfl, rfl⟩
  | 14, h =>
    cases (show some mm0_readingOf = some M' from h)
    exact List.mem_filter.mpr ⟨List.mem_of_getElem? (i := 330) rfl, rfl⟩
  | 15, h =>
    cases (show some mm0_putPart = some M' from h)
    exact List.mem_filter.mpr ⟨List.mem_of_getElem? (i := 479) rfl, rfl⟩
  | 16, h =>
    cases (show some mm0_put = some M' from h)
    exact List.mem_filter.mpr ⟨List.mem_of_getElem? (i := 532) rfl, rfl⟩
  | 17, h =>
    cases (show some mm6_init = some M' from h)
    exact List.mem_filter.mpr ⟨List.mem_of_getElem? (i := 705) rfl, rfl⟩
  | 18, h =>
    cases (show some mm6_thrown = some M' from h)
    exact List.mem_filter.mpr ⟨List.mem_of_getElem? (i := 801) rfl, rfl⟩
  | 19, h =>
    cases (show some mm6_sign = some M' from h)
    exact List.mem_filter.mpr ⟨List.mem_of_getElem? (i := 805) rfl, rfl⟩
  | 20, h =>
    cases (show some mm6_letter = some M' from h)
    exact List.mem_filter.mpr ⟨List.mem_of_getElem? (i := 820) rfl, rfl⟩
  | 21, h =>
    cases (show some mm6_newKind = some M' from h)
    exact List.mem_filter.mpr ⟨List.mem_of_getElem? (i := 817) rfl, rfl⟩
  | 22, h =>
    cases (show some mm6_fault = some M' from h)
    exact List.mem_filter.mpr ⟨List.mem_of_getElem? (i := 813) rfl, rfl⟩
  | 23, h =>
    cases (show some mm6_read = some M' from h)
    exact List.mem_filter.mpr ⟨List.mem_of_getElem? (i := 809) rfl, rfl⟩
  | 24, h =>
    cases (show some mm6_wrong = some M' from h)
    exact List.mem_filter.mpr ⟨List.mem_of_getElem? (i := 824) rfl, rfl⟩
  | 25, h =>
    cases (show some mm6_word = some M' from h)
    exact List.mem_filter.mpr ⟨List.mem_of_getElem? (i := 828) rfl, rfl⟩
  | 26, h =>
    cases (show some mm6_clear = some M' from h)
    exact List.mem_filter.mpr ⟨List.mem_of_getElem? (i := 833) rfl, rfl⟩
  | 27, h =>
    cases (show some mm6_isFit = some M' from h)
    exact List.mem_filter.mpr ⟨List.mem_of_getElem? (i := 841) rfl, rfl⟩
  | 28, h =>
    cases (show some mm6_fits = some M' from h)
    exact List.mem_filter.mpr ⟨List.mem_of_getElem? (i := 837) rfl, rfl⟩
  | 29, h =>
    cases (show some mm6_alternative = some M' from h)
    exact List.mem_filter.mpr ⟨List.mem_of_getElem? (i := 861) rfl, rfl⟩
  | 30, h =>
    cases (show some mm6_can = some M' from h)
    exact List.mem_filter.mpr ⟨List.mem_of_getElem? (i := 857) rfl, rfl⟩
  | 31, h =>
    cases (show some mm6_goes = some M' from h)
    exact List.mem_filter.mpr ⟨List.mem_of_getElem? (i := 865) rfl, rfl⟩
  | 32, h =>
    cases (show some mm6_valueOf = some M' from h)
    exact List.mem_filter.mpr ⟨List.mem_of_getElem? (i := 877) rfl, rfl⟩
  | 33, h =>
    cases (show some mm6_extra = some M' from h)
    exact List.mem_filter.mpr ⟨List.mem_of_getElem? (i := 873) rfl, rfl⟩
  | 34, h =>
    cases (show some mm6_keep = some M' from h)
    exact List.mem_filter.mpr ⟨List.mem_of_getElem? (i := 869) rfl, rfl⟩
  | 35, h =>
    cases (show some mm6_look = some M' from h)
    exact List.mem_filter.mpr ⟨List.mem_of_getElem? (i := 853) rfl, rfl⟩
  | 36, h =>
    cases (show some mm6_isRank = some M' from h)
    exact List.mem_filter.mpr ⟨List.mem_of_getElem? (i := 849) rfl, rfl⟩
  | 37, h =>
    cases (show some mm6_there = some M' from h)
    exact List.mem_filter.mpr ⟨List.mem_of_getElem? (i := 881) rfl, rfl⟩
  | 38, h =>
    cases (show some mm6_derive = some M' from h)
    exact List.mem_filter.mpr ⟨List.mem_of_getElem? (i := 845) rfl, rfl⟩
  | 39, h =>
    cases (show some mm6_sum = some M' from h)
    exact List.mem_filter.mpr ⟨List.mem_of_getElem? (i := 885) rfl, rfl⟩
  | 40, h =>
    cases (show some mm6_again = some M' from h)
    exact List.mem_filter.mpr ⟨List.mem_of_getElem? (i := 895) rfl, rfl⟩
  | 41, h =>
    cases (show some mm6_part = some M' from h)
    exact List.mem_filter.mpr ⟨List.mem_of_getElem? (i := 891) rfl, rfl⟩
  | 42, h =>
    cases (show some mm6_takes = some M' from h)
    exact List.mem_filter.mpr ⟨List.mem_of_getElem? (i := 907) rfl, rfl⟩
  | 43, h =>
    cases (show some mm6_mayMiss = some M' from h)
    exact List.mem_filter.mpr ⟨List.mem_of_getElem? (i := 903) rfl, rfl⟩
  | 44, h =>
    cases (show some mm6_furthest = some M' from h)
    exact List.mem_filter.mpr ⟨List.mem_of_getElem? (i := 899) rfl, rfl⟩
  | 45, h =>
    cases (show some mm6_put = some M' from h)
    exact List.mem_filter.mpr ⟨List.mem_of_getElem? (i := 915) rfl, rfl⟩
  | 46, h =>
    cases (show some mm6_print = some M' from h)
    exact List.mem_filter.mpr ⟨List.mem_of_getElem? (i := 911) rfl, rfl⟩
  | 47, h =>
    cases (show some mm6_at = some M' from h)
    exact List.mem_filter.mpr ⟨List.mem_of_getElem? (i := 919) rfl, rfl⟩
  | 48, h =>
    cases (show some mm1_init = some M' from h)
    exact List.mem_filter.mpr ⟨List.mem_of_getElem? (i := 71) rfl, rfl⟩
  | 49, h =>
    cases (show some mm1_fill = some M' from h)
    exact List.mem_filter.mpr ⟨List.mem_of_getElem? (i := 549) rfl, rfl⟩
  | 50, h =>
    cases (show some mm1_empty = some M' from h)
    exact List.mem_filter.mpr ⟨List.mem_of_getElem? (i := 553) rfl, rfl⟩
  | 51, h =>
    cases (show some mm1_become = some M' from h)
    exact List.mem_filter.mpr ⟨List.mem_of_getElem? (i := 700) rfl, rfl⟩
  | 52, h =>
    cases (show some mm1_take = some M' from h)
    exact List.mem_filter.mpr ⟨List.mem_of_getElem? (i := 557) rfl, rfl⟩
  | 53, h =>
    cases (show some mm1_takeRowEnd = some M' from h)
    exact List.mem_filter.mpr ⟨List.mem_of_getElem? (i := 561) rfl, rfl⟩
  | 54, h =>
    cases (show some mm1_takeMark = some M' from h)
    exact List.mem_filter.mpr ⟨List.mem_of_getElem? (i := 565) rfl, rfl⟩
  | 55, h =>
    cases (show some mm1_takeDigit = some M' from h)
    exact List.mem_filter.mpr ⟨List.mem_of_getElem? (i := 569) rfl, rfl⟩
  | 56, h =>
    cases (show some mm1_takePart = some M' from h)
    exact List.mem_filter.mpr ⟨List.mem_of_getElem? (i := 631) rfl, rfl⟩
  | 57, h =>
    cases (show some mm1_kindOf = some M' from h)
    exact List.mem_filter.mpr ⟨List.mem_of_getElem? (i := 375) rfl, rfl⟩
  | 58, h =>
    cases (show some mm1_missingCost = some M' from h)
    exact List.mem_filter.mpr ⟨List.mem_of_getElem? (i := 358) rfl, rfl⟩
  | 59, h =>
    cases (show some mm1_endsRow = some M' from h)
    exact List.mem_filter.mpr ⟨List.mem_of_getElem? (i := 366) rfl, rfl⟩
  | 60, h =>
    cases (show some mm1_partOfKind = some M' from h)
    exact List.mem_filter.mpr ⟨List.mem_of_getElem? (i := 387) rfl, rfl⟩
  | 61, h =>
    cases (show some mm2_init = some M' from h)
    exact List.mem_filter.mpr ⟨List.mem_of_getElem? (i := 108) rfl, rfl⟩
  | 62, h =>
    cases (show some mm2_removeAll = some M' from h)
    exact List.mem_filter.mpr ⟨List.mem_of_getElem? (i := 307) rfl, rfl⟩
  | 63, h =>
    cases (show some mm2_placesIn = some M' from h)
    exact List.mem_filter.mpr ⟨List.mem_of_getElem? (i := 281) rfl, rfl⟩
  | 64, h =>
    cases (show some mm2_alternativesAt = some M' from h)
    exact List.mem_filter.mpr ⟨List.mem_of_getElem? (i := 293) rfl, rfl⟩
  | 65, h =>
    cases (show some mm2_isBehindNext = some M' from h)
    exact List.mem_filter.mpr ⟨List.mem_of_getElem? (i := 277) rfl, rfl⟩
  | 66, h =>
    cases (show some mm2_add = some M' from h)
    exact List.mem_filter.mpr ⟨List.mem_of_getElem? (i := 289) rfl, rfl⟩
  | 67, h =>
    cases (show some mm2_kindOf = some M' from h)
    exact List.mem_filter.mpr ⟨List.mem_of_getElem? (i := 396) rfl, rfl⟩
  | 68, h =>
    cases (show some mm2_valueOf = some M' from h)
    exact List.mem_filter.mpr ⟨List.mem_of_getElem? (i := 400) rfl, rfl⟩
  | 69, h =>
    cases (show some mm2_costOf = some M' from h)
    exact List.mem_filter.mpr ⟨List.mem_of_getElem? (i := 417) rfl, rfl⟩
  | 70, h =>
    cases (show some mm2_hasKind = some M' from h)
    exact List.mem_filter.mpr ⟨List.mem_of_getElem? (i := 379) rfl, rfl⟩
  | 71, h =>
    cases (show some mm2_slotOf = some M' from h)
    exact List.mem_filter.mpr ⟨List.mem_of_getElem? (i := 296) rfl, rfl⟩
  | 72, h =>
    cases (show some mm3_init = some M' from h)
    exact List.mem_filter.mpr ⟨List.mem_of_getElem? (i := 135) rfl, rfl⟩
  | 73, h =>
    cases (show some mm3_holds = some M' from h)
    exact List.mem_filter.mpr ⟨List.mem_of_getElem? (i := 319) rfl, rfl⟩
  | 74, h =>
    cases (show some mm3_add = some M' from h)
    exact List.mem_filter.mpr ⟨List.mem_of_getElem? (i := 315) rfl, rfl⟩
  | 75, h =>
    cases (show some mm5_init = some M' from h)
    exact List.mem_filter.mpr ⟨List.mem_of_getElem? (i := 160) rfl, rfl⟩
  | 76, h =>
    cases (show some mm5_drop = some M' from h)
    exact List.mem_filter.mpr ⟨List.mem_of_getElem? (i := 338) rfl, rfl⟩
  | 77, h =>
    cases (show some mm5_begin = some M' from h)
    exact List.mem_filter.mpr ⟨List.mem_of_getElem? (i := 438) rfl, rfl⟩
  | 78, h =>
    cases (show some mm5_choose = some M' from h)
    exact List.mem_filter.mpr ⟨List.mem_of_getElem? (i := 442) rfl, rfl⟩
  | 79, h =>
    cases (show some mm5_addPart = some M' from h)
    exact List.mem_filter.mpr ⟨List.mem_of_getElem? (i := 446) rfl, rfl⟩
  | 80, h =>
    cases (show some mm5_fact = some M' from h)
    exact List.mem_filter.mpr ⟨List.mem_of_getElem? (i := 462) rfl, rfl⟩
  | 81, h =>
    cases (show some mm5_isBefore = some M' from h)
    exact List.mem_filter.mpr ⟨List.mem_of_getElem? (i := 454) rfl, rfl⟩
  | 82, h =>
    cases (show some mm4_init = some M' from h)
    exact List.mem_filter.mpr ⟨List.mem_of_getElem? (i := 154) rfl, rfl⟩
  | 83, h =>
    cases (show some mm4_forget = some M' from h)
    exact List.mem_filter.mpr ⟨List.mem_of_getElem? (i := 285) rfl, rfl⟩
  | 84, h =>
    cases (show some mm4_find = some M' from h)
    exact List.mem_filter.mpr ⟨List.mem_of_getElem? (i := 334) rfl, rfl⟩
  | 85, h =>
    cases (show some mm4_stateOf = some M' from h)
    exact List.mem_filter.mpr ⟨List.mem_of_getElem? (i := 350) rfl, rfl⟩
  | 86, h =>
    cases (show some mm4_isReached = some M' from h)
    exact List.mem_filter.mpr ⟨List.mem_of_getElem? (i := 347) rfl, rfl⟩
  | 87, h =>
    cases (show some mm4_stateBehind = some M' from h)
    exact List.mem_filter.mpr ⟨List.mem_of_getElem? (i := 362) rfl, rfl⟩
  | 88, h =>
    cases (show some mm4_reachAll = some M' from h)
    exact List.mem_filter.mpr ⟨List.mem_of_getElem? (i := 342) rfl, rfl⟩
  | 89, h =>
    cases (show some mm4_reachFrom = some M' from h)
    exact List.mem_filter.mpr ⟨List.mem_of_getElem? (i := 354) rfl, rfl⟩
  | 90, h =>
    cases (show some mm4_reach = some M' from h)
    exact List.mem_filter.mpr ⟨List.mem_of_getElem? (i := 370) rfl, rfl⟩
  | 91, h =>
    cases (show some mm4_listPlaceValues = some M' from h)
    exact List.mem_filter.mpr ⟨List.mem_of_getElem? (i := 383) rfl, rfl⟩
  | 92, h =>
    cases (show some mm4_listPlaceValuesAt = some M' from h)
    exact List.mem_filter.mpr ⟨List.mem_of_getElem? (i := 391) rfl, rfl⟩
  | 93, h =>
    cases (show some mm4_listPlaceValue = some M' from h)
    exact List.mem_filter.mpr ⟨List.mem_of_getElem? (i := 404) rfl, rfl⟩
  | 94, h =>
    cases (show some mm4_assume = some M' from h)
    exact List.mem_filter.mpr ⟨List.mem_of_getElem? (i := 408) rfl, rfl⟩
  | 95, h =>
    cases (show some mm4_weigh = some M' from h)
    exact List.mem_filter.mpr ⟨List.mem_of_getElem? (i := 412) rfl, rfl⟩
  | 96, h =>
    cases (show some mm4_misfitCost = some M' from h)
    exact List.mem_filter.mpr ⟨List.mem_of_getElem? (i := 421) rfl, rfl⟩
  | 97, h =>
    cases (show some mm4_offer = some M' from h)
    exact List.mem_filter.mpr ⟨List.mem_of_getElem? (i := 426) rfl, rfl⟩
  | 98, h =>
    cases (show some mm4_keep = some M' from h)
    exact List.mem_filter.mpr ⟨List.mem_of_getElem? (i := 430) rfl, rfl⟩
  | 99, h =>
    cases (show some mm4_trace = some M' from h)
    exact List.mem_filter.mpr ⟨List.mem_of_getElem? (i := 434) rfl, rfl⟩
  | 100, h =>
    cases (show some mm4_admitCandidate = some M' from h)
    exact List.mem_filter.mpr ⟨List.mem_of_getElem? (i := 450) rfl, rfl⟩
  | 101, h =>
    cases (show some mj_length = some M' from h)
    exact List.mem_filter.mpr ⟨List.mem_of_getElem? (i := 484) rfl, rfl⟩
  | 102, h =>
    cases (show some mj_charAt = some M' from h)
    exact List.mem_filter.mpr ⟨List.mem_of_getElem? (i := 494) rfl, rfl⟩
  | 103, h =>
    cases (show some mj_indexOf = some M' from h)
    exact List.mem_filter.mpr ⟨List.mem_of_getElem? (i := 574) rfl, rfl⟩
  | j + 104, h => exact absurd (show none = some M' from h) (by simp)
def am_mck (j : Nat) : Bool := match am_at am_mt j, am_at am_mc j with
  | some M', some ci => match am_at classes ci with
    | some q => decide (q.1 = M'.1.cls)
    | none => true
  | _, _ => true
theorem am_Tmc0 : ∀ j, j < 104 → am_mck j = true := by decide +kernel
theorem am_Tmc2 : ∀ ci, ci < 7 → (am_at classes ci).isSome = true := by decide +kernel
theorem am_Tsh2 : am_sh.all (fun e => match e with | .inl _ => true | .inr ci => decide (ci < 7)) = true := by decide +kernel
theorem am_Tmc : ∀ (j : Nat) (M' : am_M) (ci c : Nat), am_at am_mt j = some M' → am_at am_mc j = some ci → am_at am_sh c = some (.inr ci) → ∃ q, am_at classes ci = some q ∧ q.1 = M'.1.cls := by
  intro j M' ci c hm hmc hsh
  have hci := am_Tall (P := fun e => (match e with | .inl _ => true | .inr ci => decide (ci < 7)) = true) (fun e he => List.all_eq_true.mp am_Tsh2 e he) hsh
  have hci : ci < 7 := by simpa using hci
  have h1 := am_Tmc2 ci hci
  cases hq : am_at classes ci with
  | none => rw [hq] at h1; simp at h1
  | some q =>
    refine ⟨q, rfl, ?_⟩
    have hj : j < 104 := by
      rw [am_at_eq] at hm
      have := (List.getElem?_eq_some_iff.mp hm).1
      have h2 : am_mt.length = 104 := by rfl
      omega
    have h3 := am_Tmc0 j hj
    simp only [am_mck, hm, hmc, hq, decide_eq_true_eq] at h3
    exact h3

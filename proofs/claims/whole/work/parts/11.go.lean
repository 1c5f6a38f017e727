section AmGo4
variable {l : Launch} {dC : Nat → ClassId} {dI : Nat → Nat → Nat} {tc : Nat → ClassId} {M : am_M} {d n0 n1 : Nat} {Q : Option am_V → am_H → Prop} {i : Nat} {lv : am_L} {st : List am_V} {σ : am_H}
def am_nx (M : am_M) (d n1 i : Nat) (lv : am_L) (st : List am_V) (σ : am_H) : am_O := match am_at M.2.2.2.2 i with
  | some e => am_step d n1 e lv st σ
  | none => none
theorem am_inj {a b : Prop} {x1 x2 : Nat} {y1 y2 : am_L} {z1 z2 : List am_V} {w1 w2 : am_H} (h : (some (a, x1, y1, z1, w1) : am_O) = some (b, x2, y2, z2, w2)) : a = b ∧ x1 = x2 ∧ y1 = y2 ∧ z1 = z2 ∧ w1 = w2 := by
  cases h
  exact ⟨rfl, rfl, rfl, rfl, rfl⟩
theorem am_cond {b : Bool} {X : am_O} {y : Prop × Nat × am_L × List am_V × am_H} (h : cond b X none = some y) : b = true ∧ X = some y := by
  cases b
  · cases h
  · exact ⟨rfl, h⟩
theorem am_and2 {a b c n : Nat} (h : (Nat.beq a b && Nat.blt c n) = true) : a = b ∧ c < n := by
  rw [Bool.and_eq_true] at h
  exact ⟨Nat.eq_of_beq_eq_true h.1, Nat.le_of_ble_eq_true h.2⟩
set_option maxHeartbeats 4000000 in
theorem am_go {sd : Prop} {i' : Nat} {lv' : am_L} {st' : List am_V} {σ' : am_H} (h : am_nx M d n1 i lv st σ = some (sd, i', lv', st', σ')) (hs : sd) (k : am_wp l dC dI tc M d n0 n1 Q i' lv' st' σ') : am_wp l dC dI tc M d n0 n1 Q i lv st σ := by
  unfold am_nx at h
  split at h
  · rename_i e0 he
    obtain ⟨pc, ins, nx, xs, kk⟩ := e0
    intro hok p e s m args below meth c ad0 A hB
    have ho := hok i _ he
    have hp : am_pcd M i = pc := by unfold am_pcd; rw [he]
    have k := k hok p e s m args below meth c ad0 A hB
    cases ins with
    | iconst q =>
      obtain ⟨rfl, rfl, rfl, rfl, rfl⟩ := am_inj (show am_step d n1 (pc, _, nx, xs, kk) lv st σ = _ from h)
      exact gk_iconst hs hB ho hp k
    | bipush q =>
      obtain ⟨rfl, rfl, rfl, rfl, rfl⟩ := am_inj (show am_step d n1 (pc, _, nx, xs, kk) lv st σ = _ from h)
      exact gk_bipush hs hB ho hp k
    | sipush q =>
      obtain ⟨rfl, rfl, rfl, rfl, rfl⟩ := am_inj (show am_step d n1 (pc, _, nx, xs, kk) lv st σ = _ from h)
      exact gk_sipush hs hB ho hp k
    | ldc2_w q =>
      obtain ⟨rfl, rfl, rfl, rfl, rfl⟩ := am_inj (show am_step d n1 (pc, _, nx, xs, kk) lv st σ = _ from h)
      exact gk_ldc2 hs hB ho hp k
    | lconst q =>
      obtain ⟨rfl, rfl, rfl, rfl, rfl⟩ := am_inj (show am_step d n1 (pc, _, nx, xs, kk) lv st σ = _ from h)
      exact gk_lconst hs hB ho hp k
    | iadd =>
      replace h : _ = _ := h
      simp only [am_step] at h
      split at h
      · obtain ⟨rfl, rfl, rfl, rfl, rfl⟩ := am_inj h
        exact gk_iadd hs hB ho hp k
      · cases h
    | isub =>
      replace h : _ = _ := h
      simp only [am_step] at h
      split at h
      · obtain ⟨rfl, rfl, rfl, rfl, rfl⟩ := am_inj h
        exact gk_isub hs hB ho hp k
      · cases h
    | imul =>
      replace h : _ = _ := h
      simp only [am_step] at h
      split at h
      · obtain ⟨rfl, rfl, rfl, rfl, rfl⟩ := am_inj h
        exact gk_imul hs hB ho hp k
      · cases h
    | idiv =>
      replace h : _ = _ := h
      simp only [am_step] at h
      split at h
      · obtain ⟨rfl, rfl, rfl, rfl, rfl⟩ := am_inj h
        exact gk_idiv hs hB ho hp k
      · cases h
    | irem =>
      replace h : _ = _ := h
      simp only [am_step] at h
      split at h
      · obtain ⟨rfl, rfl, rfl, rfl, rfl⟩ := am_inj h
        exact gk_irem hs hB ho hp k
      · cases h
    | iand =>
      replace h : _ = _ := h
      simp only [am_step] at h
      split at h
      · obtain ⟨rfl, rfl, rfl, rfl, rfl⟩ := am_inj h
        exact gk_iand  hB ho hp k
      · cases h
    | ior =>
      replace h : _ = _ := h
      simp only [am_step] at h
      split at h
      · obtain ⟨rfl, rfl, rfl, rfl, rfl⟩ := am_inj h
        exact gk_ior  hB ho hp k
      · cases h
    | ishl =>
      replace h : _ = _ := h
      simp only [am_step] at h
      split at h
      · obtain ⟨rfl, rfl, rfl, rfl, rfl⟩ := am_inj h
        exact gk_ishl  hB ho hp k
      · cases h
    | ishr =>
      replace h : _ = _ := h
      simp only [am_step] at h
      split at h
      · obtain ⟨rfl, rfl, rfl, rfl, rfl⟩ := am_inj h
        exact gk_ishr  hB ho hp k
      · cases h
    | lcmp =>
      replace h : _ = _ := h
      simp only [am_step] at h
      split at h
      · obtain ⟨rfl, rfl, rfl, rfl, rfl⟩ := am_inj h
        exact gk_lcmp  hB ho hp k
      · cases h
    | i2c =>
      replace h : _ = _ := h
      simp only [am_step] at h
      split at h
      · obtain ⟨rfl, rfl, rfl, rfl, rfl⟩ := am_inj h
        exact gk_i2c hs hB ho hp k
      · cases h
    | i2l =>
      replace h : _ = _ := h
      simp only [am_step] at h
      split at h
      · obtain ⟨rfl, rfl, rfl, rfl, rfl⟩ := am_inj h
        exact gk_i2l  hB ho hp k
      · cases h
    | l2i =>
      replace h : _ = _ := h
      simp only [am_step] at h
      split at h
      · obtain ⟨rfl, rfl, rfl, rfl, rfl⟩ := am_inj h
        exact gk_l2i hs hB ho hp k
      · cases h
    | dup2 =>
      replace h : _ = _ := h
      simp only [am_step] at h
      split at h
      · obtain ⟨rfl, rfl, rfl, rfl, rfl⟩ := am_inj h
        exact gk_dup2  hB ho hp k
      · cases h
    | ldc q =>
      simp only [am_step] at h
      split at h
      · obtain ⟨rfl, rfl, rfl, rfl, rfl⟩ := am_inj h
        exact gk_ldc hs hB ho hp k
      · obtain ⟨rfl, rfl, rfl, rfl, rfl⟩ := am_inj h
        exact gk_ldcs hB ho hp k
      · cases h
    | dup =>
      simp only [am_step] at h
      split at h
      · obtain ⟨rfl, rfl, rfl, rfl, rfl⟩ := am_inj h
        exact gk_dupi hB ho hp k
      · obtain ⟨rfl, rfl, rfl, rfl, rfl⟩ := am_inj h
        exact gk_dupa hB ho hp k
      · cases h
    | goto q =>
      simp only [am_step] at h
      split at h
      · obtain ⟨rfl, rfl, rfl, rfl, rfl⟩ := am_inj h
        exact gk_goto hB ho hp k
      · cases h
    | iload_n q =>
      simp only [am_step, am_ld] at h
      split at h
      · rename_i hg
        obtain ⟨rfl, rfl, rfl, rfl, rfl⟩ := am_inj (am_cond h).2
        exact gk_iloadn hg hB ho hp k
      · exact absurd (am_cond h).1 (by decide)
      · exact absurd (am_cond h).1 (by decide)
      · cases h
    | iload q =>
      simp only [am_step, am_ld] at h
      split at h
      · rename_i hg
        obtain ⟨rfl, rfl, rfl, rfl, rfl⟩ := am_inj (am_cond h).2
        exact gk_iload hg hB ho hp k
      · exact absurd (am_cond h).1 (by decide)
      · exact absurd (am_cond h).1 (by decide)
      · cases h
    | lload q =>
      simp only [am_step, am_ld] at h
      split at h
      · exact absurd (am_cond h).1 (by decide)
      · rename_i hg
        obtain ⟨rfl, rfl, rfl, rfl, rfl⟩ := am_inj (am_cond h).2
        exact gk_lload hg hB ho hp k
      · exact absurd (am_cond h).1 (by decide)
      · cases h
    | lload_n q =>
      simp only [am_step, am_ld] at h
      split at h
      · exact absurd (am_cond h).1 (by decide)
      · rename_i hg
        obtain ⟨rfl, rfl, rfl, rfl, rfl⟩ := am_inj (am_cond h).2
        exact gk_lloadn hg hB ho hp k
      · exact absurd (am_cond h).1 (by decide)
      · cases h
    | aload_n q =>
      simp only [am_step, am_ld] at h
      split at h
      · exact absurd (am_cond h).1 (by decide)
      · exact absurd (am_cond h).1 (by decide)
      · rename_i hg
        obtain ⟨rfl, rfl, rfl, rfl, rfl⟩ := am_inj (am_cond h).2
        exact gk_aloadn hg hB ho hp k
      · cases h
    | aload q =>
      simp only [am_step, am_ld] at h
      split at h
      · exact absurd (am_cond h).1 (by decide)
      · exact absurd (am_cond h).1 (by decide)
      · rename_i hg
        obtain ⟨rfl, rfl, rfl, rfl, rfl⟩ := am_inj (am_cond h).2
        exact gk_aload hg hB ho hp k
      · cases h
    | istore_n q =>
      simp only [am_step, am_st] at h
      split at h
      · have h := (am_cond h).2
        split at h
        · rename_i hg
          obtain ⟨rfl, rfl, rfl, rfl, rfl⟩ := am_inj h
          exact gk_istoren hg hB ho hp k
        · cases h
      · exact absurd (am_cond h).1 (by decide)
      · cases h
    | istore q =>
      simp only [am_step, am_st] at h
      split at h
      · have h := (am_cond h).2
        split at h
        · rename_i hg
          obtain ⟨rfl, rfl, rfl, rfl, rfl⟩ := am_inj h
          exact gk_istore hg hB ho hp k
        · cases h
      · exact absurd (am_cond h).1 (by decide)
      · cases h
    | astore_n q =>
      simp only [am_step, am_st] at h
      split at h
      · exact absurd (am_cond h).1 (by decide)
      · have h := (am_cond h).2
        split at h
        · rename_i hg
          obtain ⟨rfl, rfl, rfl, rfl, rfl⟩ := am_inj h
          exact gk_astoren hg hB ho hp k
        · cases h
      · cases h
    | astore q =>
      simp only [am_step, am_st] at h
      split at h
      · exact absurd (am_cond h).1 (by decide)
      · have h := (am_cond h).2
        split at h
        · rename_i hg
          obtain ⟨rfl, rfl, rfl, rfl, rfl⟩ := am_inj h
          exact gk_astore hg hB ho hp k
        · cases h
      · cases h
    | iinc q z =>
      simp only [am_step] at h
      split at h
      · rename_i hg0
        split at h
        · rename_i hg
          obtain ⟨rfl, rfl, rfl, rfl, rfl⟩ := am_inj h
          exact gk_iinc hs hg0 hg hB ho hp k
        · cases h
      · cases h
    | arraylength =>
      simp only [am_step] at h
      split at h
      · split at h
        · rename_i hsh
          obtain ⟨hc0, h2⟩ := am_cond h
          clear h
          obtain ⟨rfl, rfl, rfl, rfl, rfl⟩ := am_inj h2
          exact gk_alen (Nat.le_of_ble_eq_true hc0) hsh hB ho hp k
        · cases h
      · cases h
    | iaload =>
      obtain ⟨n, hh, gg, rf⟩ := σ
      simp only [am_step, am_ald] at h
      split at h
      · split at h
        · rename_i hsh
          obtain ⟨hc0, h2⟩ := am_cond h
          clear h
          obtain ⟨hc1, hc⟩ := am_and2 hc0
          subst hc1
          obtain ⟨rfl, rfl, rfl, rfl, rfl⟩ := am_inj h2
          exact gk_iald (σ := (n, hh, gg, rf)) hs hc hsh hB ho hp k
        · cases h
      · cases h
    | caload =>
      obtain ⟨n, hh, gg, rf⟩ := σ
      simp only [am_step, am_ald] at h
      split at h
      · split at h
        · rename_i hsh
          obtain ⟨hc0, h2⟩ := am_cond h
          clear h
          obtain ⟨hc1, hc⟩ := am_and2 hc0
          subst hc1
          obtain ⟨rfl, rfl, rfl, rfl, rfl⟩ := am_inj h2
          exact gk_cald (σ := (n, hh, gg, rf)) hs hc hsh hB ho hp k
        · cases h
      · cases h
    | baload =>
      obtain ⟨n, hh, gg, rf⟩ := σ
      simp only [am_step, am_ald] at h
      split at h
      · split at h
        · rename_i hsh
          obtain ⟨hc0, h2⟩ := am_cond h
          clear h
          obtain ⟨hc1, hc⟩ := am_and2 hc0
          subst hc1
          obtain ⟨rfl, rfl, rfl, rfl, rfl⟩ := am_inj h2
          exact gk_zald (σ := (n, hh, gg, rf)) hs hc hsh hB ho hp k
        · cases h
      · cases h
    | iastore =>
      obtain ⟨n, hh, gg, rf⟩ := σ
      simp only [am_step] at h
      split at h
      · split at h
        · rename_i hsh
          obtain ⟨hc0, h2⟩ := am_cond h
          clear h
          obtain ⟨hc1, hc⟩ := am_and2 hc0
          subst hc1
          obtain ⟨rfl, rfl, rfl, rfl, rfl⟩ := am_inj h2
          exact gk_iast (σ := (n, hh, gg, rf)) hs hc hsh hB ho hp k
        · cases h
      · cases h
    | castore =>
      obtain ⟨n, hh, gg, rf⟩ := σ
      simp only [am_step] at h
      split at h
      · split at h
        · rename_i hsh
          obtain ⟨hc0, h2⟩ := am_cond h
          clear h
          obtain ⟨hc1, hc⟩ := am_and2 hc0
          subst hc1
          obtain ⟨rfl, rfl, rfl, rfl, rfl⟩ := am_inj h2
          exact gk_cast (σ := (n, hh, gg, rf)) hs.1 hs.2 hc hsh hB ho hp k
        · cases h
      · cases h
    | bastore =>
      obtain ⟨n, hh, gg, rf⟩ := σ
      simp only [am_step] at h
      split at h
      · split at h
        · rename_i hsh
          obtain ⟨hc0, h2⟩ := am_cond h
          clear h
          obtain ⟨hc1, hc⟩ := am_and2 hc0
          subst hc1
          obtain ⟨rfl, rfl, rfl, rfl, rfl⟩ := am_inj h2
          exact gk_zast (σ := (n, hh, gg, rf)) hs.1 hs.2 hc hsh hB ho hp k
        · cases h
      · cases h
    | getfield q =>
      obtain ⟨n, hh, gg, rf⟩ := σ
      simp only [am_step] at h
      split at h
      · split at h
        · rename_i hx1 hx2
          cases hx2
          split at h
          · rename_i hsh hkd
            obtain ⟨hc0, h2⟩ := am_cond h
            clear h
            obtain ⟨hc1, hc⟩ := am_and2 hc0
            subst hc1
            rename_i kd
            by_cases hk1 : kd = 1
            · rw [show Nat.beq kd 1 = true by rw [hk1]; rfl] at h2
              obtain ⟨rfl, rfl, rfl, rfl, rfl⟩ := am_inj h2
              exact gk_geta (σ := (n, hh, gg, rf)) hc hsh hkd hk1 hB ho hp k
            · rw [show Nat.beq kd 1 = false from Bool.eq_false_iff.mpr (fun z => hk1 (Nat.eq_of_beq_eq_true z))] at h2
              obtain ⟨rfl, rfl, rfl, rfl, rfl⟩ := am_inj h2
              exact gk_geti (σ := (n, hh, gg, rf)) hc hsh hkd hk1 hB ho hp k
          · cases h
        · cases h
      · cases h
    | putfield q =>
      obtain ⟨n, hh, gg, rf⟩ := σ
      simp only [am_step] at h
      split at h
      · split at h
        · rename_i hx1 hx2
          cases hx2
          split at h
          · rename_i hsh hkd
            obtain ⟨hc0, h2⟩ := am_cond h
            clear h
            obtain ⟨hc1, hc⟩ := am_and2 hc0
            subst hc1
            obtain ⟨rfl, rfl, rfl, rfl, rfl⟩ := am_inj h2
            exact gk_puti (σ := (n, hh, gg, rf)) hc hsh hkd hB ho hp k
          · rename_i hsh hkd
            obtain ⟨hc0, h2⟩ := am_cond h
            clear h
            obtain ⟨hc1, hc⟩ := am_and2 hc0
            subst hc1
            obtain ⟨rfl, rfl, rfl, rfl, rfl⟩ := am_inj h2
            exact gk_putz (σ := (n, hh, gg, rf)) hs hc hsh hkd hB ho hp k
          · cases h
        · cases h
      · split at h
        · rename_i hx1 hx2
          cases hx2
          split at h
          · rename_i hsh hkd
            obtain ⟨hc0, h2⟩ := am_cond h
            clear h
            rw [Bool.and_eq_true] at hc0
            obtain ⟨hc0, hb⟩ := hc0
            obtain ⟨hc1, hc⟩ := am_and2 hc0
            subst hc1
            obtain ⟨rfl, rfl, rfl, rfl, rfl⟩ := am_inj h2
            exact gk_puta (σ := (n, hh, gg, rf)) hc (Nat.le_of_ble_eq_true hb) hsh hkd hB ho hp k
          · cases h
        · cases h
      · cases h
    | newarray q =>
      obtain ⟨n, hh, gg, rf⟩ := σ
      simp only [am_step] at h
      split at h
      · split at h
        · rename_i hx1 hx2
          cases hx2
          split at h
          · rename_i hsh
            obtain ⟨hc0, h2⟩ := am_cond h
            clear h
            have hc1 := Nat.eq_of_beq_eq_true hc0
            subst hc1
            obtain ⟨rfl, rfl, rfl, rfl, rfl⟩ := am_inj h2
            have hl := am_oke_lk ho
            simp only [am_lk] at hl
            split at hl
            · rename_i hz
              cases hz
              have hl := of_decide_eq_true hl
              subst hl
              exact gk_newa hs.1 hs.2 hsh rfl rfl (Or.inl rfl) hB ho hp k
            · rename_i hz
              cases hz
              have hl := of_decide_eq_true hl
              subst hl
              exact gk_newa hs.1 hs.2 hsh rfl rfl (Or.inr (Or.inl rfl)) hB ho hp k
            · rename_i hz
              cases hz
              have hl := of_decide_eq_true hl
              subst hl
              exact gk_newa hs.1 hs.2 hsh rfl rfl (Or.inr (Or.inr rfl)) hB ho hp k
            · cases hl
          · cases h
        · cases h
      · cases h
    | new q =>
      obtain ⟨n, hh, gg, rf⟩ := σ
      simp only [am_step] at h
      split at h
      · rename_i hx1 hx2
        cases hx2
        split at h
        · rename_i hsh
          obtain ⟨hc0, h2⟩ := am_cond h
          clear h
          have hc1 := Nat.eq_of_beq_eq_true hc0
          subst hc1
          obtain ⟨rfl, rfl, rfl, rfl, rfl⟩ := am_inj h2
          exact gk_new hs hsh hB ho hp k
        · cases h
      · cases h
    | invokespecial q =>
      simp only [am_step] at h
      split at h
      · obtain ⟨rfl, rfl, rfl, rfl, rfl⟩ := am_inj h
        exact gk_obj hs hB ho hp k
      · cases h
    | invokestatic q =>
      simp only [am_step] at h
      split at h
      · obtain ⟨rfl, rfl, rfl, rfl, rfl⟩ := am_inj h
        exact gk_max ⟨hs.1, hs.2.1⟩ hs.2.2 hB ho hp k
      · cases h
    | _ => exact absurd (show (none : am_O) = some (sd, i', lv', st', σ') from h) (fun z => by cases z)
  · cases h
def am_bx (M : am_M) (i : Nat) (st : List am_V) : Option (Prop × Nat × Nat × List am_V) := match am_at M.2.2.2.2 i with
  | some e => am_br e st
  | none => none
theorem am_injb {a b : Prop} {x1 x2 y1 y2 : Nat} {z1 z2 : List am_V} (h : (some (a, x1, y1, z1) : Option (Prop × Nat × Nat × List am_V)) = some (b, x2, y2, z2)) : a = b ∧ x1 = x2 ∧ y1 = y2 ∧ z1 = z2 := by
  cases h
  exact ⟨rfl, rfl, rfl, rfl⟩
set_option maxHeartbeats 4000000 in
theorem am_if {P : Prop} {t n : Nat} {r : List am_V} (h : am_bx M i st = some (P, t, n, r)) (kt : P → am_wp l dC dI tc M d n0 n1 Q t lv r σ) (kf : ¬ P → am_wp l dC dI tc M d n0 n1 Q n lv r σ) : am_wp l dC dI tc M d n0 n1 Q i lv st σ := by
  unfold am_bx at h
  split at h
  · rename_i e0 he
    obtain ⟨pc, ins, nx, xs, kk⟩ := e0
    intro hok p e s m args below meth c ad0 A hB
    have ho := hok i _ he
    have hp : am_pcd M i = pc := by unfold am_pcd; rw [he]
    have kt := fun z => kt z hok p e s m args below meth c ad0 A hB
    have kf := fun z => kf z hok p e s m args below meth c ad0 A hB
    simp only [am_br] at h
    split at h
    · split at h
      · split at h
        · obtain ⟨rfl, rfl, rfl, rfl⟩ := am_injb h
          exact gk_ifeq hB ho hp kt kf
        · cases h
      · split at h
        · obtain ⟨rfl, rfl, rfl, rfl⟩ := am_injb h
          exact gk_ifne hB ho hp kt kf
        · cases h
      · split at h
        · obtain ⟨rfl, rfl, rfl, rfl⟩ := am_injb h
          exact gk_iflt hB ho hp kt kf
        · cases h
      · split at h
        · obtain ⟨rfl, rfl, rfl, rfl⟩ := am_injb h
          exact gk_ifge hB ho hp kt kf
        · cases h
      · split at h
        · obtain ⟨rfl, rfl, rfl, rfl⟩ := am_injb h
          exact gk_ifgt hB ho hp kt kf
        · cases h
      · split at h
        · obtain ⟨rfl, rfl, rfl, rfl⟩ := am_injb h
          exact gk_ifle hB ho hp kt kf
        · cases h
      · split at h
        · obtain ⟨rfl, rfl, rfl, rfl⟩ := am_injb h
          exact gk_iceq hB ho hp kt kf
        · cases h
      · split at h
        · obtain ⟨rfl, rfl, rfl, rfl⟩ := am_injb h
          exact gk_icne hB ho hp kt kf
        · cases h
      · split at h
        · obtain ⟨rfl, rfl, rfl, rfl⟩ := am_injb h
          exact gk_iclt hB ho hp kt kf
        · cases h
      · split at h
        · obtain ⟨rfl, rfl, rfl, rfl⟩ := am_injb h
          exact gk_icge hB ho hp kt kf
        · cases h
      · split at h
        · obtain ⟨rfl, rfl, rfl, rfl⟩ := am_injb h
          exact gk_icgt hB ho hp kt kf
        · cases h
      · split at h
        · obtain ⟨rfl, rfl, rfl, rfl⟩ := am_injb h
          exact gk_icle hB ho hp kt kf
        · cases h
      · cases h
    · cases h
  · cases h
theorem am_iret {pc nx : Nat} {xs : List Nat} {kk : Int} {x : Int} (he : am_at M.2.2.2.2 i = some (pc, .ireturn, nx, xs, kk)) (hret : M.2.2.2.1 = some .int) (hn : σ.1 = n1) (hq : Q (some (.inl x)) σ) : am_wp l dC dI tc M d n0 n1 Q i lv [.inl x] σ := by
  intro hok p e s m args below meth c ad0 A hB
  exact gk_iret hret hn hq hB (hok i _ he) (by unfold am_pcd; rw [he])
theorem am_zret {pc nx : Nat} {xs : List Nat} {kk : Int} {x : Int} (he : am_at M.2.2.2.2 i = some (pc, .ireturn, nx, xs, kk)) (hret : M.2.2.2.1 = some .boolean) (hz : x = 0 ∨ x = 1) (hn : σ.1 = n1) (hq : Q (some (.inl x)) σ) : am_wp l dC dI tc M d n0 n1 Q i lv [.inl x] σ := by
  intro hok p e s m args below meth c ad0 A hB
  exact gk_zret hret hz hn hq hB (hok i _ he) (by unfold am_pcd; rw [he])
theorem am_lret {pc nx : Nat} {xs : List Nat} {kk : Int} {x : Int} (he : am_at M.2.2.2.2 i = some (pc, .lreturn, nx, xs, kk)) (hret : M.2.2.2.1 = some .long) (hn : σ.1 = n1) (hq : Q (some (.inr (.inl x))) σ) : am_wp l dC dI tc M d n0 n1 Q i lv [.inr (.inl x)] σ := by
  intro hok p e s m args below meth c ad0 A hB
  exact gk_lret hret hn hq hB (hok i _ he) (by unfold am_pcd; rw [he])
theorem am_vret {pc nx : Nat} {xs : List Nat} {kk : Int} {x : Int} (he : am_at M.2.2.2.2 i = some (pc, .return_, nx, xs, kk)) (hret : M.2.2.2.1 = none) (hn : σ.1 = n1) (hq : Q (none) σ) : am_wp l dC dI tc M d n0 n1 Q i lv [] σ := by
  intro hok p e s m args below meth c ad0 A hB
  exact gk_vret (x := x) hret hn hq hB (hok i _ he) (by unfold am_pcd; rw [he])
theorem am_aret {pc nx : Nat} {xs : List Nat} {kk : Int} {x : Nat} {cn : String} (he : am_at M.2.2.2.2 i = some (pc, .areturn, nx, xs, kk)) (hret : M.2.2.2.1 = some (.object cn)) (hn : σ.1 = n1) (hq : Q (some (.inr (.inr (some x)))) σ) : am_wp l dC dI tc M d n0 n1 Q i lv [.inr (.inr (some x))] σ := by
  intro hok p e s m args below meth c ad0 A hB
  exact gk_aret hret hn hq hB (hok i _ he) (by unfold am_pcd; rw [he])
end AmGo4

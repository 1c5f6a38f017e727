/-! clear, fits, word: side by side -/
section Wr
variable {F f : Nat → Nat → Int} {G g : Nat → Int → Int} {x z n k v w : Int}
/-- the lines with a word more -/
def zWd (f : Nat → Nat → Int) (g : Nat → Int → Int) (F : Nat → Nat → Int) (G : Nat → Int → Int) (x z n k v w : Int) : Prop :=
  (F 2 0 = f 2 0 ∧ F 18 0 = f 18 0 ∧ (∀ j, j = 4 ∨ j = 5 ∨ j = 19 → F 38 j = f 38 j) ∧ F 12 0 = (if x = f 12 0 then x + 1 else f 12 0) ∧ F 38 13 = F 12 0) ∧
  (∀ c j, (3 ≤ c ∧ c ≤ 5) ∨ (19 ≤ c ∧ c ≤ 21) ∨ (40 ≤ c ∧ c ≤ 42) ∨ c = 51 → G c j = g c j) ∧
  (∀ j, G 13 j = if j = x then (if z = g 13 x then z + 1 else g 13 x) else g 13 j) ∧ (∀ j, G 14 j = if j = x * 5 + z then n + 1 else g 14 j) ∧
  (∀ j, G 15 j = if j = (x * 5 + z) * 4 + n then k else g 15 j) ∧ (∀ j, G 16 j = if j = (x * 5 + z) * 4 + n then v else g 16 j) ∧ (∀ j, G 17 j = if j = (x * 5 + z) * 4 + n then w else g 17 j) ∧
  (∀ j, G 46 j = if j = x then (if z = g 13 x then z + 1 else g 13 x) else g 46 j) ∧ (∀ j, G 47 j = if j = 5 * x + z then n + 1 else g 47 j) ∧
  (∀ j, G 48 j = if j = 4 * (5 * x + z) + n then k else g 48 j) ∧ (∀ j, G 49 j = if j = 4 * (5 * x + z) + n then v else g 49 j) ∧ ∀ j, G 50 j = if j = 4 * (5 * x + z) + n then w else g 50 j
theorem zI_word (hI : zI f g) (h : zWd f g F G x z n k v w) (hx : 0 ≤ x ∧ x < 6) (hz : 0 ≤ z ∧ z < 5) (hn : n = g 14 (x * 5 + z)) (hn4 : n < 4) (hx2 : x ≤ f 12 0) (hz2 : z ≤ g 13 x) (hv : 0 ≤ v ∧ v ≤ 999) (hw : 0 ≤ w ∧ w ≤ 1000) : zI F G := by
  obtain ⟨i1, i2, i3, i4, i5, i6, i7⟩ := hI
  obtain ⟨⟨f2, f18, f38, f12, f13⟩, gs, g13, g14, g15, g16, g17, g46, g47, g48, g49, g50⟩ := h
  have i4x := i4 x hx.1 hx.2
  have i5x := i5 x z hx.1 hx.2 hz.1 hz.2
  refine ⟨by rw [f2]; exact i1, fun y y1 y2 => ?_, ?_, fun y y1 y2 => ?_, fun y z' y1 y2 z1 z2 => ?_, fun y z' i y1 y2 z1 z2 i1 i2 => ?_, by rw [f18]; exact i7⟩
  · rw [f2] at y2
    rw [gs 3 y (by decide), gs 4 y (by decide), gs 5 y (by decide)]
    exact i2 y y1 y2
  · rw [f12]
    split <;> omega
  · rw [g13, f12]
    have i4y := i4 y y1 y2
    by_cases c : y = x
    · rw [if_pos c]
      split <;> split <;> omega
    · rw [if_neg c]
      split <;> omega
  · rw [g13, g14]
    have i5y := i5 y z' y1 y2 z1 z2
    by_cases c : y = x
    · subst c
      rw [if_pos rfl]
      by_cases c2 : z' = z
      · subst c2
        rw [if_pos rfl]
        split <;> omega
      · rw [if_neg (by omega)]
        split <;> omega
    · rw [if_neg c, if_neg (by omega)]
      exact i5y
  · rw [g14] at i2
    rw [g16, g17]
    unfold zAlt
    by_cases c : y * 5 + z' = x * 5 + z
    · rw [if_pos c] at i2
      by_cases c2 : i = n
      · rw [if_pos (by omega), if_pos (by omega)]
        exact ⟨hv, hw⟩
      · rw [if_neg (by omega), if_neg (by omega)]
        have : y = x ∧ z' = z := by omega
        obtain ⟨rfl, rfl⟩ := this
        exact i6 y z' i y1 y2 z1 z2 i1 (by omega)
    · rw [if_neg c] at i2
      have i5y := i5 y z' y1 y2 z1 z2
      rw [if_neg (by omega), if_neg (by omega)]
      exact i6 y z' i y1 y2 z1 z2 i1 i2
theorem zD_word (hI : zI f g) (hD : zD f g) (h : zWd f g F G x z n k v w) (hx : 0 ≤ x ∧ x < 6) (hz : 0 ≤ z ∧ z < 5) (hn : n = g 14 (x * 5 + z)) (hn4 : n < 4) (hx2 : x ≤ f 12 0) (hz2 : z ≤ g 13 x) : zD F G := by
  obtain ⟨i1, i2, i3, i4, i5, i6, i7⟩ := hI
  obtain ⟨⟨f2, f18, f38, f12, f13⟩, gs, g13, g14, g15, g16, g17, g46, g47, g48, g49, g50⟩ := h
  have i4x := i4 x hx.1 hx.2
  have i5x := i5 x z hx.1 hx.2 hz.1 hz.2
  have hup : F 12 0 ≤ 6 := by rw [f12]; split <;> omega
  refine ⟨?_, ?_, ?_, ?_, f13, fun y y1 y2 => ?_, fun y z' y1 y2 z1 z2 => ?_, fun y z' i y1 y2 z1 z2 i1 i2 => ?_, ?_, ?_, ?_, ?_, ?_, ?_⟩
  · rw [f2, f38 5 (by decide)]
    exact hD.pn
  · intro y
    rw [f2, gs 3 y (by decide), gs 40 y (by decide)]
    exact hD.kd y
  · intro y
    rw [f2, gs 4 y (by decide), gs 42 y (by decide)]
    exact hD.ms y
  · intro y
    rw [f2, gs 5 y (by decide), gs 41 y (by decide), gs 41 _ (by decide)]
    exact hD.en y
  · rw [g46, g13]
    by_cases c : y = x
    · rw [if_pos c, if_pos c]
    · rw [if_neg c, if_neg c]
      rw [f12] at y2
      exact hD.pl y y1 (by split at y2 <;> omega)
  · rw [g47, g14]
    by_cases c : y = x ∧ z' = z
    · rw [if_pos (by omega), if_pos (by omega)]
    · rw [g13] at z2
      have z5 : z' < 5 := by
        have := (i4 y y1 (by omega)).1
        split at z2
        · split at z2 <;> omega
        · omega
      rw [if_neg (by omega), if_neg (by omega)]
      have hy2 : z' < g 13 y := by
        split at z2
        · rename_i u
          subst u
          split at z2 <;> omega
        · exact z2
      exact hD.na y z' y1 ((i4 y y1 (by omega)).2.mpr (by omega)) z1 hy2
  · rw [g14] at i2
    rw [g48, g49, g50, g15, g16, g17]
    rw [g13] at z2
    have z5 : z' < 5 := by
      have := (i4 y y1 (by omega)).1
      split at z2
      · split at z2 <;> omega
      · omega
    have i5y := i5 y z' y1 (by omega) z1 z5
    unfold zAlt
    by_cases c : y = x ∧ z' = z
    · obtain ⟨rfl, rfl⟩ := c
      rw [if_pos rfl] at i2
      by_cases c2 : i = n
      · subst c2
        simp only [if_pos]
        exact ⟨trivial, trivial, trivial⟩
      · rw [if_neg (by omega), if_neg (by omega), if_neg (by omega), if_neg (by omega), if_neg (by omega), if_neg (by omega)]
        have := hD.al y z' i y1 ((i4 y y1 (by omega)).2.mpr (by omega)) z1 (by omega) i1 (by omega)
        unfold zAlt at this
        exact this
    · rw [if_neg (by omega)] at i2
      rw [if_neg (by omega), if_neg (by omega), if_neg (by omega), if_neg (by omega), if_neg (by omega), if_neg (by omega)]
      have hy2 : z' < g 13 y := by omega
      have := hD.al y z' i y1 ((i4 y y1 (by omega)).2.mpr (by omega)) z1 hy2 i1 i2
      unfold zAlt at this
      exact this
  · rw [f18, f38 19 (by decide)]
    exact hD.tn
  · intro i
    rw [f18, gs 51 _ (by decide), gs 51 _ (by decide), gs 51 _ (by decide), gs 19 i (by decide), gs 20 i (by decide), gs 21 i (by decide)]
    exact hD.td i
  · rw [f2, gs 41 _ (by decide)]
    exact hD.r0
  · intro y
    rw [f2, gs 41 _ (by decide), gs 41 y (by decide)]
    exact hD.rs y
  · rw [f2, f38 4 (by decide), gs 41 _ (by decide)]
    exact hD.rn
  · intro i j
    rw [f2, gs 3 i (by decide), gs 3 j (by decide)]
    exact hD.di i j
end Wr
section Ops2
variable {l : Launch} {dC : Nat → ClassId} {dI : Nat → Nat → Nat} {tc : Nat → ClassId} {f : Nat → Nat → Int} {g : Nat → Int → Int} {a b c : Nat}
set_option maxRecDepth 100000 in
set_option maxHeartbeats 4000000 in
theorem cm_word_out (x k v w : Int) (hO : ((x < 0 ∨ 6 ≤ x) ∨ (k < 0 ∨ 9 ≤ k) ∨ (v < 0 ∨ 5000 ≤ v) ∨ w < 0 ∨ 1000 < w)) : am_Ct l dC dI tc mm6_word 0 58 [(.inr (.inr (some 38))), .inl x, .inl k, .inl v, .inr (.inl w)] (58, f, g, pr_r a b c) (fun r s => r = some (.inl (-12)) ∧ s = (58, am_u1 f 38 0 0, g, pr_r a b c)) := by
  have q1 := @am_cmp_lt w 0
  have q2 := @am_cmp_le w 1000
  refine am_enter ok_6_word rfl (by decide) (Nat.le_of_ble_eq_true rfl) rfl ?_
  iterate 3 (refine am_go rfl (by first | exact True.intro | omega | exact ⟨by decide, Nat.le_of_ble_eq_true rfl, Nat.le_of_ble_eq_true rfl⟩ | exact ⟨by decide, Nat.le_of_ble_eq_true rfl⟩) ?_)
  have out : ∀ lv, am_wp l dC dI tc mm6_word 0 58 58 (fun r s => r = some (.inl (-12)) ∧ s = (58, am_u1 f 38 0 0, g, pr_r a b c)) 26 lv [] (58, am_u1 f 38 0 0, g, pr_r a b c) := by
    intro lv
    (refine am_go rfl (by first | exact True.intro | omega | exact ⟨by decide, Nat.le_of_ble_eq_true rfl, Nat.le_of_ble_eq_true rfl⟩ | exact ⟨by decide, Nat.le_of_ble_eq_true rfl⟩) ?_)
    exact am_iret rfl rfl rfl ⟨rfl, rfl⟩
  repeat' first
    | (exact out _)
    | (refine am_go rfl (by first | exact True.intro | omega | exact ⟨by decide, Nat.le_of_ble_eq_true rfl, Nat.le_of_ble_eq_true rfl⟩ | exact ⟨by decide, Nat.le_of_ble_eq_true rfl⟩) ?_)
    | ((refine am_if rfl (fun c1 => ?_) (fun c1 => ?_)) <;> first | (exfalso; omega) | refine am_id ?_)
    | (refine am_iret rfl rfl rfl ?_)
    | (refine am_zret rfl rfl (by first | exact Or.inl rfl | exact Or.inr rfl) rfl ?_)
    | (refine am_lret rfl rfl rfl ?_)
    | (refine am_vret (x := 0) rfl rfl rfl ?_)
  all_goals omega
theorem zSim_dirty {F : Nat → Nat → Int} {G : Nat → Int → Int} (h : zSim f g a b c) (hI : zI F G) (hD : zD F G) (h1 : F 22 4 = 0) (h2 : F 38 21 = 0 ∨ (F 38 21 = f 38 21 ∧ F 38 22 = f 38 22 ∧ (∀ j, G 52 j = g 52 j) ∧ (∀ j, G 53 j = g 53 j) ∧ (G 55 0 = g 55 0 ∧ G 56 0 = g 56 0) ∧ zFrD F f G g)) (h3 : ∀ j, G 33 j = g 33 j) (h4 : F 0 1 = f 0 1 ∧ F 0 2 = f 0 2 ∧ F 0 9 = f 0 9 ∧ F 38 1 = f 38 1 ∧ F 38 3 = f 38 3 ∧ F 38 28 = f 38 28) (h5 : ∀ c j, c = 1 ∨ c = 37 ∨ c = 39 ∨ c = 57 → G c j = g c j) : zSim F G a b c := by
  obtain ⟨a1, a2, a3, a4, a5, a6⟩ := h4
  refine ⟨⟨⟨h.1.1.1, hI, fun j j1 j2 => ?_, Or.inl h1⟩, hD, ?_⟩, zTx_fr h.2.1 a1 a4 (fun j => h5 1 j (by decide)) (fun j => h5 39 j (by decide)), zPp_fr h.2.2.1 a3 a6 (fun j => h5 37 j (by decide)) (fun j => h5 57 j (by decide)), by rw [a2, a5]; exact h.2.2.2⟩
  · unfold zOk
    rw [h3, h3]
    exact h.1.1.2.2.1 j j1 j2
  · rcases h2 with h2 | ⟨b1, b2, b3, b4, b5, b6⟩
    · exact Or.inl h2
    · exact mSS_fr h.1.2.2 b6 b1 b2 b3 b4 b5
set_option maxRecDepth 100000 in
set_option maxHeartbeats 4000000 in
theorem op_word (x k v w : Int) (h : zSim f g a b c) : zPair l dC dI tc mm0_word mm6_word 2 0 [(.inr (.inr (some 0))), .inl x, .inl k, .inl v, .inr (.inl w)] [(.inr (.inr (some 38))), .inl x, .inl k, .inl v, .inr (.inl w)] (58, f, g, pr_r a b c) := by
  have hI := h.I
  have hD := h.D
  obtain ⟨i1, i2, i3, i4, i5, i6, i7⟩ := id hI
  have e13 := hD.ln
  refine ⟨_, ct_word x k v w hI, by rintro _ _ (⟨-, rfl, -⟩ | ⟨-, -, rfl, -⟩ | ⟨-, -, rfl, -⟩) <;> exact zRt_i (by decide) ⟨_, rfl⟩, ?_⟩
  by_cases hO : ((x < 0 ∨ 6 ≤ x) ∨ (k < 0 ∨ 9 ≤ k) ∨ (v < 0 ∨ 5000 ≤ v) ∨ w < 0 ∨ 1000 < w)
  · rintro r1 s1 (⟨_, rfl, rfl⟩ | ⟨u, _⟩ | ⟨u, _⟩)
    · refine ⟨_, cm_word_out x k v w hO, ?_⟩
      rintro r2 s2 ⟨rfl, rfl⟩
      exact ⟨rfl, _, _, a, b, c, rfl, zSim_0 h 0⟩
    · exact absurd hO u
    · exact absurd hO u
  · have hx : 0 ≤ x ∧ x < 6 := by omega
    obtain ⟨z, hzd⟩ : ∃ z, z = v / 1000 := ⟨_, rfl⟩
    have hz : 0 ≤ z ∧ z < 5 := by omega
    have i4x := i4 x hx.1 hx.2
    have i5x := i5 x z hx.1 hx.2 hz.1 hz.2
    have epl : zPl g x = g 13 x := if_pos hx
    rw [← hzd, epl]
    -- what the reference reads
    have read : ∀ (F : Nat → Nat → Int), F 38 13 = f 12 0 → (g 13 x = if x < F 38 13 then g 46 x else 0) ∧ (g 14 (x * 5 + z) = if z < g 13 x then g 47 (5 * x + z) else 0) := by
      intro F hF
      rw [hF]
      constructor
      · by_cases u : x < f 12 0
        · rw [if_pos u, hD.pl x hx.1 u]
        · rw [if_neg u]
          omega
      · by_cases u : z < g 13 x
        · rw [if_pos u, hD.na x z hx.1 (by omega) hz.1 u]
        · rw [if_neg u]
          omega
    rintro r1 s1 (⟨u, _⟩ | ⟨_, u, rfl, rfl⟩ | ⟨_, u, rfl, rfl⟩)
    · exact absurd u hO
    · obtain ⟨rd1, rd2⟩ := read f e13
      refine ⟨_, cm_word x k v w (g 13 x) (g 14 (x * 5 + z)) _ _ (by omega) rd1 (by rw [← hzd]; exact rd2) rfl rfl i4x.1 i5x.1, ?_⟩
      rw [← hzd]
      rintro r2 s2 (⟨u2, _⟩ | ⟨_, _, rfl, rfl⟩ | ⟨_, u2, _⟩ | ⟨_, u2, _⟩)
      · exact absurd u2 hO
      · exact ⟨rfl, _, _, a, b, c, rfl, zSim_0 h 0⟩
      · rw [e13] at u2
        exact absurd u u2
      · rw [e13] at u2
        exact absurd u u2
    · by_cases c4 : g 14 (x * 5 + z) = 4
      · rw [if_pos c4, if_pos c4]
        have e13' : am_u1 f 22 4 0 38 13 = f 12 0 := by rw [am_u1_c (by decide)]; exact e13
        obtain ⟨rd1, rd2⟩ := read _ e13'
        refine ⟨_, cm_word x k v w (g 13 x) (g 14 (x * 5 + z)) _ _ (by rw [e13']; exact i3) rd1 (by rw [← hzd]; exact rd2) rfl rfl i4x.1 i5x.1, ?_⟩
        rw [← hzd]
        rintro r2 s2 (⟨u2, _⟩ | ⟨_, u2, _⟩ | ⟨_, _, _, rfl, rfl⟩ | ⟨_, _, u2, _⟩)
        · exact absurd u2 hO
        · rw [e13'] at u2
          exact absurd u2 u
        · have hd : zFrD (am_u1 (am_u1 f 22 4 0) 38 0 0) f g g := ⟨fun c j hc => by unfold zDf at hc; rw [am_u1_ne (by omega), am_u1_ne (by omega)], fun _ _ _ => rfl⟩
          refine ⟨rfl, _, _, a, b, c, rfl, zSim_dirty h (hd.I hI) (hd.D hD) ?_ (Or.inr ⟨?_, ?_, fun _ => rfl, fun _ => rfl, ⟨rfl, rfl⟩, hd⟩) (fun _ => rfl) ⟨?_, ?_, ?_, ?_, ?_, ?_⟩ (fun _ _ _ => rfl)⟩
          · rw [am_u1_c (by decide), am_u1_s]
          all_goals rw [am_u1_ne (by decide), am_u1_ne (by decide)]
        · exact absurd c4 u2
      · rw [if_neg c4, if_neg c4]
        have hx2 : x ≤ f 12 0 := by omega
        have hz2 : z ≤ g 13 x := by omega
        have e12 : (am_u1 f 22 4 0) 12 0 = f 12 0 := am_u1_c (by decide)
        rw [e12]
        obtain ⟨F1, hF1⟩ : ∃ F1, F1 = am_u1 (am_u1 f 22 4 0) 12 0 (if f 12 0 < x + 1 then x + 1 else f 12 0) := ⟨_, rfl⟩
        obtain ⟨G1, hG1⟩ : ∃ G1, G1 = am_u3 (am_u3 (am_u3 (am_u3 (am_u3 g 15 ((x * 5 + z) * 4 + g 14 (x * 5 + z)) k) 16 ((x * 5 + z) * 4 + g 14 (x * 5 + z)) (v % 1000)) 17 ((x * 5 + z) * 4 + g 14 (x * 5 + z)) w) 13 x (if g 13 x < z + 1 then z + 1 else g 13 x)) 14 (x * 5 + z) (g 14 (x * 5 + z) + 1) := ⟨_, rfl⟩
        rw [← hF1, ← hG1]
        have F38 : ∀ j, F1 38 j = f 38 j := fun j => by rw [hF1, am_u1_c (by decide), am_u1_c (by decide)]
        have G4 : ∀ c j, c < 13 ∨ 17 < c → G1 c j = g c j := fun c j hc => by rw [hG1, am_u3_c (by omega), am_u3_c (by omega), am_u3_c (by omega), am_u3_c (by omega), am_u3_c (by omega)]
        have e13' : F1 38 13 = f 12 0 := by rw [F38]; exact e13
        obtain ⟨rd1, rd2⟩ := read F1 e13'
        refine ⟨_, cm_word x k v w (g 13 x) (g 14 (x * 5 + z)) (if x = f 12 0 then f 12 0 + 1 else f 12 0) (if z = g 13 x then g 13 x + 1 else g 13 x) (by rw [e13']; exact i3) (by rw [G4 46 x (by decide)]; exact rd1) (by rw [← hzd, G4 47 _ (by decide)]; exact rd2) (by rw [e13']) (by rw [← hzd]) i4x.1 i5x.1, ?_⟩
        rw [← hzd]
        rintro r2 s2 (⟨u2, _⟩ | ⟨_, u2, _⟩ | ⟨_, _, u2, _⟩ | ⟨_, _, _, rfl, rfl⟩)
        · exact absurd u2 hO
        · rw [e13'] at u2
          exact absurd u2 u
        · exact absurd u2 c4
        · have hwd : zWd f g (am_u1 (am_u1 (am_u1 F1 38 0 0) 38 13 (if x = f 12 0 then f 12 0 + 1 else f 12 0)) 38 21 0) (am_u3 (am_u3 (am_u3 (am_u3 (am_u3 G1 46 x (if z = g 13 x then g 13 x + 1 else g 13 x)) 48 (4 * (5 * x + z) + g 14 (x * 5 + z)) k) 49 (4 * (5 * x + z) + g 14 (x * 5 + z)) (v % 1000)) 50 (4 * (5 * x + z) + g 14 (x * 5 + z)) w) 47 (5 * x + z) (g 14 (x * 5 + z) + 1)) x z (g 14 (x * 5 + z)) k (v % 1000) w := by
            have hnl : (if x = f 12 0 then f 12 0 + 1 else f 12 0) = if x = f 12 0 then x + 1 else f 12 0 := by split <;> omega
            have hnl2 : (if f 12 0 < x + 1 then x + 1 else f 12 0) = if x = f 12 0 then x + 1 else f 12 0 := by split <;> split <;> omega
            have hnp : (if z = g 13 x then g 13 x + 1 else g 13 x) = if z = g 13 x then z + 1 else g 13 x := by split <;> omega
            have hnp2 : (if g 13 x < z + 1 then z + 1 else g 13 x) = if z = g 13 x then z + 1 else g 13 x := by split <;> split <;> omega
            rw [hnp]
            rw [hnl2] at hF1
            rw [hnp2] at hG1
            refine ⟨⟨?_, ?_, fun j hj => ?_, ?_, ?_⟩, fun c j hc => ?_, fun j => ?_, fun j => ?_, fun j => ?_, fun j => ?_, fun j => ?_, fun j => ?_, fun j => ?_, fun j => ?_, fun j => ?_, fun j => ?_⟩
            · rw [am_u1_c (by decide), am_u1_c (by decide), am_u1_c (by decide), hF1, am_u1_c (by decide), am_u1_c (by decide)]
            · rw [am_u1_c (by decide), am_u1_c (by decide), am_u1_c (by decide), hF1, am_u1_c (by decide), am_u1_c (by decide)]
            · rw [am_u1_j (by omega), am_u1_j (by omega), am_u1_j (by omega), F38]
            · rw [am_u1_c (by decide), am_u1_c (by decide), am_u1_c (by decide), hF1, am_u1_s]
            · rw [am_u1_j (by decide), am_u1_s, am_u1_c (by decide), am_u1_c (by decide), am_u1_c (by decide), hF1, am_u1_s, hnl]
            · rw [am_u3_c (by omega), am_u3_c (by omega), am_u3_c (by omega), am_u3_c (by omega), am_u3_c (by omega), G4 c j (by omega)]
            · rw [am_u3_c (by decide), am_u3_c (by decide), am_u3_c (by decide), am_u3_c (by decide), am_u3_c (by decide), hG1]
              unfold am_u3
              simp
            · rw [am_u3_c (by decide), am_u3_c (by decide), am_u3_c (by decide), am_u3_c (by decide), am_u3_c (by decide), hG1]
              unfold am_u3
              simp
            · rw [am_u3_c (by decide), am_u3_c (by decide), am_u3_c (by decide), am_u3_c (by decide), am_u3_c (by decide), hG1]
              unfold am_u3
              simp
            · rw [am_u3_c (by decide), am_u3_c (by decide), am_u3_c (by decide), am_u3_c (by decide), am_u3_c (by decide), hG1]
              unfold am_u3
              simp
            · rw [am_u3_c (by decide), am_u3_c (by decide), am_u3_c (by decide), am_u3_c (by decide), am_u3_c (by decide), hG1]
              unfold am_u3
              simp
            · rw [← G4 46 j (by decide)]
              unfold am_u3
              simp
            · rw [← G4 47 j (by decide)]
              unfold am_u3
              simp
            · rw [← G4 48 j (by decide)]
              unfold am_u3
              simp
            · rw [← G4 49 j (by decide)]
              unfold am_u3
              simp
            · rw [← G4 50 j (by decide)]
              unfold am_u3
              simp
          refine ⟨rfl, _, _, a, b, c, rfl, zSim_dirty h (zI_word hI hwd hx hz rfl (by omega) hx2 hz2 (by omega) (by omega)) (zD_word hI hD hwd hx hz rfl (by omega) hx2 hz2) ?_ (Or.inl am_u1_s) (fun j => ?_) ⟨?_, ?_, ?_, ?_, ?_, ?_⟩ (fun c j hc => ?_)⟩
          · rw [am_u1_c (by decide), am_u1_c (by decide), am_u1_c (by decide), hF1, am_u1_c (by decide), am_u1_s]
          · rw [am_u3_c (by decide), am_u3_c (by decide), am_u3_c (by decide), am_u3_c (by decide), am_u3_c (by decide), G4 33 j (by decide)]
          · rw [am_u1_c (by decide), am_u1_c (by decide), am_u1_c (by decide), hF1, am_u1_c (by decide), am_u1_c (by decide)]
          · rw [am_u1_c (by decide), am_u1_c (by decide), am_u1_c (by decide), hF1, am_u1_c (by decide), am_u1_c (by decide)]
          · rw [am_u1_c (by decide), am_u1_c (by decide), am_u1_c (by decide), hF1, am_u1_c (by decide), am_u1_c (by decide)]
          · rw [am_u1_j (by decide), am_u1_j (by decide), am_u1_j (by decide), F38]
          · rw [am_u1_j (by decide), am_u1_j (by decide), am_u1_j (by decide), F38]
          · rw [am_u1_j (by decide), am_u1_j (by decide), am_u1_j (by decide), F38]
          · rw [am_u3_c (by omega), am_u3_c (by omega), am_u3_c (by omega), am_u3_c (by omega), am_u3_c (by omega), G4 c j (by omega)]
end Ops2

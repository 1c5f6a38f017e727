/-! the reference keeps a reading -/
section Mod4
variable {l : Launch} {dC : Nat → ClassId} {dI : Nat → Nat → Nat} {tc : Nat → ClassId} {f : Nat → Nat → Int} {g : Nat → Int → Int} {a b c : Nat}
variable {cs : Nat → Int}
set_option maxRecDepth 100000 in
set_option maxHeartbeats 4000000 in
theorem wp_keep61 {Q : Option am_V → am_H → Prop} (sm : Int) (hN : 0 ≤ f 2 0 ∧ f 2 0 ≤ 9) (hp : f 38 5 = f 2 0) (h22 : 0 ≤ f 38 22 ∧ f 38 22 ≤ 2)
    (K : ∀ G, G 53 0 = sm → G 53 1 = g 53 0 → (∀ k : Nat, k < (f 2 0).toNat → G 52 k = g 54 k) → (∀ k : Nat, k < (f 2 0).toNat → G 52 (9 + k) = g 52 k) → (∀ x j, x ≠ 52 ∧ x ≠ 53 → G x j = g x j) → Q none (58, am_u1 f 38 22 (if f 38 22 < 2 then f 38 22 + 1 else 2), G, pr_r a b c)) : am_wp l dC dI tc mm6_keep 3 58 58 (Q) 61 [some (.inr (.inr (some 38))), some (.inl sm), some (.inl 0), none] [] (58, f, g, pr_r a b c) := by
  have loop : ∀ (n k : Nat) (G : Nat → Int → Int), k + n = 9 → G 53 1 = g 53 0 → (∀ j : Nat, j < k → G 52 (9 + j) = g 52 j) → (∀ j : Int, j < 9 → G 52 j = g 52 j) → (∀ x j, x ≠ 52 ∧ x ≠ 53 → G x j = g x j) → am_wp l dC dI tc mm6_keep 3 58 58 (Q) 71 [some (.inr (.inr (some 38))), some (.inl sm), some (.inl 0), some (.inl (k : Int))] [] (58, f, G, pr_r a b c) := by
    intro n
    induction n with
    | zero =>
      intro k G hk h1 h2 h3 h4
      iterate 2 (refine am_go rfl (by first | exact True.intro | omega | exact ⟨by decide, Nat.le_of_ble_eq_true rfl, Nat.le_of_ble_eq_true rfl⟩ | exact ⟨by decide, Nat.le_of_ble_eq_true rfl⟩) ?_)
      refine am_if rfl (fun c1 => ?_) (fun c1 => by omega)
      refine wp_keep86 sm 0 _ (Or.inl rfl) hN hp h22 (fun G' e1 e2 e3 => K G' e1 ?_ ?_ ?_ ?_)
      · rw [e3 53 1 (Or.inl (by decide)) (Or.inr (by decide))]
        exact h1
      · intro k hk
        have := e2 k hk
        rw [show (9 * 0 + (k : Int)) = k by omega] at this
        rw [this]
        exact h4 54 k (by decide)
      · intro k hk
        rw [e3 52 (9 + k) (Or.inr (Or.inr (by omega))) (Or.inl (by decide))]
        exact h2 k (by omega)
      · intro x j hx
        rw [e3 x j (Or.inl hx.1) (Or.inl hx.2)]
        exact h4 x j hx
    | succ n ih =>
      intro k G hk h1 h2 h3 h4
      iterate 2 (refine am_go rfl (by first | exact True.intro | omega | exact ⟨by decide, Nat.le_of_ble_eq_true rfl, Nat.le_of_ble_eq_true rfl⟩ | exact ⟨by decide, Nat.le_of_ble_eq_true rfl⟩) ?_)
      refine am_if rfl (fun c1 => by omega) (fun c1 => ?_)
      iterate 12 (refine am_go rfl (by first | exact True.intro | omega | exact ⟨by decide, Nat.le_of_ble_eq_true rfl, Nat.le_of_ble_eq_true rfl⟩ | exact ⟨by decide, Nat.le_of_ble_eq_true rfl⟩) ?_)
      refine ih (k + 1) _ (by omega) ?_ ?_ ?_ ?_
      · rw [am_u3_c (by decide)]
        exact h1
      · intro j hj
        by_cases u : j = k
        · rw [u, am_u3_s]
          exact h3 k (by omega)
        · rw [am_u3_j (by omega)]
          exact h2 j (by omega)
      · intro j hj
        rw [am_u3_j (by omega)]
        exact h3 j hj
      · intro x j hx
        rw [am_u3_c hx.1]
        exact h4 x j hx
  iterate 10 (refine am_go rfl (by first | exact True.intro | omega | exact ⟨by decide, Nat.le_of_ble_eq_true rfl, Nat.le_of_ble_eq_true rfl⟩ | exact ⟨by decide, Nat.le_of_ble_eq_true rfl⟩) ?_)
  refine loop 9 0 _ (by omega) am_u3_s (fun j hj => by omega) (fun j hj => am_u3_c (by decide)) (fun x j hx => am_u3_c hx.2)
theorem zCs_r {m : Int} {cs : Nat → Int} {N k : Nat} (h : k < N) : zCs (m, (List.range N).map cs) k = cs k := by
  unfold zCs
  simp [List.getD_eq_getElem?_getD, h]
theorem mRd_k {G g : Nat → Int → Int} {N : Nat} {e : Int × List Int} {r q : Int} (h : mRd g N r e) (h1 : G 53 q = g 53 r) (h2 : ∀ k : Nat, k < N → G 52 (9 * q + k) = g 52 (9 * r + k)) : mRd G N q e := ⟨by rw [h1, h.1], fun k hk => by rw [h2 k hk, h.2 k hk]⟩
theorem mRd_n {G g : Nat → Int → Int} {N : Nat} {sm q : Int} (h1 : G 53 q = sm) (hc : ∀ k : Nat, k < N → g 54 k = cs k) (h2 : ∀ k : Nat, k < N → G 52 (9 * q + k) = g 54 k) : mRd G N q (sm, (List.range N).map cs) := ⟨h1, fun k hk => by rw [h2 k hk, hc k hk, zCs_r hk]⟩
theorem zFrK_n {f : Nat → Nat → Int} {G g : Nat → Int → Int} (v : Int) (h : ∀ x j, x ≠ 52 ∧ x ≠ 53 → G x j = g x j) : zFrK (am_u1 f 38 22 v) f G g := ⟨fun x j hx => am_u1_ne hx, h⟩
set_option maxRecDepth 100000 in
set_option maxHeartbeats 4000000 in
theorem wp_keep40 {Q : Option am_V → am_H → Prop} (sm : Int) (o2 : Option am_V) {T : List (Int × List Int)} (hN : 0 ≤ f 2 0 ∧ f 2 0 ≤ 9) (hp : f 38 5 = f 2 0) (hc : ∀ k : Nat, k < (f 2 0).toNat → g 54 k = cs k) (hT : mHo f g (f 2 0).toNat T) (ho : zo2 T)
    (K : ∀ F G, zFrK F f G g → mHo F G (f 2 0).toNat (zi2 T (sm, (List.range (f 2 0).toNat).map cs)) → Q none (58, F, G, pr_r a b c)) : am_wp l dC dI tc mm6_keep 3 58 58 Q 40 [some (.inr (.inr (some 38))), some (.inl sm), o2, none] [] (58, f, g, pr_r a b c) := by
  match T, hT, ho with
  | [], hT, _ =>
    have hT : f 38 22 = 0 := hT
    iterate 4 (refine am_go rfl (by first | exact True.intro | omega | exact ⟨by decide, Nat.le_of_ble_eq_true rfl, Nat.le_of_ble_eq_true rfl⟩ | exact ⟨by decide, Nat.le_of_ble_eq_true rfl⟩) ?_)
    refine am_if rfl (fun c1 => ?_) (fun c1 => by omega)
    iterate 2 (refine am_go rfl (by first | exact True.intro | omega | exact ⟨by decide, Nat.le_of_ble_eq_true rfl, Nat.le_of_ble_eq_true rfl⟩ | exact ⟨by decide, Nat.le_of_ble_eq_true rfl⟩) ?_)
    refine am_if rfl (fun c1 => ?_) (fun c1 => by omega)
    (refine am_go rfl (by first | exact True.intro | omega | exact ⟨by decide, Nat.le_of_ble_eq_true rfl, Nat.le_of_ble_eq_true rfl⟩ | exact ⟨by decide, Nat.le_of_ble_eq_true rfl⟩) ?_)
    refine am_if rfl (fun c1 => by omega) (fun c1 => ?_)
    rw [hT]
    refine wp_keep61 sm hN hp (by omega) (fun G e1 e2 e3 e4 e5 => K _ G (zFrK_n _ e5) ?_)
    exact ⟨by rw [am_u1_s, if_pos (by omega)]; omega, mRd_n e1 hc (fun k hk => by rw [show 9 * 0 + (k : Int) = k by omega]; exact e3 k hk)⟩
  | [x], hT, _ =>
    obtain ⟨h1, h2⟩ : f 38 22 = 1 ∧ mRd g (f 2 0).toNat 0 x := hT
    have hs := h2.1
    iterate 4 (refine am_go rfl (by first | exact True.intro | omega | exact ⟨by decide, Nat.le_of_ble_eq_true rfl, Nat.le_of_ble_eq_true rfl⟩ | exact ⟨by decide, Nat.le_of_ble_eq_true rfl⟩) ?_)
    refine am_if rfl (fun c1 => by omega) (fun c1 => ?_)
    iterate 7 (refine am_go rfl (by first | exact True.intro | omega | exact ⟨by decide, Nat.le_of_ble_eq_true rfl, Nat.le_of_ble_eq_true rfl⟩ | exact ⟨by decide, Nat.le_of_ble_eq_true rfl⟩) ?_)
    rw [show f 38 22 - 1 = 0 by omega, hs]
    refine am_if rfl (fun c2 => ?_) (fun c2 => ?_)
    · iterate 2 (refine am_go rfl (by first | exact True.intro | omega | exact ⟨by decide, Nat.le_of_ble_eq_true rfl, Nat.le_of_ble_eq_true rfl⟩ | exact ⟨by decide, Nat.le_of_ble_eq_true rfl⟩) ?_)
      refine am_if rfl (fun c1 => ?_) (fun c1 => by omega)
      (refine am_go rfl (by first | exact True.intro | omega | exact ⟨by decide, Nat.le_of_ble_eq_true rfl, Nat.le_of_ble_eq_true rfl⟩ | exact ⟨by decide, Nat.le_of_ble_eq_true rfl⟩) ?_)
      refine am_if rfl (fun c1 => ?_) (fun c1 => by omega)
      rw [h1]
      refine wp_keep86 sm 1 _ (Or.inr rfl) hN hp (by omega) (fun G e1 e2 e3 => K _ G (zFrK_n _ (fun x j hx => e3 x j (Or.inl hx.1) (Or.inl hx.2))) ?_)
      simp only [zi2]
      rw [if_neg (show ¬ sm < x.1 by omega)]
      refine ⟨by rw [am_u1_s, if_pos (by omega)]; omega, mRd_k h2 (e3 53 0 (Or.inl (by decide)) (Or.inr (by decide))) (fun k hk => e3 52 _ (Or.inr (Or.inl (by omega))) (Or.inl (by decide))), mRd_n e1 hc e2⟩
    · iterate 3 (refine am_go rfl (by first | exact True.intro | omega | exact ⟨by decide, Nat.le_of_ble_eq_true rfl, Nat.le_of_ble_eq_true rfl⟩ | exact ⟨by decide, Nat.le_of_ble_eq_true rfl⟩) ?_)
      rw [show f 38 22 + -1 = 0 by omega]
      refine am_if rfl (fun c1 => ?_) (fun c1 => by omega)
      iterate 2 (refine am_go rfl (by first | exact True.intro | omega | exact ⟨by decide, Nat.le_of_ble_eq_true rfl, Nat.le_of_ble_eq_true rfl⟩ | exact ⟨by decide, Nat.le_of_ble_eq_true rfl⟩) ?_)
      refine am_if rfl (fun c1 => ?_) (fun c1 => by omega)
      (refine am_go rfl (by first | exact True.intro | omega | exact ⟨by decide, Nat.le_of_ble_eq_true rfl, Nat.le_of_ble_eq_true rfl⟩ | exact ⟨by decide, Nat.le_of_ble_eq_true rfl⟩) ?_)
      refine am_if rfl (fun c1 => by omega) (fun c1 => ?_)
      refine wp_keep61 sm hN hp (by omega) (fun G e1 e2 e3 e4 e5 => K _ G (zFrK_n _ e5) ?_)
      simp only [zi2]
      rw [if_pos (show sm < x.1 by omega)]
      refine ⟨by rw [am_u1_s, if_pos (by omega)]; omega, mRd_n e1 hc (fun k hk => by rw [show 9 * 0 + (k : Int) = k by omega]; exact e3 k hk), mRd_k h2 e2 (fun k hk => ?_)⟩
      rw [show 9 * 1 + (k : Int) = 9 + k by omega, show 9 * 0 + (k : Int) = k by omega]
      exact e4 k hk
  | [x, y], hT, ho =>
    obtain ⟨h1, h2, h3⟩ : f 38 22 = 2 ∧ mRd g (f 2 0).toNat 0 x ∧ mRd g (f 2 0).toNat 1 y := hT
    have ho : x.1 ≤ y.1 := ho
    have hs := h2.1
    have hs3 := h3.1
    iterate 4 (refine am_go rfl (by first | exact True.intro | omega | exact ⟨by decide, Nat.le_of_ble_eq_true rfl, Nat.le_of_ble_eq_true rfl⟩ | exact ⟨by decide, Nat.le_of_ble_eq_true rfl⟩) ?_)
    refine am_if rfl (fun c1 => by omega) (fun c1 => ?_)
    iterate 7 (refine am_go rfl (by first | exact True.intro | omega | exact ⟨by decide, Nat.le_of_ble_eq_true rfl, Nat.le_of_ble_eq_true rfl⟩ | exact ⟨by decide, Nat.le_of_ble_eq_true rfl⟩) ?_)
    rw [show f 38 22 - 1 = 1 by omega, hs3]
    refine am_if rfl (fun c2 => ?_) (fun c2 => ?_)
    · iterate 2 (refine am_go rfl (by first | exact True.intro | omega | exact ⟨by decide, Nat.le_of_ble_eq_true rfl, Nat.le_of_ble_eq_true rfl⟩ | exact ⟨by decide, Nat.le_of_ble_eq_true rfl⟩) ?_)
      refine am_if rfl (fun c1 => by omega) (fun c1 => ?_)
      refine am_vret (x := 0) rfl rfl rfl (K f g ⟨fun _ _ _ => rfl, fun _ _ _ => rfl⟩ ?_)
      simp only [zi2]
      rw [if_neg (show ¬ sm < x.1 by omega), if_neg (show ¬ sm < y.1 by omega)]
      exact ⟨h1, h2, h3⟩
    · iterate 3 (refine am_go rfl (by first | exact True.intro | omega | exact ⟨by decide, Nat.le_of_ble_eq_true rfl, Nat.le_of_ble_eq_true rfl⟩ | exact ⟨by decide, Nat.le_of_ble_eq_true rfl⟩) ?_)
      rw [show f 38 22 + -1 = 1 by omega]
      refine am_if rfl (fun c1 => by omega) (fun c1 => ?_)
      iterate 7 (refine am_go rfl (by first | exact True.intro | omega | exact ⟨by decide, Nat.le_of_ble_eq_true rfl, Nat.le_of_ble_eq_true rfl⟩ | exact ⟨by decide, Nat.le_of_ble_eq_true rfl⟩) ?_)
      rw [show (1 : Int) - 1 = 0 by omega, hs]
      refine am_if rfl (fun c3 => ?_) (fun c3 => ?_)
      · iterate 2 (refine am_go rfl (by first | exact True.intro | omega | exact ⟨by decide, Nat.le_of_ble_eq_true rfl, Nat.le_of_ble_eq_true rfl⟩ | exact ⟨by decide, Nat.le_of_ble_eq_true rfl⟩) ?_)
        refine am_if rfl (fun c1 => ?_) (fun c1 => by omega)
        (refine am_go rfl (by first | exact True.intro | omega | exact ⟨by decide, Nat.le_of_ble_eq_true rfl, Nat.le_of_ble_eq_true rfl⟩ | exact ⟨by decide, Nat.le_of_ble_eq_true rfl⟩) ?_)
        refine am_if rfl (fun c1 => ?_) (fun c1 => by omega)
        refine wp_keep86 sm 1 _ (Or.inr rfl) hN hp (by omega) (fun G e1 e2 e3 => K _ G (zFrK_n _ (fun x j hx => e3 x j (Or.inl hx.1) (Or.inl hx.2))) ?_)
        simp only [zi2]
        rw [if_neg (show ¬ sm < x.1 by omega), if_pos (show sm < y.1 by omega)]
        refine ⟨by rw [am_u1_s, if_neg (by omega)], mRd_k h2 (e3 53 0 (Or.inl (by decide)) (Or.inr (by decide))) (fun k hk => e3 52 _ (Or.inr (Or.inl (by omega))) (Or.inl (by decide))), mRd_n e1 hc e2⟩
      · iterate 3 (refine am_go rfl (by first | exact True.intro | omega | exact ⟨by decide, Nat.le_of_ble_eq_true rfl, Nat.le_of_ble_eq_true rfl⟩ | exact ⟨by decide, Nat.le_of_ble_eq_true rfl⟩) ?_)
        rw [show (1 : Int) + -1 = 0 by omega]
        refine am_if rfl (fun c1 => ?_) (fun c1 => by omega)
        iterate 2 (refine am_go rfl (by first | exact True.intro | omega | exact ⟨by decide, Nat.le_of_ble_eq_true rfl, Nat.le_of_ble_eq_true rfl⟩ | exact ⟨by decide, Nat.le_of_ble_eq_true rfl⟩) ?_)
        refine am_if rfl (fun c1 => ?_) (fun c1 => by omega)
        (refine am_go rfl (by first | exact True.intro | omega | exact ⟨by decide, Nat.le_of_ble_eq_true rfl, Nat.le_of_ble_eq_true rfl⟩ | exact ⟨by decide, Nat.le_of_ble_eq_true rfl⟩) ?_)
        refine am_if rfl (fun c1 => by omega) (fun c1 => ?_)
        refine wp_keep61 sm hN hp (by omega) (fun G e1 e2 e3 e4 e5 => K _ G (zFrK_n _ e5) ?_)
        simp only [zi2]
        rw [if_pos (show sm < x.1 by omega)]
        refine ⟨by rw [am_u1_s, if_neg (by omega)], mRd_n e1 hc (fun k hk => by rw [show 9 * 0 + (k : Int) = k by omega]; exact e3 k hk), mRd_k h2 e2 (fun k hk => ?_)⟩
        rw [show 9 * 1 + (k : Int) = 9 + k by omega, show 9 * 0 + (k : Int) = k by omega]
        exact e4 k hk
set_option maxRecDepth 100000 in
set_option maxHeartbeats 4000000 in
theorem cm_keeps {T : List (Int × List Int)} (hI : zI f g) (hD : zD f g) (hC : zCh g cs (f 2 0).toNat) (hV : ∀ j : Nat, j < (f 2 0).toNat → zVl f g cs j) (hT : mHo f g (f 2 0).toNat T) (ho : zo2 T) : am_Ct l dC dI tc mm6_keep 3 58 [(.inr (.inr (some 38)))] (58, f, g, pr_r a b c) (fun r s => r = none ∧ ∃ F G, s = (58, F, G, pr_r a b c) ∧ zFrK F f G g ∧ mHo F G (f 2 0).toNat (zi2 T (zTt f g cs (f 2 0).toNat, (List.range (f 2 0).toNat).map cs))) := by
  have i1 := hI.1
  have e1 := hD.pn
  have ex2 := zEx_r f g cs (f 2 0).toNat 2
  have ex6 := zEx_r f g cs (f 2 0).toNat 6
  refine am_enter ok_6_keep rfl (by decide) (Nat.le_of_ble_eq_true rfl) rfl ?_
  have loop : ∀ (n k : Nat) (sm : Int), k + n = (f 2 0).toNat → sm = zSm g cs (zEx f g cs (f 2 0).toNat 2 + zEx f g cs (f 2 0).toNat 6) k → am_wp l dC dI tc mm6_keep 3 58 58 (fun r s => r = none ∧ ∃ F G, s = (58, F, G, pr_r a b c) ∧ zFrK F f G g ∧ mHo F G (f 2 0).toNat (zi2 T (zTt f g cs (f 2 0).toNat, (List.range (f 2 0).toNat).map cs))) 10 [some (.inr (.inr (some 38))), some (.inl sm), some (.inl (k : Int)), none] [] (58, f, g, pr_r a b c) := by
    intro n
    induction n with
    | zero =>
      intro k sm hk hv
      iterate 3 (refine am_go rfl (by first | exact True.intro | omega | exact ⟨by decide, Nat.le_of_ble_eq_true rfl, Nat.le_of_ble_eq_true rfl⟩ | exact ⟨by decide, Nat.le_of_ble_eq_true rfl⟩) ?_)
      refine am_if rfl (fun c1 => ?_) (fun c1 => by omega)
      refine wp_keep40 sm _ i1 e1 (fun k hk => (hC k hk).1) hT ho (fun F G h1 h2 => ⟨rfl, F, G, rfl, h1, ?_⟩)
      rw [hv, show k = (f 2 0).toNat by omega] at h2
      exact h2
    | succ n ih =>
      intro k sm hk hv
      have e2 := hD.ms k (by omega) (by omega)
      obtain ⟨h1, h2, h3⟩ := hC k (by omega)
      have hv1 := hV k (by omega)
      have hr := zSm_r hI hD (a := zEx f g cs (f 2 0).toNat 2 + zEx f g cs (f 2 0).toNat 6) (by omega) k (by omega) (fun j hj => hV j (by omega))
      have hco := zCo_r hI hD (by omega) hv1
      have hsum : zSm g cs (zEx f g cs (f 2 0).toNat 2 + zEx f g cs (f 2 0).toNat 6) (k + 1) = sm + zCo g cs k := by rw [hv]; rfl
      iterate 3 (refine am_go rfl (by first | exact True.intro | omega | exact ⟨by decide, Nat.le_of_ble_eq_true rfl, Nat.le_of_ble_eq_true rfl⟩ | exact ⟨by decide, Nat.le_of_ble_eq_true rfl⟩) ?_)
      refine am_if rfl (fun c1 => by omega) (fun c1 => ?_)
      iterate 6 (refine am_go rfl (by first | exact True.intro | omega | exact ⟨by decide, Nat.le_of_ble_eq_true rfl, Nat.le_of_ble_eq_true rfl⟩ | exact ⟨by decide, Nat.le_of_ble_eq_true rfl⟩) ?_)
      rw [h1]
      refine am_if rfl (fun c2 => ?_) (fun c2 => ?_)
      · have hz := zVl_at hI hD hv1 c2
        have hc1 := hv1.1
        have hy1 := hv1.2.1
        have hz1 := hv1.2.2.1
        have hcoe : zCo g cs k = g 17 (zAlt (zPa g cs k).1 (zPa g cs k).2.1 (cs k)) := if_neg c2
        rw [hcoe] at hsum hco
        iterate 8 (refine am_go rfl (by first | exact True.intro | omega | exact ⟨by decide, Nat.le_of_ble_eq_true rfl, Nat.le_of_ble_eq_true rfl⟩ | exact ⟨by decide, Nat.le_of_ble_eq_true rfl⟩) ?_)
        rw [h1]
        (refine am_callv rfl (cm_alternative k (cs k) (by omega) (by omega) (by omega) (by omega)) (by decide) (Nat.le_of_ble_eq_true rfl) (Nat.le_of_ble_eq_true rfl) ?_)
        rw [h2, h3]
        (refine am_go rfl (by first | exact True.intro | omega | exact ⟨by decide, Nat.le_of_ble_eq_true rfl, Nat.le_of_ble_eq_true rfl⟩ | exact ⟨by decide, Nat.le_of_ble_eq_true rfl⟩) ?_)
        rw [hz.2.2.2.1.2]
        iterate 4 (refine am_go rfl (by first | exact True.intro | omega | exact ⟨by decide, Nat.le_of_ble_eq_true rfl, Nat.le_of_ble_eq_true rfl⟩ | exact ⟨by decide, Nat.le_of_ble_eq_true rfl⟩) ?_)
        exact ih (k + 1) _ (by omega) hsum.symm
      · have hcoe : zCo g cs k = g 4 k := if_pos (by omega)
        rw [hcoe] at hsum hco
        iterate 4 (refine am_go rfl (by first | exact True.intro | omega | exact ⟨by decide, Nat.le_of_ble_eq_true rfl, Nat.le_of_ble_eq_true rfl⟩ | exact ⟨by decide, Nat.le_of_ble_eq_true rfl⟩) ?_)
        rw [e2]
        iterate 5 (refine am_go rfl (by first | exact True.intro | omega | exact ⟨by decide, Nat.le_of_ble_eq_true rfl, Nat.le_of_ble_eq_true rfl⟩ | exact ⟨by decide, Nat.le_of_ble_eq_true rfl⟩) ?_)
        exact ih (k + 1) _ (by omega) hsum.symm
  iterate 2 (refine am_go rfl (by first | exact True.intro | omega | exact ⟨by decide, Nat.le_of_ble_eq_true rfl, Nat.le_of_ble_eq_true rfl⟩ | exact ⟨by decide, Nat.le_of_ble_eq_true rfl⟩) ?_)
  (refine am_callv rfl (cm_extra 2 hI hD hC hV) (by decide) (Nat.le_of_ble_eq_true rfl) (Nat.le_of_ble_eq_true rfl) ?_)
  iterate 2 (refine am_go rfl (by first | exact True.intro | omega | exact ⟨by decide, Nat.le_of_ble_eq_true rfl, Nat.le_of_ble_eq_true rfl⟩ | exact ⟨by decide, Nat.le_of_ble_eq_true rfl⟩) ?_)
  (refine am_callv rfl (cm_extra 6 hI hD hC hV) (by decide) (Nat.le_of_ble_eq_true rfl) (Nat.le_of_ble_eq_true rfl) ?_)
  iterate 4 (refine am_go rfl (by first | exact True.intro | omega | exact ⟨by decide, Nat.le_of_ble_eq_true rfl, Nat.le_of_ble_eq_true rfl⟩ | exact ⟨by decide, Nat.le_of_ble_eq_true rfl⟩) ?_)
  exact loop (f 2 0).toNat 0 _ (by omega) rfl
end Mod4

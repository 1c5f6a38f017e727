/-! the class's search stays as it is where nothing of it is written -/
theorem zPm_r {a b c : Nat} (h : zPm a b c) : (23 ≤ a ∧ a + 2 < 37) ∧ 23 ≤ b ∧ b + 2 < 37 := by
  rcases h with ⟨rfl, rfl, rfl⟩ | ⟨rfl, rfl, rfl⟩ | ⟨rfl, rfl, rfl⟩ | ⟨rfl, rfl, rfl⟩ | ⟨rfl, rfl, rfl⟩ | ⟨rfl, rfl, rfl⟩ <;> decide
section Sfr
variable {F f : Nat → Nat → Int} {G g : Nat → Int → Int} {a b c : Nat}
theorem zRes_fr (hp : zPm a b c) (h2 : F 2 0 = f 2 0) (h12 : F 12 0 = f 12 0) (h18 : F 18 0 = f 18 0) (hf : ∀ x j, 22 ≤ x → x < 37 → F x j = f x j) (hB : zFrB G g) (hg : ∀ x j, 23 ≤ x → x < 37 → G x j = g x j) (h : zRes f g a b) : zRes F G a b := by
  obtain ⟨⟨r1, r2⟩, r3, r4⟩ := zPm_r hp
  rcases h with ⟨u1, u2, u3⟩ | ⟨u1, u2, u3, n, u4, u5, u6, u7⟩
  · exact Or.inl ⟨by rw [h2]; exact u1, ⟨by rw [hf a 0 (by omega) (by omega)]; exact u2.1, by rw [hf a 1 (by omega) (by omega)]; exact u2.2⟩, ⟨by rw [hf b 0 (by omega) (by omega)]; exact u3.1, by rw [hf b 1 (by omega) (by omega)]; exact u3.2⟩⟩
  · have g32 : ∀ j, G 32 j = g 32 j := fun j => hg 32 j (by decide) (by decide)
    have g36 : ∀ j, G 36 j = g 36 j := fun j => hg 36 j (by decide) (by decide)
    refine Or.inr ⟨by rw [h2]; exact u1, ?_, ?_, n, by rw [zVs_fr g36]; exact u4, by rw [zVs_fr g36]; exact u5, ?_, ?_⟩
    · unfold zLr at u2 ⊢
      simp only [hf 22 2 (by decide) (by decide), g32]
      exact u2
    · unfold zRchd at u3 ⊢
      simp only [h2, g32, hB.Re]
      exact u3
    · rw [h2, h12, zVs_fr g36]
      simp only [zCov_fr hB g32, hB 3 _ (by decide)]
      exact u6
    · have e9 : ∀ (L : List Int) (T : List (Int × List Int)), L.foldl (zOne F G) T = L.foldl (zOne f g) T := by
        intro L
        induction L with
        | nil => intro T; rfl
        | cons u L ih => intro T; simp only [List.foldl, hB.One h2 h12 h18, ih]
      rw [e9, hB.RS, h2, zVs_fr g36]
      exact zRS_fr u7 (fun j => hf a j (by omega) (by omega)) (fun j => hf b j (by omega) (by omega)) (fun j => hg _ j (by omega) (by omega)) (fun j => hg _ j (by omega) (by omega)) (fun j => hg _ j (by omega) (by omega)) (fun j => hg _ j (by omega) (by omega))
theorem zSS_fr (h : zSS f g a b c) (h2 : F 2 0 = f 2 0) (h12 : F 12 0 = f 12 0) (h18 : F 18 0 = f 18 0) (hf : ∀ x j, 22 ≤ x → x < 37 → F x j = f x j) (hB : zFrB G g) (hg : ∀ x j, 23 ≤ x → x < 37 → G x j = g x j) : zSS F G a b c := by
  obtain ⟨k1, k2, k3, k4⟩ := h
  refine ⟨k1, hB.I h2 h12 h18 k2, fun j j1 j2 => ?_, ?_⟩
  · unfold zOk
    rw [hg 33 _ (by decide) (by decide), hg 33 _ (by decide) (by decide)]
    exact k3 j j1 j2
  · rw [hf 22 4 (by decide) (by decide)]
    rcases k4 with k4 | k4
    · exact Or.inl k4
    · exact Or.inr ⟨k4.1, zRes_fr k1 h2 h12 h18 hf hB hg k4.2⟩
end Sfr
/-- what the class has found, as a list -/
def cRes (f : Nat → Nat → Int) (g : Nat → Int → Int) (a b : Nat) (T : List (Int × List Int)) : Prop := zRS g (f 2 0).toNat f g a b T ∧ (0 < f 2 0 → zTw (f 2 0).toNat (zVd f g (f 2 0).toNat) T) ∧ (f 2 0 = 0 → T = [])
theorem zRes_c {f : Nat → Nat → Int} {g : Nat → Int → Int} {a b : Nat} (hI : zI f g) (hD : zD f g) (h : zRes f g a b) : ∃ T, cRes f g a b T := by
  have i1 := hI.1
  by_cases c : 0 < f 2 0
  · obtain ⟨T, h1, h2⟩ := zRes_tw hI hD h c
    exact ⟨T, h2, fun _ => h1, fun u => by omega⟩
  · rcases h with ⟨u1, u2, u3⟩ | ⟨u1, _⟩
    · exact ⟨[], ⟨u2, u3⟩, fun u => absurd u c, fun _ => rfl⟩
    · exact absurd u1 c
theorem zRS_at {g0 : Nat → Int → Int} {N : Nat} {f : Nat → Nat → Int} {g : Nat → Int → Int} {a b : Nat} {T : List (Int × List Int)} (h : zRS g0 N f g a b T) {x : Int} (hx : 0 ≤ x ∧ x < 2) : (∃ e, T[x.toNat]? = some e ∧ zHd g0 N f g (if x = 0 then a else b) e) ∨ (T[x.toNat]? = none ∧ zNil f (if x = 0 then a else b)) := by
  have hx2 : x = 0 ∨ x = 1 := by omega
  rcases hx2 with rfl | rfl
  · rw [if_pos rfl]
    match T, h with
    | [], h => exact Or.inr ⟨rfl, h.1⟩
    | [u], h => exact Or.inl ⟨u, rfl, h.1⟩
    | [u, w], h => exact Or.inl ⟨u, rfl, h.1⟩
  · rw [if_neg (by decide)]
    match T, h with
    | [], h => exact Or.inr ⟨rfl, h.2⟩
    | [u], h => exact Or.inr ⟨rfl, h.2⟩
    | [u, w], h => exact Or.inl ⟨w, rfl, h.2⟩
/-- the parts that are there, one after the other -/
theorem zNext {cs : Nat → Int} {N : Nat} : ∀ (m k : Nat), k + 1 + m = N → ∃ d, k + 1 + d ≤ N ∧ (∀ j : Nat, k < j → j < k + 1 + d → cs j = 4) ∧ (k + 1 + d < N → cs (k + 1 + d) ≠ 4) := by
  intro m
  induction m with
  | zero => intro k hk; exact ⟨0, by omega, fun j j1 j2 => by omega, fun u => by omega⟩
  | succ m ih =>
    intro k hk
    by_cases c : cs (k + 1) = 4
    · obtain ⟨d, d1, d2, d3⟩ := ih (k + 1) (by omega)
      refine ⟨d + 1, by omega, fun j j1 j2 => ?_, fun u => ?_⟩
      · by_cases e : j = k + 1
        · rw [e]
          exact c
        · exact d2 j (by omega) (by omega)
      · rw [show k + 1 + (d + 1) = k + 1 + 1 + d by omega]
        exact d3 (by omega)
    · exact ⟨0, by omega, fun j j1 j2 => by omega, fun _ => c⟩
theorem zFirst {cs : Nat → Int} {N : Nat} : ∃ k, k ≤ N ∧ (∀ j : Nat, j < k → cs j = 4) ∧ (k < N → cs k ≠ 4) := by
  induction N with
  | zero => exact ⟨0, by omega, fun j hj => by omega, fun u => by omega⟩
  | succ N ih =>
    obtain ⟨k, k1, k2, k3⟩ := ih
    by_cases c : k < N
    · exact ⟨k, by omega, k2, fun _ => k3 c⟩
    · by_cases c2 : cs N = 4
      · refine ⟨N + 1, by omega, fun j hj => ?_, fun u => by omega⟩
        by_cases e : j = N
        · rw [e]
          exact c2
        · exact k2 j (by omega)
      · exact ⟨N, by omega, fun j hj => k2 j (by omega), fun _ => c2⟩
theorem zPa_z {g : Nat → Int → Int} {cs : Nat → Int} : ∀ k : Nat, (∀ j : Nat, j < k → cs j = 4) → (zPa g cs k).1 = 0 ∧ (zPa g cs k).2.1 = 0 ∧ (zPa g cs k).2.2 = 0 ∧ zPt g cs k = [] := by
  intro k
  induction k with
  | zero => intro _; exact ⟨rfl, rfl, rfl, rfl⟩
  | succ k ih =>
    intro h
    obtain ⟨h1, h2, h3, h4⟩ := ih (fun j hj => h j (by omega))
    have hc := h k (by omega)
    have hz : zZz g cs k = (zPa g cs k).2.1 := if_pos hc
    have hn := zPa_c g cs k
    rw [if_pos hc] at hn
    rcases zPa_s g cs k with ⟨w1, w2, w3⟩ | ⟨w1, w2, w3⟩
    · refine ⟨by omega, by omega, by omega, ?_⟩
      simp only [zPt, h4]
      rw [show zPd g cs k = [] from if_pos hc, show zSc g cs k = [] from if_neg (by omega)]
      rfl
    · omega
theorem zPa_m (g : Nat → Int → Int) (cs : Nat → Int) (k : Nat) : ∀ d : Nat, (zPa g cs k).2.2 ≤ (zPa g cs (k + d)).2.2 := by
  intro d
  induction d with
  | zero => exact Int.le_refl _
  | succ d ih =>
    have := zPa_c g cs (k + d)
    rw [show k + (d + 1) = k + d + 1 by omega]
    split at this <;> omega
theorem zPa_d {g : Nat → Int → Int} {cs : Nat → Int} {k : Nat} (hc : cs k ≠ 4) : ∀ d : Nat, (∀ j : Nat, k < j → j < k + 1 + d → cs j = 4) → (zPa g cs (k + 1 + d)).2.2 = (zPa g cs k).2.2 + 1 := by
  intro d
  induction d with
  | zero =>
    intro _
    have := zPa_c g cs k
    rw [if_neg hc] at this
    exact this
  | succ d ih =>
    intro h
    have h1 := ih (fun j j1 j2 => h j j1 (by omega))
    have := zPa_c g cs (k + 1 + d)
    rw [if_pos (h (k + 1 + d) (by omega) (by omega))] at this
    rw [show k + 1 + (d + 1) = k + 1 + d + 1 by omega]
    omega
section Prn
variable {l : Launch} {dC : Nat → ClassId} {dI : Nat → Nat → Nat} {tc : Nat → ClassId} {f : Nat → Nat → Int} {g : Nat → Int → Int} {a b c : Nat}
variable {cs : Nat → Int}
set_option maxRecDepth 100000 in
set_option maxHeartbeats 4000000 in
theorem ct_putPart (kd v : Int) {L : List Int} (hk : 0 ≤ kd ∧ kd < 9) (hv : 0 ≤ v ∧ v ≤ 999) (h : zPg (f 0 9) (g 37) L) (hl : (L ++ zDig kd v).length ≤ 42) : am_Ct l dC dI tc mm0_putPart 4 58 [(.inr (.inr (some 0))), .inl kd, .inl v] (58, f, g, pr_r a b c) (fun r s => r = none ∧ ∃ F G, s = (58, F, G, pr_r a b c) ∧ zFrT 0 9 37 F f G g ∧ zPg (F 0 9) (G 37) (L ++ zDig kd v)) := by
  have hlt := zLet_r kd
  have hl2 : L.length + (zDig kd v).length ≤ 42 := by rw [← List.length_append]; exact hl
  clear hl
  refine am_enter ok_0_putPart rfl (by decide) (Nat.le_of_ble_eq_true rfl) rfl ?_
  have s36 : ∀ (F : Nat → Nat → Int) (G : Nat → Int → Int) (L1 : List Int), zFrT 0 9 37 F f G g → zPg (F 0 9) (G 37) L1 → L1.length < 42 → L1 ++ [48 + v % 10] = L ++ zDig kd v → am_wp l dC dI tc mm0_putPart 4 58 58 (fun r s => r = none ∧ ∃ F G, s = (58, F, G, pr_r a b c) ∧ zFrT 0 9 37 F f G g ∧ zPg (F 0 9) (G 37) (L ++ zDig kd v)) 36 [some (.inr (.inr (some 0))), some (.inl kd), some (.inl v)] [] (58, F, G, pr_r a b c) := by
    intro F G L1 h1 h2 h3 h4
    iterate 7 (refine am_go rfl (by first | exact True.intro | omega | exact ⟨by decide, Nat.le_of_ble_eq_true rfl, Nat.le_of_ble_eq_true rfl⟩ | exact ⟨by decide, Nat.le_of_ble_eq_true rfl⟩) ?_)
    refine am_call rfl (ct_put1 (48 + v % 10) (by omega) h2 h3) (by decide) (Nat.le_of_ble_eq_true rfl) (Nat.le_of_ble_eq_true rfl) (Nat.le_of_ble_eq_true rfl) (fun rv s q => ?_)
    obtain ⟨rfl, F', G', rfl, p1, p2⟩ := q
    rw [h4] at p2
    exact am_vret (x := 0) rfl rfl rfl ⟨rfl, F', G', rfl, p1.tr h1, p2⟩
  have s23 : ∀ (F : Nat → Nat → Int) (G : Nat → Int → Int) (L1 : List Int), zFrT 0 9 37 F f G g → zPg (F 0 9) (G 37) L1 → L1 ++ ((if 9 < v then [48 + v / 10 % 10] else []) ++ [48 + v % 10]) = L ++ zDig kd v → am_wp l dC dI tc mm0_putPart 4 58 58 (fun r s => r = none ∧ ∃ F G, s = (58, F, G, pr_r a b c) ∧ zFrT 0 9 37 F f G g ∧ zPg (F 0 9) (G 37) (L ++ zDig kd v)) 23 [some (.inr (.inr (some 0))), some (.inl kd), some (.inl v)] [] (58, F, G, pr_r a b c) := by
    intro F G L1 h1 h2 h4
    have h5 := congrArg List.length h4
    simp only [List.length_append, List.length_singleton] at h5
    iterate 2 (refine am_go rfl (by first | exact True.intro | omega | exact ⟨by decide, Nat.le_of_ble_eq_true rfl, Nat.le_of_ble_eq_true rfl⟩ | exact ⟨by decide, Nat.le_of_ble_eq_true rfl⟩) ?_)
    refine am_if rfl (fun c1 => ?_) (fun c1 => ?_)
    · rw [if_neg (by omega), List.nil_append] at h4
      exact s36 F G L1 h1 h2 (by omega) h4
    · rw [if_pos (by omega)] at h4 h5
      simp only [List.length_singleton] at h5
      iterate 9 (refine am_go rfl (by first | exact True.intro | omega | exact ⟨by decide, Nat.le_of_ble_eq_true rfl, Nat.le_of_ble_eq_true rfl⟩ | exact ⟨by decide, Nat.le_of_ble_eq_true rfl⟩) ?_)
      refine am_call rfl (ct_put1 (48 + v / 10 % 10) (by omega) h2 (by omega)) (by decide) (Nat.le_of_ble_eq_true rfl) (Nat.le_of_ble_eq_true rfl) (Nat.le_of_ble_eq_true rfl) (fun rv s q => ?_)
      obtain ⟨rfl, F', G', rfl, p1, p2⟩ := q
      exact s36 F' G' _ (p1.tr h1) p2 (by simp only [List.length_append, List.length_singleton]; omega) (by rw [List.append_assoc]; exact h4)
  have s12 : ∀ (F : Nat → Nat → Int) (G : Nat → Int → Int) (L1 : List Int), zFrT 0 9 37 F f G g → zPg (F 0 9) (G 37) L1 → L1 ++ ((if 99 < v then [48 + v / 100] else []) ++ ((if 9 < v then [48 + v / 10 % 10] else []) ++ [48 + v % 10])) = L ++ zDig kd v → am_wp l dC dI tc mm0_putPart 4 58 58 (fun r s => r = none ∧ ∃ F G, s = (58, F, G, pr_r a b c) ∧ zFrT 0 9 37 F f G g ∧ zPg (F 0 9) (G 37) (L ++ zDig kd v)) 12 [some (.inr (.inr (some 0))), some (.inl kd), some (.inl v)] [] (58, F, G, pr_r a b c) := by
    intro F G L1 h1 h2 h4
    have h5 := congrArg List.length h4
    simp only [List.length_append, List.length_singleton] at h5
    iterate 2 (refine am_go rfl (by first | exact True.intro | omega | exact ⟨by decide, Nat.le_of_ble_eq_true rfl, Nat.le_of_ble_eq_true rfl⟩ | exact ⟨by decide, Nat.le_of_ble_eq_true rfl⟩) ?_)
    refine am_if rfl (fun c1 => ?_) (fun c1 => ?_)
    · rw [if_neg (show ¬ 99 < v by omega), List.nil_append] at h4
      exact s23 F G L1 h1 h2 h4
    · rw [if_pos (show 99 < v by omega)] at h4 h5
      simp only [List.length_singleton] at h5
      iterate 7 (refine am_go rfl (by first | exact True.intro | omega | exact ⟨by decide, Nat.le_of_ble_eq_true rfl, Nat.le_of_ble_eq_true rfl⟩ | exact ⟨by decide, Nat.le_of_ble_eq_true rfl⟩) ?_)
      refine am_call rfl (ct_put1 (48 + v / 100) (by omega) h2 (by omega)) (by decide) (Nat.le_of_ble_eq_true rfl) (Nat.le_of_ble_eq_true rfl) (Nat.le_of_ble_eq_true rfl) (fun rv s q => ?_)
      obtain ⟨rfl, F', G', rfl, p1, p2⟩ := q
      exact s23 F' G' _ (p1.tr h1) p2 (by rw [List.append_assoc]; exact h4)
  (refine am_go rfl (by first | exact True.intro | omega | exact ⟨by decide, Nat.le_of_ble_eq_true rfl, Nat.le_of_ble_eq_true rfl⟩ | exact ⟨by decide, Nat.le_of_ble_eq_true rfl⟩) ?_)
  refine am_if rfl (fun c1 => by omega) (fun c1 => ?_)
  iterate 2 (refine am_go rfl (by first | exact True.intro | omega | exact ⟨by decide, Nat.le_of_ble_eq_true rfl, Nat.le_of_ble_eq_true rfl⟩ | exact ⟨by decide, Nat.le_of_ble_eq_true rfl⟩) ?_)
  (refine am_callJ (q := 0) (na := 1) rfl rfl (by decide) rfl (by decide +kernel) (by decide +kernel) (by decide +kernel) (by decide +kernel) (by decide +kernel) (by decide +kernel) (cj_length) (by decide) (Nat.le_refl _) (Nat.le_of_ble_eq_true rfl) (fun rv s q => ?_))
  obtain ⟨rfl, rfl⟩ := q
  refine am_if rfl (fun c1 => ?_) (fun c1 => by omega)
  iterate 3 (refine am_go rfl (by first | exact True.intro | omega | exact ⟨by decide, Nat.le_of_ble_eq_true rfl, Nat.le_of_ble_eq_true rfl⟩ | exact ⟨by decide, Nat.le_of_ble_eq_true rfl⟩) ?_)
  (refine am_callJ (q := 0) (na := 2) rfl rfl (by decide) rfl (by decide +kernel) (by decide +kernel) (by decide +kernel) (by decide +kernel) (by decide +kernel) (by decide +kernel) (cj_charAt kd hk) (by decide) (Nat.le_refl _) (Nat.le_of_ble_eq_true rfl) (fun rv s q => ?_))
  obtain ⟨rfl, rfl⟩ := q
  have h6 : 0 < (zDig kd v).length := by unfold zDig; simp
  refine am_call rfl (ct_put1 (zLet kd) (by omega) h (by omega)) (by decide) (Nat.le_of_ble_eq_true rfl) (Nat.le_of_ble_eq_true rfl) (Nat.le_of_ble_eq_true rfl) (fun rv s q => ?_)
  obtain ⟨rfl, F', G', rfl, p1, p2⟩ := q
  exact s12 F' G' _ p1 p2 (by rw [List.append_assoc]; rfl)
end Prn

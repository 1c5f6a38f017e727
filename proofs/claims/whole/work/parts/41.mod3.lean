/-! a choice of every part: what it costs -/
def zVo (g : Nat → Int → Int) (cs : Nat → Int) (kd : Int) : Nat → Int
  | 0 => -1
  | k + 1 => if g 3 k = kd ∧ cs k ≠ 4 then g 16 (zAlt (zPa g cs k).1 (zPa g cs k).2.1 (cs k)) else zVo g cs kd k
noncomputable def zEx (f : Nat → Nat → Int) (g : Nat → Int → Int) (cs : Nat → Int) (N : Nat) (kd : Int) : Int := @ite Int (zVo g cs kd N ≠ -1 ∧ zVo g cs 7 N ≠ -1 ∧ ¬ zFit f g kd (zVo g cs kd N) (zVo g cs 7 N)) (Classical.propDecidable _) 100 0
def zCo (g : Nat → Int → Int) (cs : Nat → Int) (k : Nat) : Int := if cs k = 4 then g 4 k else g 17 (zAlt (zPa g cs k).1 (zPa g cs k).2.1 (cs k))
def zSm (g : Nat → Int → Int) (cs : Nat → Int) (a : Int) : Nat → Int
  | 0 => a
  | k + 1 => zSm g cs a k + zCo g cs k
noncomputable def zTt (f : Nat → Nat → Int) (g : Nat → Int → Int) (cs : Nat → Int) (N : Nat) : Int := zSm g cs (zEx f g cs N 2 + zEx f g cs N 6) N
/-- a choice that the form and the lines allow, up to part k -/
def zVl (f : Nat → Nat → Int) (g : Nat → Int → Int) (cs : Nat → Int) (k : Nat) : Prop := (0 ≤ cs k ∧ cs k ≤ 4) ∧ (0 ≤ (zPa g cs k).1 ∧ (zPa g cs k).1 ≤ f 12 0) ∧ (0 ≤ (zPa g cs k).2.1 ∧ (zPa g cs k).2.1 ≤ zPl g (zPa g cs k).1) ∧ ((cs k = 4 ∧ g 4 k ≠ -1) ∨ (cs k ≠ 4 ∧ cs k < zNa g (zPa g cs k).1 (zPa g cs k).2.1 ∧ g 15 (zAlt (zPa g cs k).1 (zPa g cs k).2.1 (cs k)) = g 3 k))
theorem zPa_congr {g : Nat → Int → Int} {cs cs' : Nat → Int} : ∀ {k : Nat}, (∀ j : Nat, j < k → cs j = cs' j) → zPa g cs k = zPa g cs' k := by
  intro k
  induction k with
  | zero => intro _; rfl
  | succ k ih =>
    intro h
    have e := ih (fun j hj => h j (by omega))
    simp only [zPa, e, h k (by omega)]
/-- the reference's rows hold the path -/
def zCh (g : Nat → Int → Int) (cs : Nat → Int) (N : Nat) : Prop := ∀ k : Nat, k < N → g 54 k = cs k ∧ g 55 k = (zPa g cs k).1 ∧ g 56 k = (zPa g cs k).2.1
theorem zVl_at {f : Nat → Nat → Int} {g : Nat → Int → Int} {cs : Nat → Int} {k : Nat} (hI : zI f g) (hD : zD f g) (h : zVl f g cs k) (h4 : cs k ≠ 4) : ((zPa g cs k).1 < f 12 0 ∧ (zPa g cs k).1 ≤ 5) ∧ ((zPa g cs k).2.1 < g 13 (zPa g cs k).1 ∧ (zPa g cs k).2.1 ≤ 4) ∧ (cs k < g 14 ((zPa g cs k).1 * 5 + (zPa g cs k).2.1) ∧ cs k ≤ 3) ∧ (g 49 (4 * (5 * (zPa g cs k).1 + (zPa g cs k).2.1) + cs k) = g 16 (zAlt (zPa g cs k).1 (zPa g cs k).2.1 (cs k)) ∧ g 50 (4 * (5 * (zPa g cs k).1 + (zPa g cs k).2.1) + cs k) = g 17 (zAlt (zPa g cs k).1 (zPa g cs k).2.1 (cs k))) ∧ (0 ≤ g 16 (zAlt (zPa g cs k).1 (zPa g cs k).2.1 (cs k)) ∧ g 16 (zAlt (zPa g cs k).1 (zPa g cs k).2.1 (cs k)) ≤ 999) ∧ (0 ≤ g 17 (zAlt (zPa g cs k).1 (zPa g cs k).2.1 (cs k)) ∧ g 17 (zAlt (zPa g cs k).1 (zPa g cs k).2.1 (cs k)) ≤ 1000) := by
  obtain ⟨v1, v2, v3, v4⟩ := h
  have i3 := hI.2.2.1
  have p5 := zPl_r hI (zPa g cs k).1
  rcases v4 with v4 | v4
  · exact absurd v4.1 h4
  · have e7 := (zNa_iff hI ⟨v2.1, by omega⟩ ⟨v3.1, by omega⟩ v1.1).mp v4.2.1
    have e8 := (hI.2.2.2.1 (zPa g cs k).1 v2.1 (by omega)).1
    have e9 := (hI.2.2.2.2.1 (zPa g cs k).1 (zPa g cs k).2.1 v2.1 (by omega) v3.1 (by omega)).1
    have e6 := hD.al (zPa g cs k).1 (zPa g cs k).2.1 (cs k) v2.1 e7.1 v3.1 e7.2.1 v1.1 e7.2.2
    have e5 := hI.2.2.2.2.2.1 (zPa g cs k).1 (zPa g cs k).2.1 (cs k) v2.1 (by omega) v3.1 (by omega) v1.1 e7.2.2
    exact ⟨⟨e7.1, by omega⟩, ⟨e7.2.1, by omega⟩, ⟨e7.2.2, by omega⟩, ⟨e6.2.1, e6.2.2⟩, e5.1, e5.2⟩
theorem zVo_r {f : Nat → Nat → Int} {g : Nat → Int → Int} {cs : Nat → Int} (hI : zI f g) (hD : zD f g) (kd : Int) : ∀ k : Nat, (∀ j : Nat, j < k → zVl f g cs j) → -1 ≤ zVo g cs kd k ∧ zVo g cs kd k ≤ 999 := by
  intro k
  induction k with
  | zero => intro _; simp only [zVo]; omega
  | succ k ih =>
    intro h
    simp only [zVo]
    split
    · rename_i u
      have := (zVl_at hI hD (h k (by omega)) u.2).2.2.2.2.1
      omega
    · exact ih (fun j hj => h j (by omega))
theorem zCo_r {f : Nat → Nat → Int} {g : Nat → Int → Int} {cs : Nat → Int} (hI : zI f g) (hD : zD f g) {k : Nat} (hk : (k : Int) < f 2 0) (h : zVl f g cs k) : 0 ≤ zCo g cs k ∧ zCo g cs k ≤ 1000 := by
  unfold zCo
  have i2 := hI.2.1 k (by omega) hk
  split
  · rename_i u
    rcases h.2.2.2 with v | v
    · omega
    · exact absurd u v.1
  · rename_i u
    exact (zVl_at hI hD h u).2.2.2.2.2
theorem zEx_r (f : Nat → Nat → Int) (g : Nat → Int → Int) (cs : Nat → Int) (N : Nat) (kd : Int) : 0 ≤ zEx f g cs N kd ∧ zEx f g cs N kd ≤ 100 := by
  unfold zEx
  split <;> omega
theorem zSm_r {f : Nat → Nat → Int} {g : Nat → Int → Int} {cs : Nat → Int} {a : Int} (hI : zI f g) (hD : zD f g) (ha : 0 ≤ a ∧ a ≤ 200) : ∀ k : Nat, (k : Int) ≤ f 2 0 → (∀ j : Nat, j < k → zVl f g cs j) → 0 ≤ zSm g cs a k ∧ zSm g cs a k ≤ 200 + 1000 * k := by
  intro k
  induction k with
  | zero => intro _ _; simp only [zSm]; omega
  | succ k ih =>
    intro hk h
    have h1 := ih (by omega) (fun j hj => h j (by omega))
    have h2 := zCo_r hI hD (by omega) (h k (by omega))
    simp only [zSm]
    omega
section Mod3
variable {l : Launch} {dC : Nat → ClassId} {dI : Nat → Nat → Nat} {tc : Nat → ClassId} {f : Nat → Nat → Int} {g : Nat → Int → Int} {a b c : Nat}
variable {cs : Nat → Int}
set_option maxRecDepth 100000 in
set_option maxHeartbeats 4000000 in
theorem cm_valueOf (x : Int) (hI : zI f g) (hD : zD f g) (hC : zCh g cs (f 2 0).toNat) (hV : ∀ j : Nat, j < (f 2 0).toNat → zVl f g cs j) : am_Ct l dC dI tc mm6_valueOf 1 58 [(.inr (.inr (some 38))), .inl x] (58, f, g, pr_r a b c) (fun r s => r = some (.inl (zVo g cs x (f 2 0).toNat)) ∧ s = (58, f, g, pr_r a b c)) := by
  have i1 := hI.1
  have e1 := hD.pn
  refine am_enter ok_6_valueOf rfl (by decide) (Nat.le_of_ble_eq_true rfl) rfl ?_
  have loop : ∀ (n k : Nat) (v : Int), k + n = (f 2 0).toNat → v = zVo g cs x k → am_wp l dC dI tc mm6_valueOf 1 58 58 (fun r s => r = some (.inl (zVo g cs x (f 2 0).toNat)) ∧ s = (58, f, g, pr_r a b c)) 4 [some (.inr (.inr (some 38))), some (.inl x), some (.inl v), some (.inl (k : Int))] [] (58, f, g, pr_r a b c) := by
    intro n
    induction n with
    | zero =>
      intro k v hk hv
      iterate 3 (refine am_go rfl (by first | exact True.intro | omega | exact ⟨by decide, Nat.le_of_ble_eq_true rfl, Nat.le_of_ble_eq_true rfl⟩ | exact ⟨by decide, Nat.le_of_ble_eq_true rfl⟩) ?_)
      refine am_if rfl (fun c1 => ?_) (fun c1 => by omega)
      (refine am_go rfl (by first | exact True.intro | omega | exact ⟨by decide, Nat.le_of_ble_eq_true rfl, Nat.le_of_ble_eq_true rfl⟩ | exact ⟨by decide, Nat.le_of_ble_eq_true rfl⟩) ?_)
      exact am_iret rfl rfl rfl ⟨by rw [hv, show k = (f 2 0).toNat by omega], rfl⟩
    | succ n ih =>
      intro k v hk hv
      have e2 := hD.kd k (by omega) (by omega)
      obtain ⟨h1, h2, h3⟩ := hC k (by omega)
      have hv1 := hV k (by omega)
      iterate 3 (refine am_go rfl (by first | exact True.intro | omega | exact ⟨by decide, Nat.le_of_ble_eq_true rfl, Nat.le_of_ble_eq_true rfl⟩ | exact ⟨by decide, Nat.le_of_ble_eq_true rfl⟩) ?_)
      refine am_if rfl (fun c1 => by omega) (fun c1 => ?_)
      iterate 5 (refine am_go rfl (by first | exact True.intro | omega | exact ⟨by decide, Nat.le_of_ble_eq_true rfl, Nat.le_of_ble_eq_true rfl⟩ | exact ⟨by decide, Nat.le_of_ble_eq_true rfl⟩) ?_)
      rw [e2]
      refine am_if rfl (fun c2 => ?_) (fun c2 => ?_)
      · iterate 4 (refine am_go rfl (by first | exact True.intro | omega | exact ⟨by decide, Nat.le_of_ble_eq_true rfl, Nat.le_of_ble_eq_true rfl⟩ | exact ⟨by decide, Nat.le_of_ble_eq_true rfl⟩) ?_)
        exact ih (k + 1) v (by omega) (by rw [hv]; exact (if_neg (fun u => c2 u.1)).symm)
      · iterate 5 (refine am_go rfl (by first | exact True.intro | omega | exact ⟨by decide, Nat.le_of_ble_eq_true rfl, Nat.le_of_ble_eq_true rfl⟩ | exact ⟨by decide, Nat.le_of_ble_eq_true rfl⟩) ?_)
        rw [h1]
        refine am_if rfl (fun c3 => ?_) (fun c3 => ?_)
        · iterate 4 (refine am_go rfl (by first | exact True.intro | omega | exact ⟨by decide, Nat.le_of_ble_eq_true rfl, Nat.le_of_ble_eq_true rfl⟩ | exact ⟨by decide, Nat.le_of_ble_eq_true rfl⟩) ?_)
          exact ih (k + 1) v (by omega) (by rw [hv]; exact (if_neg (fun u => u.2 c3)).symm)
        · have hz := zVl_at hI hD hv1 c3
          have hc1 := hv1.1
          have hy1 := hv1.2.1
          have hz1 := hv1.2.2.1
          iterate 8 (refine am_go rfl (by first | exact True.intro | omega | exact ⟨by decide, Nat.le_of_ble_eq_true rfl, Nat.le_of_ble_eq_true rfl⟩ | exact ⟨by decide, Nat.le_of_ble_eq_true rfl⟩) ?_)
          rw [h1]
          (refine am_callv rfl (cm_alternative k (cs k) (by omega) (by omega) (by omega) (by omega)) (by decide) (Nat.le_of_ble_eq_true rfl) (Nat.le_of_ble_eq_true rfl) ?_)
          rw [h2, h3]
          (refine am_go rfl (by first | exact True.intro | omega | exact ⟨by decide, Nat.le_of_ble_eq_true rfl, Nat.le_of_ble_eq_true rfl⟩ | exact ⟨by decide, Nat.le_of_ble_eq_true rfl⟩) ?_)
          rw [hz.2.2.2.1.1]
          iterate 4 (refine am_go rfl (by first | exact True.intro | omega | exact ⟨by decide, Nat.le_of_ble_eq_true rfl, Nat.le_of_ble_eq_true rfl⟩ | exact ⟨by decide, Nat.le_of_ble_eq_true rfl⟩) ?_)
          exact ih (k + 1) _ (by omega) (if_pos ⟨by omega, c3⟩).symm
  iterate 4 (refine am_go rfl (by first | exact True.intro | omega | exact ⟨by decide, Nat.le_of_ble_eq_true rfl, Nat.le_of_ble_eq_true rfl⟩ | exact ⟨by decide, Nat.le_of_ble_eq_true rfl⟩) ?_)
  exact loop (f 2 0).toNat 0 (-1) (by omega) rfl
set_option maxRecDepth 100000 in
set_option maxHeartbeats 4000000 in
theorem cm_extra (x : Int) (hI : zI f g) (hD : zD f g) (hC : zCh g cs (f 2 0).toNat) (hV : ∀ j : Nat, j < (f 2 0).toNat → zVl f g cs j) : am_Ct l dC dI tc mm6_extra 2 58 [(.inr (.inr (some 38))), .inl x] (58, f, g, pr_r a b c) (fun r s => r = some (.inl (zEx f g cs (f 2 0).toNat x)) ∧ s = (58, f, g, pr_r a b c)) := by
  have i7 := hI.2.2.2.2.2.2
  have e1 := hD.tn
  refine am_enter ok_6_extra rfl (by decide) (Nat.le_of_ble_eq_true rfl) rfl ?_
  iterate 2 (refine am_go rfl (by first | exact True.intro | omega | exact ⟨by decide, Nat.le_of_ble_eq_true rfl, Nat.le_of_ble_eq_true rfl⟩ | exact ⟨by decide, Nat.le_of_ble_eq_true rfl⟩) ?_)
  (refine am_callv rfl (cm_valueOf x hI hD hC hV) (by decide) (Nat.le_of_ble_eq_true rfl) (Nat.le_of_ble_eq_true rfl) ?_)
  iterate 3 (refine am_go rfl (by first | exact True.intro | omega | exact ⟨by decide, Nat.le_of_ble_eq_true rfl, Nat.le_of_ble_eq_true rfl⟩ | exact ⟨by decide, Nat.le_of_ble_eq_true rfl⟩) ?_)
  (refine am_callv rfl (cm_valueOf 7 hI hD hC hV) (by decide) (Nat.le_of_ble_eq_true rfl) (Nat.le_of_ble_eq_true rfl) ?_)
  iterate 3 (refine am_go rfl (by first | exact True.intro | omega | exact ⟨by decide, Nat.le_of_ble_eq_true rfl, Nat.le_of_ble_eq_true rfl⟩ | exact ⟨by decide, Nat.le_of_ble_eq_true rfl⟩) ?_)
  refine am_if rfl (fun c1 => ?_) (fun c1 => ?_)
  · (refine am_go rfl (by first | exact True.intro | omega | exact ⟨by decide, Nat.le_of_ble_eq_true rfl, Nat.le_of_ble_eq_true rfl⟩ | exact ⟨by decide, Nat.le_of_ble_eq_true rfl⟩) ?_)
    exact am_iret rfl rfl rfl ⟨by rw [show zEx f g cs (f 2 0).toNat x = 0 from if_neg (fun u => u.1 c1)], rfl⟩
  · iterate 2 (refine am_go rfl (by first | exact True.intro | omega | exact ⟨by decide, Nat.le_of_ble_eq_true rfl, Nat.le_of_ble_eq_true rfl⟩ | exact ⟨by decide, Nat.le_of_ble_eq_true rfl⟩) ?_)
    refine am_if rfl (fun c2 => ?_) (fun c2 => ?_)
    · (refine am_go rfl (by first | exact True.intro | omega | exact ⟨by decide, Nat.le_of_ble_eq_true rfl, Nat.le_of_ble_eq_true rfl⟩ | exact ⟨by decide, Nat.le_of_ble_eq_true rfl⟩) ?_)
      exact am_iret rfl rfl rfl ⟨by rw [show zEx f g cs (f 2 0).toNat x = 0 from if_neg (fun u => u.2.1 c2)], rfl⟩
    · iterate 4 (refine am_go rfl (by first | exact True.intro | omega | exact ⟨by decide, Nat.le_of_ble_eq_true rfl, Nat.le_of_ble_eq_true rfl⟩ | exact ⟨by decide, Nat.le_of_ble_eq_true rfl⟩) ?_)
      refine am_call rfl (cm_isFit x _ _ (by omega)) (by decide) (Nat.le_of_ble_eq_true rfl) (Nat.le_of_ble_eq_true rfl) (Nat.le_of_ble_eq_true rfl) (fun rv s q => ?_)
      rcases q with ⟨rfl, ⟨rfl, q1⟩ | ⟨rfl, q1⟩⟩
      · rw [hD.fit] at q1
        refine am_if rfl (fun c3 => ?_) (fun c3 => by omega)
        (refine am_go rfl (by first | exact True.intro | omega | exact ⟨by decide, Nat.le_of_ble_eq_true rfl, Nat.le_of_ble_eq_true rfl⟩ | exact ⟨by decide, Nat.le_of_ble_eq_true rfl⟩) ?_)
        exact am_iret rfl rfl rfl ⟨by rw [show zEx f g cs (f 2 0).toNat x = 0 from if_neg (fun u => u.2.2 q1)], rfl⟩
      · rw [hD.fit] at q1
        refine am_if rfl (fun c3 => by omega) (fun c3 => ?_)
        iterate 2 (refine am_go rfl (by first | exact True.intro | omega | exact ⟨by decide, Nat.le_of_ble_eq_true rfl, Nat.le_of_ble_eq_true rfl⟩ | exact ⟨by decide, Nat.le_of_ble_eq_true rfl⟩) ?_)
        exact am_iret rfl rfl rfl ⟨by rw [show zEx f g cs (f 2 0).toNat x = 100 from if_pos ⟨c1, c2, q1⟩], rfl⟩
/-- one reading among the reference's two; the two of them -/
def mRd (g : Nat → Int → Int) (N : Nat) (r : Int) (e : Int × List Int) : Prop := g 53 r = e.1 ∧ ∀ k : Nat, k < N → g 52 (9 * r + k) = zCs e k
def mHo (f : Nat → Nat → Int) (g : Nat → Int → Int) (N : Nat) (T : List (Int × List Int)) : Prop := match T with
  | [] => f 38 22 = 0
  | [a] => f 38 22 = 1 ∧ mRd g N 0 a
  | [a, b] => f 38 22 = 2 ∧ mRd g N 0 a ∧ mRd g N 1 b
  | _ => False
def zFrK (F f : Nat → Nat → Int) (G g : Nat → Int → Int) : Prop := (∀ x j, x ≠ 38 ∨ j ≠ 22 → F x j = f x j) ∧ ∀ x j, x ≠ 52 ∧ x ≠ 53 → G x j = g x j
set_option maxRecDepth 100000 in
set_option maxHeartbeats 4000000 in
theorem wp_keep86 {Q : Option am_V → am_H → Prop} (sm q : Int) (o3 : Option am_V) (hq : q = 0 ∨ q = 1) (hN : 0 ≤ f 2 0 ∧ f 2 0 ≤ 9) (hp : f 38 5 = f 2 0) (h22 : 0 ≤ f 38 22 ∧ f 38 22 ≤ 2)
    (K : ∀ G, G 53 q = sm → (∀ k : Nat, k < (f 2 0).toNat → G 52 (9 * q + k) = g 54 k) → (∀ x j, (x ≠ 52 ∨ j < 9 * q ∨ 9 * q + f 2 0 ≤ j) → (x ≠ 53 ∨ j ≠ q) → G x j = g x j) → Q none (58, am_u1 f 38 22 (if f 38 22 < 2 then f 38 22 + 1 else 2), G, pr_r a b c)) : am_wp l dC dI tc mm6_keep 3 58 58 (Q) 86 [some (.inr (.inr (some 38))), some (.inl sm), some (.inl q), o3] [] (58, f, g, pr_r a b c) := by
  have loop : ∀ (n k : Nat) (G : Nat → Int → Int), k + n = (f 2 0).toNat → G 53 q = sm → (∀ j : Nat, j < k → G 52 (9 * q + j) = g 54 j) → (∀ x j, (x ≠ 52 ∨ j < 9 * q ∨ 9 * q + k ≤ j) → (x ≠ 53 ∨ j ≠ q) → G x j = g x j) → am_wp l dC dI tc mm6_keep 3 58 58 (Q) 93 [some (.inr (.inr (some 38))), some (.inl sm), some (.inl q), some (.inl (k : Int))] [] (58, f, G, pr_r a b c) := by
    intro n
    induction n with
    | zero =>
      intro k G hk h1 h2 h3
      iterate 3 (refine am_go rfl (by first | exact True.intro | omega | exact ⟨by decide, Nat.le_of_ble_eq_true rfl, Nat.le_of_ble_eq_true rfl⟩ | exact ⟨by decide, Nat.le_of_ble_eq_true rfl⟩) ?_)
      refine am_if rfl (fun c1 => ?_) (fun c1 => by omega)
      iterate 4 (refine am_go rfl (by first | exact True.intro | omega | exact ⟨by decide, Nat.le_of_ble_eq_true rfl, Nat.le_of_ble_eq_true rfl⟩ | exact ⟨by decide, Nat.le_of_ble_eq_true rfl⟩) ?_)
      have K1 := K G h1 (fun j hj => h2 j (by omega)) (fun x j a1 a2 => h3 x j (by omega) a2)
      refine am_if rfl (fun c2 => ?_) (fun c2 => ?_)
      · rw [if_neg (by omega)] at K1
        iterate 2 (refine am_go rfl (by first | exact True.intro | omega | exact ⟨by decide, Nat.le_of_ble_eq_true rfl, Nat.le_of_ble_eq_true rfl⟩ | exact ⟨by decide, Nat.le_of_ble_eq_true rfl⟩) ?_)
        exact am_vret (x := 0) rfl rfl rfl K1
      · rw [if_pos (by omega)] at K1
        iterate 6 (refine am_go rfl (by first | exact True.intro | omega | exact ⟨by decide, Nat.le_of_ble_eq_true rfl, Nat.le_of_ble_eq_true rfl⟩ | exact ⟨by decide, Nat.le_of_ble_eq_true rfl⟩) ?_)
        exact am_vret (x := 0) rfl rfl rfl K1
    | succ n ih =>
      intro k G hk h1 h2 h3
      iterate 3 (refine am_go rfl (by first | exact True.intro | omega | exact ⟨by decide, Nat.le_of_ble_eq_true rfl, Nat.le_of_ble_eq_true rfl⟩ | exact ⟨by decide, Nat.le_of_ble_eq_true rfl⟩) ?_)
      refine am_if rfl (fun c1 => by omega) (fun c1 => ?_)
      iterate 14 (refine am_go rfl (by first | exact True.intro | omega | exact ⟨by decide, Nat.le_of_ble_eq_true rfl, Nat.le_of_ble_eq_true rfl⟩ | exact ⟨by decide, Nat.le_of_ble_eq_true rfl⟩) ?_)
      refine ih (k + 1) _ (by omega) ?_ ?_ ?_
      · rw [am_u3_c (by decide)]
        exact h1
      · intro j hj
        by_cases u : j = k
        · rw [u, am_u3_s]
          exact h3 54 k (Or.inl (by decide)) (Or.inl (by decide))
        · rw [am_u3_j (by omega)]
          exact h2 j (by omega)
      · intro x j a1 a2
        by_cases u : x = 52 ∧ j = 9 * q + k
        · omega
        · have : am_u3 G 52 (9 * q + (k : Int)) (G 54 k) x j = G x j := by
            unfold am_u3
            by_cases w : x = 52
            · rw [if_pos w, if_neg (fun z => u ⟨w, z⟩)]
            · rw [if_neg w]
          rw [this]
          exact h3 x j (by omega) a2
  have hqr : 0 ≤ q ∧ q ≤ 1 := by omega
  clear hq
  iterate 7 (refine am_go rfl (by first | exact True.intro | omega | exact ⟨by decide, Nat.le_of_ble_eq_true rfl, Nat.le_of_ble_eq_true rfl⟩ | exact ⟨by decide, Nat.le_of_ble_eq_true rfl⟩) ?_)
  refine loop (f 2 0).toNat 0 _ (by omega) am_u3_s (fun j hj => by omega) (fun x j a1 a2 => ?_)
  unfold am_u3
  by_cases w : x = 53
  · rw [if_pos w, if_neg (by omega)]
  · rw [if_neg w]
end Mod3

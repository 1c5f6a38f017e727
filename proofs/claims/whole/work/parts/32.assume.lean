theorem zPm_1 {a b c : Nat} (h : zPm a b c) : zPm c a b := by
  rcases h with ⟨rfl, rfl, rfl⟩ | ⟨rfl, rfl, rfl⟩ | ⟨rfl, rfl, rfl⟩ | ⟨rfl, rfl, rfl⟩ | ⟨rfl, rfl, rfl⟩ | ⟨rfl, rfl, rfl⟩ <;> (unfold zPm; decide)
theorem zPm_2 {a b c : Nat} (h : zPm a b c) : zPm a c b := by
  rcases h with ⟨rfl, rfl, rfl⟩ | ⟨rfl, rfl, rfl⟩ | ⟨rfl, rfl, rfl⟩ | ⟨rfl, rfl, rfl⟩ | ⟨rfl, rfl, rfl⟩ | ⟨rfl, rfl, rfl⟩ <;> (unfold zPm; decide)
theorem zPm_x {a b c x : Nat} (h : zPm a b c) (hx : x ≠ 23 ∧ x ≠ 26 ∧ x ≠ 29) : x ≠ c := by
  rcases h with ⟨rfl, rfl, rfl⟩ | ⟨rfl, rfl, rfl⟩ | ⟨rfl, rfl, rfl⟩ | ⟨rfl, rfl, rfl⟩ | ⟨rfl, rfl, rfl⟩ | ⟨rfl, rfl, rfl⟩ <;> omega
theorem zPm_y {a b c x : Nat} (h : zPm a b c) (hx : x < 23 ∨ 31 < x) : x ≠ c + 1 ∧ x ≠ c + 2 := by
  rcases h with ⟨rfl, rfl, rfl⟩ | ⟨rfl, rfl, rfl⟩ | ⟨rfl, rfl, rfl⟩ | ⟨rfl, rfl, rfl⟩ | ⟨rfl, rfl, rfl⟩ | ⟨rfl, rfl, rfl⟩ <;> omega
theorem zPm_a {a b c : Nat} (h : zPm a b c) : (a ≠ c ∧ a + 1 ≠ c + 1 ∧ a + 1 ≠ c + 2 ∧ a + 2 ≠ c + 1 ∧ a + 2 ≠ c + 2) ∧ (b ≠ c ∧ b + 1 ≠ c + 1 ∧ b + 1 ≠ c + 2 ∧ b + 2 ≠ c + 1 ∧ b + 2 ≠ c + 2) ∧ a ≠ 22 ∧ b ≠ 22 ∧ 22 ≠ c := by
  rcases h with ⟨rfl, rfl, rfl⟩ | ⟨rfl, rfl, rfl⟩ | ⟨rfl, rfl, rfl⟩ | ⟨rfl, rfl, rfl⟩ | ⟨rfl, rfl, rfl⟩ | ⟨rfl, rfl, rfl⟩ <;> decide
theorem zPm_z {a b c : Nat} (h : zPm a b c) : (a + 1 ≠ 33 ∧ a + 1 ≠ 34 ∧ a + 1 ≠ 35) ∧ (a + 2 ≠ 33 ∧ a + 2 ≠ 34 ∧ a + 2 ≠ 35) ∧ (b + 1 ≠ 33 ∧ b + 1 ≠ 34 ∧ b + 1 ≠ 35) ∧ (b + 2 ≠ 33 ∧ b + 2 ≠ 34 ∧ b + 2 ≠ 35) := by
  rcases h with ⟨rfl, rfl, rfl⟩ | ⟨rfl, rfl, rfl⟩ | ⟨rfl, rfl, rfl⟩ | ⟨rfl, rfl, rfl⟩ | ⟨rfl, rfl, rfl⟩ | ⟨rfl, rfl, rfl⟩ <;> decide
theorem zRS_fr {g0 : Nat → Int → Int} {N : Nat} {f F : Nat → Nat → Int} {g G : Nat → Int → Int} {a b : Nat} {T : List (Int × List Int)} (h : zRS g0 N f g a b T) (fa : ∀ j, F a j = f a j) (fb : ∀ j, F b j = f b j) (ga1 : ∀ j, G (a + 1) j = g (a + 1) j) (ga2 : ∀ j, G (a + 2) j = g (a + 2) j) (gb1 : ∀ j, G (b + 1) j = g (b + 1) j) (gb2 : ∀ j, G (b + 2) j = g (b + 2) j) : zRS g0 N F G a b T := by
  match T, h with
  | [], h => exact ⟨⟨by rw [fa]; exact h.1.1, by rw [fa]; exact h.1.2⟩, ⟨by rw [fb]; exact h.2.1, by rw [fb]; exact h.2.2⟩⟩
  | [d], h => exact ⟨zHd_fr h.1 fa ga1 ga2, ⟨by rw [fb]; exact h.2.1, by rw [fb]; exact h.2.2⟩⟩
  | [d, d'], h => exact ⟨zHd_fr h.1 fa ga1 ga2, zHd_fr h.2 fb gb1 gb2⟩
theorem zRS_2 {g0 : Nat → Int → Int} {N : Nat} {f : Nat → Nat → Int} {g : Nat → Int → Int} {a b : Nat} {T : List (Int × List Int)} (h : zRS g0 N f g a b T) : (f a 0 ≠ -1 → f a 2 = N) ∧ (f b 0 ≠ -1 → f b 2 = N) := by
  match T, h with
  | [], h => exact ⟨fun u => absurd h.1.1 u, fun u => absurd h.2.1 u⟩
  | [d], h => exact ⟨fun _ => h.1.2.1, fun u => absurd h.2.1 u⟩
  | [d, d'], h => exact ⟨fun _ => h.1.2.1, fun _ => h.2.2.1⟩
theorem zRS_adm {g0 : Nat → Int → Int} {N : Nat} {F : Nat → Nat → Int} {G : Nat → Int → Int} {a b c : Nat} {T : List (Int × List Int)} {e : Int × List Int} (h : zRS g0 N F G a b T) (hc : zHd g0 N F G c e) :
    ((F a 0 = -1 ∨ zBf F G c a) → zRS g0 N F G c a (zj2 N T e)) ∧ (¬ (F a 0 = -1 ∨ zBf F G c a) → (F b 0 = -1 ∨ zBf F G c b) → zRS g0 N F G a c (zj2 N T e)) ∧ (¬ (F a 0 = -1 ∨ zBf F G c a) → ¬ (F b 0 = -1 ∨ zBf F G c b) → zRS g0 N F G a b (zj2 N T e)) := by
  match T, h with
  | [], h =>
    exact ⟨fun _ => ⟨hc, h.1⟩, fun u => absurd (Or.inl h.1.1) u, fun u => absurd (Or.inl h.1.1) u⟩
  | [d], h =>
    have h0 := zHd_0 h.1
    refine ⟨fun u => ?_, fun u w => ?_, fun u w => absurd (Or.inl h.2.1) w⟩
    · rcases u with u | u
      · omega
      · have e1 : zj2 N [d] e = [e, d] := if_pos ((zBf_lt hc h.1).mp u)
        rw [e1]
        exact ⟨hc, h.1⟩
    · have e1 : zj2 N [d] e = [d, e] := if_neg (fun q => u (Or.inr ((zBf_lt hc h.1).mpr q)))
      rw [e1]
      exact ⟨h.1, hc⟩
  | [d, d'], h =>
    have h0 := zHd_0 h.1
    have h0' := zHd_0 h.2
    refine ⟨fun u => ?_, fun u w => ?_, fun u w => ?_⟩
    · rcases u with u | u
      · omega
      · have e1 : zj2 N [d, d'] e = [e, d] := if_pos ((zBf_lt hc h.1).mp u)
        rw [e1]
        exact ⟨hc, h.1⟩
    · rcases w with w | w
      · omega
      · have e1 : zj2 N [d, d'] e = [d, e] := by
          simp only [zj2]
          rw [if_neg (fun q => u (Or.inr ((zBf_lt hc h.1).mpr q))), if_pos ((zBf_lt hc h.2).mp w)]
        rw [e1]
        exact ⟨h.1, hc⟩
    · have e1 : zj2 N [d, d'] e = [d, d'] := by
        simp only [zj2]
        rw [if_neg (fun q => u (Or.inr ((zBf_lt hc h.1).mpr q))), if_neg (fun q => w (Or.inr ((zBf_lt hc h.2).mpr q)))]
      rw [e1]
      exact h
theorem zRep_no {w : zR} {T : List (Int × Int × Int)} (h : zRep w T) : (w.1 = 1000000 ↔ T[0]? = none) ∧ (w.2.2.2.1 = 1000000 ↔ T[1]? = none) := by
  match T, h with
  | [], h => exact ⟨⟨fun _ => rfl, fun _ => h.1⟩, ⟨fun _ => rfl, fun _ => h.2⟩⟩
  | [a], h =>
    obtain ⟨h1, h2, h3, h4, h5⟩ := h
    exact ⟨⟨fun u => by omega, fun u => by simp at u⟩, ⟨fun _ => rfl, fun _ => h5⟩⟩
  | [a, b], h =>
    obtain ⟨h1, h2, h3, h4, h5, h6, h7, h8⟩ := h
    exact ⟨⟨fun u => by omega, fun u => by simp at u⟩, ⟨fun u => by omega, fun u => by simp at u⟩⟩
/-- an entry more of the two best -/
noncomputable def zAd (N : Nat) (L : List (Int × List Int)) (r : Nat) (T : List (Int × List Int)) : List (Int × List Int) := match L[r]? with
  | some e => zj2 N T e
  | none => T
def zCnd (f : Nat → Nat → Int) (g : Nat → Int → Int) (v : Int) (F : Nat → Nat → Int) (G : Nat → Int → Int) (a b c : Nat) (T : List (Int × List Int)) : Prop := zPm a b c ∧ zFrA F f G g ∧ zFrW G g ∧ zGL f g v G 0 0 0 ∧ zAok G ∧ (∀ j, F 22 j = f 22 j) ∧ zRS g (f 2 0).toNat F G a b T
section Asm2
variable {l : Launch} {dC : Nat → ClassId} {dI : Nat → Nat → Nat} {tc : Nat → ClassId} {f : Nat → Nat → Int} {g : Nat → Int → Int} {a b c : Nat}
set_option maxRecDepth 100000 in
set_option maxHeartbeats 4000000 in
theorem wp_admit {Q : Option am_V → am_H → Prop} (v : Int) (hI : zI f g) (hR : zRchd f g) (h0 : g 32 0 = 1) (r : Int) (hr : r = 0 ∨ r = 1) (F : Nat → Nat → Int) (G : Nat → Int → Int) (T : List (Int × List Int)) (o3 o4 : Option Int) (hC : zCnd f g v F G a b c T)
    (K : ∀ (F' : Nat → Nat → Int) (G' : Nat → Int → Int) (a' b' c' : Nat), zCnd f g v F' G' a' b' c' (zAd (f 2 0).toNat (zt2 (zSuf f g v (f 2 0).toNat 0 0 0)) r.toNat T) → am_wp l dC dI tc mm4_assume 3 58 58 (Q) 43 [some (.inr (.inr (some 22))), some (.inl v), some (.inl (r + 1)), o3.map Sum.inl, o4.map Sum.inl] [] (58, F', G', pr_r a' b' c')) : am_wp l dC dI tc mm4_assume 3 58 58 (Q) 43 [some (.inr (.inr (some 22))), some (.inl v), some (.inl r), o3.map Sum.inl, o4.map Sum.inl] [] (58, F, G, pr_r a b c) := by
  have i1 := hI.1
  obtain ⟨c1, c2, c3, c4, c5, c6, c7⟩ := hC
  obtain ⟨T0, t1, t2, t3, t4⟩ := c4 0 0 0 (Or.inl (by omega)) (by omega) ⟨by omega, hI.2.2.1.1⟩ ⟨by omega, (zPl_r hI 0).1⟩ h0
  have t3 : T0.map (zLft f g v (f 2 0).toNat 0 0 0) = zt2 (zSuf f g v (f 2 0).toNat 0 0 0) := t3
  have e2 : F 2 0 = f 2 0 := c2.1 2 0 (by decide) (Or.inl (by decide))
  have eT : (zt2 (zSuf f g v (f 2 0).toNat 0 0 0))[r.toNat]? = (T0[r.toNat]?).map (zLft f g v (f 2 0).toNat 0 0 0) := by rw [← t3, List.getElem?_map]
  have hsum : G 33 r = 1000000 ↔ T0[r.toNat]? = none := by
    have hn := zRep_no t1
    rcases hr with rfl | rfl
    · exact hn.1
    · exact hn.2
  have hIF : zI F G := by
    have h9 := c3.I hI
    unfold zI at h9 ⊢
    rw [e2, c2.1 12 0 (by decide) (Or.inl (by decide)), c2.1 18 0 (by decide) (Or.inl (by decide))]
    exact h9
  iterate 2 (refine am_go rfl (by first | exact True.intro | omega | exact ⟨by decide, Nat.le_of_ble_eq_true rfl, Nat.le_of_ble_eq_true rfl⟩ | exact ⟨by decide, Nat.le_of_ble_eq_true rfl⟩) ?_)
  refine am_if rfl (fun d1 => ?_) (fun d1 => ?_)
  · omega
  · iterate 5 (refine am_go rfl (by first | exact True.intro | omega | exact ⟨by decide, Nat.le_of_ble_eq_true rfl, Nat.le_of_ble_eq_true rfl⟩ | exact ⟨by decide, Nat.le_of_ble_eq_true rfl⟩) ?_)
    refine am_if rfl (fun d2 => ?_) (fun d2 => ?_)
    · have en := hsum.mp d2
      iterate 2 (refine am_go rfl (by first | exact True.intro | omega | exact ⟨by decide, Nat.le_of_ble_eq_true rfl, Nat.le_of_ble_eq_true rfl⟩ | exact ⟨by decide, Nat.le_of_ble_eq_true rfl⟩) ?_)
      refine K F G a b c ?_
      have e9 : zAd (f 2 0).toNat (zt2 (zSuf f g v (f 2 0).toNat 0 0 0)) r.toNat T = T := by
        unfold zAd
        rw [eT, en]
        rfl
      rw [e9]
      exact ⟨c1, c2, c3, c4, c5, c6, c7⟩
    · cases hT : T0[r.toNat]? with
      | none => exact absurd (hsum.mpr hT) d2
      | some e0 =>
        rw [hT, Option.map_some] at eT
        obtain ⟨k1, k2⟩ := zTok_of hI hR c3 c4 h0 hr eT
        iterate 2 (refine am_go rfl (by first | exact True.intro | omega | exact ⟨by decide, Nat.le_of_ble_eq_true rfl, Nat.le_of_ble_eq_true rfl⟩ | exact ⟨by decide, Nat.le_of_ble_eq_true rfl⟩) ?_)
        refine am_call rfl (ct_trace c1 r hIF (by omega) (fun k hk => k1 k (by omega))) (by decide) (Nat.le_of_ble_eq_true rfl) (Nat.le_of_ble_eq_true rfl) (Nat.le_of_ble_eq_true rfl) (fun rv s q => ?_)
        obtain ⟨rfl, F1, G1, rfl, r1, r2⟩ := q
        rw [e2] at r1
        have hd := zHd_of hI hR c3 c4 h0 hr eT r1
        obtain ⟨⟨n1, n2, n3, n4, n5⟩, ⟨m1, m2, m3, m4, m5⟩, m6, m7, m8⟩ := zPm_a c1
        have hRS : zRS g (f 2 0).toNat F1 G1 a b T := zRS_fr c7 (fun j => r2.1 a j n1) (fun j => r2.1 b j m1) (fun j => r2.2 _ j n2 n3) (fun j => r2.2 _ j n4 n5) (fun j => r2.2 _ j m2 m3) (fun j => r2.2 _ j m4 m5)
        clear n1 n2 n3 n4 n5 m1 m2 m3 m4 m5
        have hFA : zFrA F1 f G1 g := ⟨fun x j x1 x2 => (r2.1 x j (zPm_x c1 x1)).trans (c2.1 x j x1 x2), fun x j x1 x2 => (r2.2 x j (zPm_y c1 x2).1 (zPm_y c1 x2).2).trans (c2.2 x j x1 x2)⟩
        have hFW : zFrW G1 g := fun x j hx => (r2.2 x j (zPm_y c1 hx.2).1 (zPm_y c1 hx.2).2).trans (c3 x j hx)
        have hw : ∀ x j, 31 < x → G1 x j = G x j := fun x j hx => r2.2 x j (zPm_y c1 (Or.inr hx)).1 (zPm_y c1 (Or.inr hx)).2
        have hrow : ∀ j, zRow G1 j = zRow G j := fun j => by
          unfold zRow
          rw [hw 33 _ (by decide), hw 34 _ (by decide), hw 35 _ (by decide), hw 33 _ (by decide), hw 34 _ (by decide), hw 35 _ (by decide)]
        have hGL : zGL f g v G1 0 0 0 := fun k' y' z' a1 a2 a3 a4 a5 => by rw [hrow]; exact c4 k' y' z' a1 a2 a3 a4 a5
        have hAk : zAok G1 := fun j j1 j2 => by rw [zOk_row, hrow]; exact c5 j j1 j2
        have h22 : ∀ j, F1 22 j = f 22 j := fun j => (r2.1 22 j m8).trans (c6 j)
        obtain ⟨A1, A2, A3⟩ := zRS_adm hRS hd
        have e9 : zAd (f 2 0).toNat (zt2 (zSuf f g v (f 2 0).toNat 0 0 0)) r.toNat T = zj2 (f 2 0).toNat T (zLft f g v (f 2 0).toNat 0 0 0 e0) := by
          unfold zAd
          rw [eT]
        rw [e9] at K
        (refine am_go rfl (by first | exact True.intro | omega | exact ⟨by decide, Nat.le_of_ble_eq_true rfl, Nat.le_of_ble_eq_true rfl⟩ | exact ⟨by decide, Nat.le_of_ble_eq_true rfl⟩) ?_)
        refine am_call rfl (ct_admit c1 (by rw [hd.2.1]; omega) (fun u => ?_) (fun u => ?_)) (by decide) (Nat.le_of_ble_eq_true rfl) (Nat.le_of_ble_eq_true rfl) (Nat.le_of_ble_eq_true rfl) (fun rv s q => ?_)
        · rw [hd.2.1]
          exact ((zRS_2 hRS).1 u).symm
        · rw [hd.2.1]
          exact ((zRS_2 hRS).2 u).symm
        · obtain ⟨rfl, ⟨q1, rfl⟩ | ⟨q1, q2, rfl⟩ | ⟨q1, q2, rfl⟩⟩ := q
          · iterate 2 (refine am_go rfl (by first | exact True.intro | omega | exact ⟨by decide, Nat.le_of_ble_eq_true rfl, Nat.le_of_ble_eq_true rfl⟩ | exact ⟨by decide, Nat.le_of_ble_eq_true rfl⟩) ?_)
            exact K F1 G1 c a b ⟨zPm_1 c1, hFA, hFW, hGL, hAk, h22, A1 q1⟩
          · iterate 2 (refine am_go rfl (by first | exact True.intro | omega | exact ⟨by decide, Nat.le_of_ble_eq_true rfl, Nat.le_of_ble_eq_true rfl⟩ | exact ⟨by decide, Nat.le_of_ble_eq_true rfl⟩) ?_)
            exact K F1 G1 a c b ⟨zPm_2 c1, hFA, hFW, hGL, hAk, h22, A2 q1 q2⟩
          · iterate 2 (refine am_go rfl (by first | exact True.intro | omega | exact ⟨by decide, Nat.le_of_ble_eq_true rfl, Nat.le_of_ble_eq_true rfl⟩ | exact ⟨by decide, Nat.le_of_ble_eq_true rfl⟩) ?_)
            exact K F1 G1 a b c ⟨c1, hFA, hFW, hGL, hAk, h22, A3 q1 q2⟩
theorem zSuf_f14 (f : Nat → Nat → Int) (g : Nat → Int → Int) (u v : Int) : ∀ (n : Nat) (x y z : Int), zSuf (am_u1 f 22 14 u) g v n x y z = zSuf f g v n x y z := by
  have e12 : am_u1 f 22 14 u 12 0 = f 12 0 := am_u1_c (by decide)
  have e18 : am_u1 f 22 14 u 18 0 = f 18 0 := am_u1_c (by decide)
  have hm : ∀ k x, zMf (am_u1 f 22 14 u) g v k x = zMf f g v k x := by
    intro k x
    unfold zMf zFit
    rw [e18]
  intro n
  induction n with
  | zero => intro x y z; simp only [zSuf, e12]
  | succ n ih => intro x y z; simp only [zSuf, hm, ih]
set_option maxRecDepth 100000 in
set_option maxHeartbeats 4000000 in
theorem ct_assume (v : Int) (T : List (Int × List Int)) (hp : zPm a b c) (hI : zI f g) (hR : zRchd f g) (h0 : g 32 0 = 1) (hA : zAok g) (hT : zRS g (f 2 0).toNat f g a b T) : am_Ct l dC dI tc mm4_assume 3 58 [(.inr (.inr (some 22))), .inl v] (58, f, g, pr_r a b c) (fun r s => r = none ∧ ∃ F G a' b' c', s = (58, F, G, pr_r a' b' c') ∧ zPm a' b' c' ∧ zFrA F f G g ∧ zAok G ∧ zRS g (f 2 0).toNat F G a' b' (zAd (f 2 0).toNat (zt2 (zSuf f g v (f 2 0).toNat 0 0 0)) 1 (zAd (f 2 0).toNat (zt2 (zSuf f g v (f 2 0).toNat 0 0 0)) 0 T))) := by
  have e2 : am_u1 f 22 14 v 2 0 = f 2 0 := am_u1_c (by decide)
  have e12 : am_u1 f 22 14 v 12 0 = f 12 0 := am_u1_c (by decide)
  have e18 : am_u1 f 22 14 v 18 0 = f 18 0 := am_u1_c (by decide)
  have hI1 : zI (am_u1 f 22 14 v) g := by
    unfold zI at hI ⊢
    rw [e2, e12, e18]
    exact hI
  have hR1 : zRchd (am_u1 f 22 14 v) g := by
    unfold zRchd at hR ⊢
    rw [e2]
    exact hR
  obtain ⟨-, -, m6, m7, -⟩ := zPm_a hp
  obtain ⟨z1, z2, z3, z4⟩ := zPm_z hp
  have hT1 : ∀ G, zFrX G g → zRS g (f 2 0).toNat (am_u1 f 22 14 v) G a b T := fun G hX => zRS_fr hT (fun j => am_u1_c m6) (fun j => am_u1_c m7) (fun j => hX _ j z1) (fun j => hX _ j z2) (fun j => hX _ j z3) (fun j => hX _ j z4)
  clear z1 z2 z3 z4 m6 m7
  refine am_enter ok_4_assume rfl (by decide) (Nat.le_of_ble_eq_true rfl) rfl ?_
  iterate 3 (refine am_go rfl (by first | exact True.intro | omega | exact ⟨by decide, Nat.le_of_ble_eq_true rfl, Nat.le_of_ble_eq_true rfl⟩ | exact ⟨by decide, Nat.le_of_ble_eq_true rfl⟩) ?_)
  refine wp_table v hI1 hR1 hA am_u1_s none (fun G o3 o4 hF hAG hG => ?_)
  iterate 2 (refine am_go rfl (by first | exact True.intro | omega | exact ⟨by decide, Nat.le_of_ble_eq_true rfl, Nat.le_of_ble_eq_true rfl⟩ | exact ⟨by decide, Nat.le_of_ble_eq_true rfl⟩) ?_)
  refine wp_admit v hI1 hR1 h0 0 (Or.inl rfl) _ G T o3 o4 ⟨hp, ⟨fun _ _ _ _ => rfl, fun x j x1 x2 => hF x j x1⟩, hF.W, hG, hAG, fun _ => rfl, ?_⟩ (fun F1 G1 a1 b1 c1 hC1 => ?_)
  · rw [e2]
    exact hT1 G hF
  · refine wp_admit v hI1 hR1 h0 1 (Or.inr rfl) F1 G1 _ o3 o4 hC1 (fun F2 G2 a2 b2 c2 hC2 => ?_)
    obtain ⟨d1, d2, d3, d4, d5, d6, d7⟩ := hC2
    iterate 2 (refine am_go rfl (by first | exact True.intro | omega | exact ⟨by decide, Nat.le_of_ble_eq_true rfl, Nat.le_of_ble_eq_true rfl⟩ | exact ⟨by decide, Nat.le_of_ble_eq_true rfl⟩) ?_)
    refine am_if rfl (fun u1 => ?_) (fun u1 => ?_)
    · refine am_vret (x := 0) rfl rfl rfl ⟨rfl, F2, G2, a2, b2, c2, rfl, d1, ⟨fun x j x1 x2 => (d2.1 x j x1 x2).trans (am_u1_ne x2), d2.2⟩, d5, ?_⟩
      rw [e2, zSuf_f14] at d7
      exact d7
    · omega
end Asm2

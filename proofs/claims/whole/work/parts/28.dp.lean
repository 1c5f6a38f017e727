section Dp
variable {f : Nat → Nat → Int} {g : Nat → Int → Int} {v x y z : Int} {n : Nat}
/-- what the i-th alternative gives -/
noncomputable def zAi (f : Nat → Nat → Int) (g : Nat → Int → Int) (v : Int) (n : Nat) (x y z : Int) (i : Nat) : List (Int × List Int) := if g 15 (zAlt y z i) = g 3 x ∧ (g 3 x ≠ 7 ∨ g 16 (zAlt y z i) = v) then zExt i (g 17 (zAlt y z i) + zMf f g v (g 3 x) (g 16 (zAlt y z i))) (zSB f g v n x (zBeh g x y (z + 1))) else []
noncomputable def zMi (f : Nat → Nat → Int) (g : Nat → Int → Int) (v : Int) (n : Nat) (x y z : Int) : List (Int × List Int) := if g 4 x ≠ -1 ∧ (g 3 x ≠ 7 ∨ v = -1) then zExt 4 (g 4 x) (zSB f g v n x (zBeh g x y z)) else []
theorem zSuf_s : zSuf f g v (n + 1) x y z = (List.range (zNa g y z).toNat).flatMap (zAi f g v n x y z) ++ zMi f g v n x y z := rfl
theorem zLp_ok (hI : zI f g) (hx : 0 ≤ x) (hn : x + (n + 1 : Nat) ≤ f 2 0) (h1 : zKd g y z (g 3 x) → 0 ≤ zBeh g x y (z + 1) → zGd f g v n (x + 1) (zBeh g x y (z + 1) / 6 % 7) (zBeh g x y (z + 1) % 6) (zRow g (zBeh g x y (z + 1)))) :
    ∀ (m i : Nat) (w : zR) (T : List (Int × Int × Int)) (L : List (Int × List Int)), zRep w T → zo2 T → T.map (zLft f g v (n + 1) x y z) = zt2 L → zR01 T → i + m = (zNa g y z).toNat → ∃ T', zRep (zLp f g v x y z m i w) T' ∧ zo2 T' ∧ T'.map (zLft f g v (n + 1) x y z) = zt2 (L ++ (List.range' i m).flatMap (zAi f g v n x y z)) ∧ zR01 T' := by
  intro m
  induction m with
  | zero =>
    intro i w T L hw ho hT h01 hm
    exact ⟨T, hw, ho, by rw [hT]; simp, h01⟩
  | succ m ih =>
    intro i w T L hw ho hT h01 hm
    have step : ∃ T', zRep (zStp f g v x y z i w) T' ∧ zo2 T' ∧ T'.map (zLft f g v (n + 1) x y z) = zt2 (L ++ zAi f g v n x y z i) ∧ zR01 T' := by
      by_cases hc : g 15 (zAlt y z i) = g 3 x ∧ (g 3 x ≠ 7 ∨ g 16 (zAlt y z i) = v)
      · have e1 : zStp f g v x y z i w = zOffB g w i (g 17 (zAlt y z i) + zMf f g v (g 3 x) (g 16 (zAlt y z i))) (zBeh g x y (z + 1)) := if_pos hc
        have e2 : zAi f g v n x y z i = zExt i (g 17 (zAlt y z i) + zMf f g v (g 3 x) (g 16 (zAlt y z i))) (zSB f g v n x (zBeh g x y (z + 1))) := if_pos hc
        have hna := zNa_r hI y z
        have hin := zNa_in (show 0 < zNa g y z by omega)
        have e14 : zNa g y z = g 14 (y * 5 + z) := if_pos hin
        have hal := hI.2.2.2.2.2.1 y z i hin.1.1 hin.1.2 hin.2.1 hin.2.2 (by omega) (by omega)
        have hmf := zMf_r f g v (g 3 x) (g 16 (zAlt y z i))
        rw [e1, e2]
        exact zGd_off hI hx hn hw ho hT h01 (by rw [if_neg (by omega)]) (by omega) (h1 ⟨i, by omega, by omega, hc.1⟩)
      · have e1 : zStp f g v x y z i w = w := if_neg hc
        have e2 : zAi f g v n x y z i = [] := if_neg hc
        rw [e1, e2]
        exact ⟨T, hw, ho, by rw [hT]; simp, h01⟩
    obtain ⟨T1, a1, a2, a3, a4⟩ := step
    obtain ⟨T2, b1, b2, b3, b4⟩ := ih (i + 1) _ T1 _ a1 a2 a3 a4 (by omega)
    refine ⟨T2, b1, b2, ?_, b4⟩
    rw [b3, List.range'_succ, List.flatMap_cons, List.append_assoc]
theorem zW_gd (hI : zI f g) (hx : 0 ≤ x) (hn : x + (n : Int) = f 2 0) (h1 : ∀ m, n = m + 1 → zKd g y z (g 3 x) → 0 ≤ zBeh g x y (z + 1) → zGd f g v m (x + 1) (zBeh g x y (z + 1) / 6 % 7) (zBeh g x y (z + 1) % 6) (zRow g (zBeh g x y (z + 1))))
    (h2 : ∀ m, n = m + 1 → g 4 x ≠ -1 → 0 ≤ zBeh g x y z → zGd f g v m (x + 1) (zBeh g x y z / 6 % 7) (zBeh g x y z % 6) (zRow g (zBeh g x y z))) (w : zR) : zGd f g v n x y z (zW f g v x y z w) := by
  cases n with
  | zero =>
    have e : zW f g v x y z w = (if y = f 12 0 then 0 else 1000000, w.2.1, w.2.2.1, 1000000, w.2.2.2.2.1, w.2.2.2.2.2) := if_pos (by omega)
    rw [e]
    by_cases hy : y = f 12 0
    · refine ⟨[(0, w.2.1, w.2.2.1)], ?_, trivial, ?_, fun h => by omega⟩
      · rw [if_pos hy]
        exact ⟨rfl, rfl, rfl, (by decide : (0 : Int) < 1000000), rfl⟩
      · unfold zSuf
        rw [if_pos hy]
        rfl
    · refine ⟨[], ?_, trivial, ?_, fun h => by omega⟩
      · rw [if_neg hy]
        exact ⟨rfl, rfl⟩
      · unfold zSuf
        rw [if_neg hy]
        rfl
  | succ n =>
    have hf := hI.2.1 x hx (by omega)
    have e : zW f g v x y z w = zMs g v x y z (zLp f g v x y z (zNa g y z).toNat 0 (zW0 w)) := if_neg (by omega)
    rw [e]
    obtain ⟨T, a1, a2, a3, a4⟩ := zLp_ok (v := v) (n := n) (y := y) (z := z) hI hx (by omega) (h1 n rfl) (zNa g y z).toNat 0 (zW0 w) [] [] ⟨rfl, rfl⟩ trivial rfl (fun e he => by cases he) (by omega)
    rw [List.nil_append, ← List.range_eq_range'] at a3
    by_cases hc : g 4 x ≠ -1 ∧ (g 3 x ≠ 7 ∨ v = -1)
    · have e1 : ∀ w, zMs g v x y z w = zOffB g w 4 (g 4 x) (zBeh g x y z) := fun w => if_pos hc
      have e2 : zMi f g v n x y z = zExt 4 (g 4 x) (zSB f g v n x (zBeh g x y z)) := if_pos hc
      rw [e1]
      obtain ⟨T2, b1, b2, b3, b4⟩ := zGd_off (v := v) (n := n) (y := y) (z := z) hI hx (by omega) a1 a2 a3 a4 (ch := 4) (cost := g 4 x) (q := zBeh g x y z) (by rw [if_pos rfl]) (by omega) (h2 n rfl hc.1)
      exact ⟨T2, b1, b2, by rw [b3, zSuf_s, e2], fun _ => b4⟩
    · have e1 : ∀ w, zMs g v x y z w = w := fun w => if_neg hc
      have e2 : zMi f g v n x y z = [] := if_neg hc
      rw [e1]
      exact ⟨T, a1, a2, by rw [a3, zSuf_s, e2, List.append_nil], fun _ => a4⟩
end Dp
/-! rows change nothing of what they are told by -/
def zFrW (G g : Nat → Int → Int) : Prop := ∀ c j, (c ≠ 33 ∧ c ≠ 34 ∧ c ≠ 35) ∧ (c < 23 ∨ 31 < c) → G c j = g c j
def zFrX (G g : Nat → Int → Int) : Prop := ∀ c j, c ≠ 33 ∧ c ≠ 34 ∧ c ≠ 35 → G c j = g c j
theorem zFrX.rw {G g : Nat → Int → Int} (h : zFrX G g) (s : Int) (w : zR) : zFrX (am_rw G s w) g := fun c j hc => (am_rw_c G w hc).trans (h c j hc)
theorem zFrX.W {G g : Nat → Int → Int} (h : zFrX G g) : zFrW G g := fun c j hc => h c j hc.1
theorem zFrW.rf (g : Nat → Int → Int) : zFrW g g := fun _ _ _ => rfl
theorem zFrW.rw {G g : Nat → Int → Int} (h : zFrW G g) (s : Int) (w : zR) : zFrW (am_rw G s w) g := fun c j hc => (am_rw_c G w hc.1).trans (h c j hc)
theorem zFrW.Na {G g : Nat → Int → Int} (h : zFrW G g) (x y : Int) : zNa G x y = zNa g x y := zNa_fr (fun j => h 14 j (by decide)) x y
theorem zFrW.Pl {G g : Nat → Int → Int} (h : zFrW G g) (x : Int) : zPl G x = zPl g x := zPl_fr (fun j => h 13 j (by decide)) x
theorem zFrW.Beh {G g : Nat → Int → Int} (h : zFrW G g) (x y z : Int) : zBeh G x y z = zBeh g x y z := by
  unfold zBeh
  rw [h 5 _ (by decide), h.Pl]
theorem zFrW.Kd {G g : Nat → Int → Int} (h : zFrW G g) (y z k : Int) : zKd G y z k ↔ zKd g y z k := by
  unfold zKd
  rw [h.Na]
  simp only [h 15 _ (by decide)]
theorem zFrW.Fit {G g : Nat → Int → Int} (h : zFrW G g) (f : Nat → Nat → Int) (k x y : Int) : zFit f G k x y ↔ zFit f g k x y := by
  unfold zFit
  simp only [h 19 _ (by decide), h 20 _ (by decide), h 21 _ (by decide)]
theorem zFrW.Mf {G g : Nat → Int → Int} (h : zFrW G g) (f : Nat → Nat → Int) (v k x : Int) : zMf f G v k x = zMf f g v k x := by
  unfold zMf
  by_cases u : v ≠ -1 ∧ (k = 2 ∨ k = 6) ∧ ¬ zFit f g k x v
  · rw [if_pos u, if_pos ⟨u.1, u.2.1, fun q => u.2.2 ((h.Fit f k x v).mp q)⟩]
  · rw [if_neg u, if_neg (fun q => u ⟨q.1, q.2.1, fun p => q.2.2 ((h.Fit f k x v).mpr p)⟩)]
theorem zFrW.Suf {G g : Nat → Int → Int} (h : zFrW G g) (f : Nat → Nat → Int) (v : Int) : ∀ (n : Nat) (x y z : Int), zSuf f G v n x y z = zSuf f g v n x y z := by
  intro n
  induction n with
  | zero => intro x y z; rfl
  | succ n ih =>
    intro x y z
    simp only [zSuf, h.Na, h.Beh, h.Mf, h 3 _ (by decide), h 4 _ (by decide), h 15 _ (by decide), h 16 _ (by decide), h 17 _ (by decide), ih]
theorem zFrW.Lft {G g : Nat → Int → Int} (h : zFrW G g) (f : Nat → Nat → Int) (v : Int) (n : Nat) (x y z : Int) : zLft f G v n x y z = zLft f g v n x y z := by
  funext e
  cases n with
  | zero => rfl
  | succ n => simp only [zLft, zSB, h.Beh, h.Suf]
theorem zFrW.Gd {G g : Nat → Int → Int} (h : zFrW G g) {f : Nat → Nat → Int} {v : Int} {n : Nat} {x y z : Int} {u : zR} : zGd f G v n x y z u ↔ zGd f g v n x y z u := by
  unfold zGd
  rw [h.Lft, h.Suf]
theorem zFrW.I {G g : Nat → Int → Int} (h : zFrW G g) {f : Nat → Nat → Int} (hI : zI f g) : zI f G := by
  unfold zI at hI ⊢
  simp only [h 3 _ (by decide), h 4 _ (by decide), h 5 _ (by decide), h 13 _ (by decide), h 14 _ (by decide), h 16 _ (by decide), h 17 _ (by decide)]
  exact hI
/-- a row that tells has sums in bounds -/
theorem zGd_ok {f : Nat → Nat → Int} {g : Nat → Int → Int} {v : Int} {n : Nat} {x y z : Int} {w : zR} (hI : zI f g) (hx : 0 ≤ x) (hn : x + (n : Int) ≤ f 2 0) (h : zGd f g v n x y z w) : (0 ≤ w.1 ∧ w.1 ≤ 1000000) ∧ (0 ≤ w.2.2.2.1 ∧ w.2.2.2.1 ≤ 1000000) := by
  obtain ⟨T, h1, h2, h3, -⟩ := h
  have hb : ∀ e ∈ T, 0 ≤ e.1 := by
    intro e he
    have hm : zLft f g v n x y z e ∈ zt2 (zSuf f g v n x y z) := by
      rw [← h3]
      exact List.mem_map.mpr ⟨e, he, rfl⟩
    have := zSuf_b hI n x y z hx hn _ (zt2_mem hm)
    rw [zLft_1] at this
    exact this.1
  match T, h1 with
  | [], h1 =>
    obtain ⟨a1, a2⟩ := h1
    omega
  | [a], h1 =>
    obtain ⟨a1, a2, a3, a4, a5⟩ := h1
    have := hb a (by simp)
    omega
  | [a, b], h1 =>
    obtain ⟨a1, a2, a3, a4, a5, a6, a7, a8⟩ := h1
    have := hb a (by simp)
    have := hb b (by simp)
    omega

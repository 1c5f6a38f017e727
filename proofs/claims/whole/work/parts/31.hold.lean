/-! readings that objects hold; which is before which; what assume does -/
def zCs (e : Int × List Int) : Nat → Int := fun k => e.2.getD k 0
def zHd (g0 : Nat → Int → Int) (N : Nat) (f : Nat → Nat → Int) (g : Nat → Int → Int) (q : Nat) (e : Int × List Int) : Prop :=
  f q 1 = e.1 ∧ f q 2 = N ∧ f q 0 = (zPa g0 (zCs e) N).2.2 ∧ (∀ k : Nat, k < N → g (q + 1) k = zCs e k) ∧
  ∀ k : Nat, k < N → zCs e k ≠ 4 → g (q + 2) ((zPa g0 (zCs e) k).2.2 * 5) = g0 3 k ∧ g (q + 2) ((zPa g0 (zCs e) k).2.2 * 5 + 1) = (zPa g0 (zCs e) k).1 ∧ g (q + 2) ((zPa g0 (zCs e) k).2.2 * 5 + 2) = (zPa g0 (zCs e) k).2.1 ∧ g (q + 2) ((zPa g0 (zCs e) k).2.2 * 5 + 3) = g0 16 (zAlt (zPa g0 (zCs e) k).1 (zPa g0 (zCs e) k).2.1 (zCs e k)) ∧ g (q + 2) ((zPa g0 (zCs e) k).2.2 * 5 + 4) = zCs e k
theorem zPa_n (g : Nat → Int → Int) (cs : Nat → Int) : ∀ k : Nat, 0 ≤ (zPa g cs k).2.2 ∧ (zPa g cs k).2.2 ≤ k := by
  intro k
  induction k with
  | zero => simp [zPa]
  | succ k ih =>
    simp only [zPa]
    split <;> split <;> simp only [] <;> omega
theorem zHd_0 {g0 : Nat → Int → Int} {N : Nat} {f : Nat → Nat → Int} {g : Nat → Int → Int} {q : Nat} {e : Int × List Int} (h : zHd g0 N f g q e) : 0 ≤ f q 0 ∧ f q 0 ≤ N := by
  rw [h.2.2.1]
  exact zPa_n g0 (zCs e) N
theorem zHd_fr {g0 : Nat → Int → Int} {N : Nat} {f F : Nat → Nat → Int} {g G : Nat → Int → Int} {q : Nat} {e : Int × List Int} (h : zHd g0 N f g q e) (hf : ∀ j, F q j = f q j) (h1 : ∀ j, G (q + 1) j = g (q + 1) j) (h2 : ∀ j, G (q + 2) j = g (q + 2) j) : zHd g0 N F G q e := by
  unfold zHd at h ⊢
  simp only [hf, h1, h2]
  exact h
/-- the order of readings -/
def zLt (N : Nat) (d e : Int × List Int) : Prop := d.1 < e.1 ∨ (d.1 = e.1 ∧ ∃ k : Nat, k < N ∧ (∀ j : Nat, j < k → zCs d j = zCs e j) ∧ zCs d k < zCs e k)
theorem zBf_lt {g0 : Nat → Int → Int} {N : Nat} {f : Nat → Nat → Int} {g : Nat → Int → Int} {p q : Nat} {d e : Int × List Int} (hp : zHd g0 N f g p d) (hq : zHd g0 N f g q e) : zBf f g p q ↔ zLt N d e := by
  unfold zBf zLt
  rw [hp.1, hq.1, hp.2.1]
  refine or_congr Iff.rfl (and_congr Iff.rfl ⟨?_, ?_⟩)
  · rintro ⟨k, k1, k2, k3, k4⟩
    obtain ⟨n, rfl⟩ := Int.eq_ofNat_of_zero_le k1
    refine ⟨n, by omega, fun j hj => ?_, ?_⟩
    · rw [← hp.2.2.2.1 j (by omega), ← hq.2.2.2.1 j (by omega)]
      exact k3 j (by omega) (by omega)
    · rw [← hp.2.2.2.1 n (by omega), ← hq.2.2.2.1 n (by omega)]
      exact k4
  · rintro ⟨n, n1, n2, n3⟩
    refine ⟨n, by omega, by omega, fun j j1 j2 => ?_, ?_⟩
    · obtain ⟨i, rfl⟩ := Int.eq_ofNat_of_zero_le j1
      rw [hp.2.2.2.1 i (by omega), hq.2.2.2.1 i (by omega)]
      exact n2 i (by omega)
    · rw [hp.2.2.2.1 n (by omega), hq.2.2.2.1 n (by omega)]
      exact n3
noncomputable def zj2 (N : Nat) (T : List (Int × List Int)) (x : Int × List Int) : List (Int × List Int) := match T with
  | [] => [x]
  | [a] => @ite _ (zLt N x a) (Classical.propDecidable _) [x, a] [a, x]
  | a :: b :: _ => @ite _ (zLt N x a) (Classical.propDecidable _) [x, a] (@ite _ (zLt N x b) (Classical.propDecidable _) [a, x] [a, b])
def zNil (f : Nat → Nat → Int) (q : Nat) : Prop := f q 0 = -1 ∧ f q 1 = -1
/-- first and second hold a list of at most two -/
def zRS (g0 : Nat → Int → Int) (N : Nat) (f : Nat → Nat → Int) (g : Nat → Int → Int) (a b : Nat) (T : List (Int × List Int)) : Prop := match T with
  | [] => zNil f a ∧ zNil f b
  | [d] => zHd g0 N f g a d ∧ zNil f b
  | [d, e] => zHd g0 N f g a d ∧ zHd g0 N f g b e
  | _ => False
/-- nothing has changed but readings, the table and what is assumed -/
def zFrA (F f : Nat → Nat → Int) (G g : Nat → Int → Int) : Prop := (∀ x j, x ≠ 23 ∧ x ≠ 26 ∧ x ≠ 29 → x ≠ 22 ∨ j ≠ 14 → F x j = f x j) ∧ ∀ x j, (x ≠ 33 ∧ x ≠ 34 ∧ x ≠ 35) → (x < 23 ∨ 31 < x) → G x j = g x j
theorem zFrA.tr {F f1 f : Nat → Nat → Int} {G g1 g : Nat → Int → Int} (h : zFrA F f1 G g1) (h2 : zFrA f1 f g1 g) : zFrA F f G g := ⟨fun x j a1 a2 => (h.1 x j a1 a2).trans (h2.1 x j a1 a2), fun x j a1 a2 => (h.2 x j a1 a2).trans (h2.2 x j a1 a2)⟩
theorem zSeg_all {f : Nat → Nat → Int} {g G : Nat → Int → Int} {v : Int} (hI : zI f g) (hR : zRchd f g) (hF : zFrW G g) (hG : zGL f g v G 0 0 0) (h0 : g 32 0 = 1) {rk : Int} (hr : rk = 0 ∨ rk = 1) {e : Int × List Int} (he : (zt2 (zSuf f g v (f 2 0).toNat 0 0 0))[rk.toNat]? = some e) : ∀ k : Nat, (k : Int) ≤ f 2 0 → zSeg f g G v rk e.2 k := by
  intro k
  induction k with
  | zero =>
    intro _
    have i3 := hI.2.2.1
    exact ⟨rk, hr, by simp [zTr, zSt], by simp only [zTr]; omega, by simp only [zTr]; exact ⟨by omega, (zPl_r hI 0).1⟩, h0, fun _ => ⟨e, he, rfl⟩⟩
  | succ k ih =>
    intro hk
    exact (zSeg_s hI hR hF hG (by omega) (ih (by omega))).1
theorem zTok_of {f : Nat → Nat → Int} {g G : Nat → Int → Int} {v : Int} (hI : zI f g) (hR : zRchd f g) (hF : zFrW G g) (hG : zGL f g v G 0 0 0) (h0 : g 32 0 = 1) {rk : Int} (hr : rk = 0 ∨ rk = 1) {e : Int × List Int} (he : (zt2 (zSuf f g v (f 2 0).toNat 0 0 0))[rk.toNat]? = some e) :
    zTok f G rk ∧ ∀ k : Nat, (k : Int) < f 2 0 → G 34 (zTr G rk k).1 = zCs e k := by
  have i1 := hI.1
  have i3 := hI.2.2.1
  have all := zSeg_all hI hR hF hG h0 hr he
  refine ⟨fun k hk => ?_, fun k hk => ?_⟩
  · obtain ⟨r, h1, h2, h3, h4, h5, h6⟩ := all k (by omega)
    obtain ⟨-, b1, b2, b3⟩ := zSeg_s hI hR hF hG hk (all k (by omega))
    have hp := zPl_r hI (zTr G rk k).2.1
    have hna := zNa_r hI (zTr G rk k).2.1 (zTr G rk k).2.2.1
    refine ⟨by rw [h2]; unfold zSt; omega, by omega, by omega, by omega, fun hne => ?_, fun h6 => ?_⟩
    · have hin := zNa_in (show 0 < zNa g (zTr G rk k).2.1 (zTr G rk k).2.2.1 by omega)
      exact ⟨hin, by omega⟩
    · have : zPl g (zTr G rk k).2.1 = 0 := by
        unfold zPl
        rw [if_neg (by omega)]
      omega
  · obtain ⟨-, b1, b2, b3⟩ := zSeg_s hI hR hF hG hk (all k (by omega))
    unfold zCs
    rw [List.getD_eq_getElem?_getD, b1]
    rfl
/-- what trace has written holds the reading -/
theorem zHd_of {f f' : Nat → Nat → Int} {g G g' : Nat → Int → Int} {v : Int} (hI : zI f g) (hR : zRchd f g) (hF : zFrW G g) (hG : zGL f g v G 0 0 0) (h0 : g 32 0 = 1) {rk : Int} (hr : rk = 0 ∨ rk = 1) {e : Int × List Int} (he : (zt2 (zSuf f g v (f 2 0).toNat 0 0 0))[rk.toNat]? = some e) {q : Nat} (h : zRdN G rk f' g' q (f 2 0).toNat) : zHd g (f 2 0).toNat f' g' q e := by
  have i1 := hI.1
  obtain ⟨-, hc⟩ := zTok_of hI hR hF hG h0 hr he
  have hpa : ∀ k : Nat, (k : Int) ≤ f 2 0 → (zTr G rk k).2 = zPa g (zCs e) k := fun k hk => zTr_pa (fun j => hF 5 j (by decide)) k (fun j hj => hc j (by omega))
  obtain ⟨a1, a2, a3, a4, a5⟩ := h
  refine ⟨?_, a2, ?_, fun k hk => ?_, fun k hk hne => ?_⟩
  · rw [a1]
    obtain ⟨T, t1, t2, t3, t4⟩ := hG 0 0 0 (Or.inl (by omega)) (by omega) ⟨by omega, hI.2.2.1.1⟩ ⟨by omega, (zPl_r hI 0).1⟩ h0
    have t3 : T.map (zLft f g v ((f 2 0).toNat - 0) 0 0 0) = zt2 (zSuf f g v (f 2 0).toNat 0 0 0) := t3
    rw [← t3, List.getElem?_map] at he
    cases hT : T[rk.toNat]? with
    | none => rw [hT] at he; simp at he
    | some e0 =>
      rw [hT, Option.map_some, Option.some.injEq] at he
      have hs := (zRow_at (s := zSt ((0 : Nat) : Int) 0 0) t1 hr hT).1
      rw [← he, zLft_1]
      have e9 : zSt ((0 : Nat) : Int) 0 0 * 2 + rk = rk := by unfold zSt; omega
      rw [e9] at hs
      exact hs
  · rw [a3, ← hpa _ (by omega)]
  · rw [a4 k hk]
    exact hc k (by omega)
  · have h9 := a5 k hk (by rw [hc k (by omega)]; exact hne)
    have e1 : (zTr G rk k).2.1 = (zPa g (zCs e) k).1 := by rw [← hpa k (by omega)]
    have e2 : (zTr G rk k).2.2.1 = (zPa g (zCs e) k).2.1 := by rw [← hpa k (by omega)]
    have e3 : (zTr G rk k).2.2.2 = (zPa g (zCs e) k).2.2 := by rw [← hpa k (by omega)]
    rw [e1, e2, e3, hc k (by omega), hF 3 _ (by decide), hF 16 _ (by decide)] at h9
    exact h9

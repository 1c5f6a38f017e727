/-! the readings that a form and lines allow; how the reference goes through them -/
def zZz (g : Nat → Int → Int) (cs : Nat → Int) (k : Nat) : Int := if cs k = 4 then (zPa g cs k).2.1 else (zPa g cs k).2.1 + 1
def zGo (g : Nat → Int → Int) (cs : Nat → Int) (k : Nat) : Prop := g 5 k = 0 ∨ zZz g cs k = 0 ∨ zZz g cs k = zPl g (zPa g cs k).1
def zCan (g : Nat → Int → Int) (cs : Nat → Int) (k : Nat) : Prop := (cs k = 4 ∧ g 4 k ≠ -1) ∨ (cs k ≠ 4 ∧ cs k < zNa g (zPa g cs k).1 (zPa g cs k).2.1 ∧ g 15 (zAlt (zPa g cs k).1 (zPa g cs k).2.1 (cs k)) = g 3 k)
def zBd (f : Nat → Nat → Int) (g : Nat → Int → Int) (cs : Nat → Int) (k : Nat) : Prop := (0 ≤ (zPa g cs k).1 ∧ (zPa g cs k).1 ≤ f 12 0) ∧ (0 ≤ (zPa g cs k).2.1 ∧ (zPa g cs k).2.1 ≤ zPl g (zPa g cs k).1)
/-- a reading -/
def zVd (f : Nat → Nat → Int) (g : Nat → Int → Int) (N : Nat) (e : Int × List Int) : Prop := e.2.length = N ∧ (∀ k : Nat, k < N → zVl f g (zCs e) k ∧ zGo g (zCs e) k) ∧ (zPa g (zCs e) N).1 = f 12 0 ∧ e.1 = zTt f g (zCs e) N
theorem zPa_s (g : Nat → Int → Int) (cs : Nat → Int) (k : Nat) : ((g 5 k = 0 ∨ zZz g cs k ≤ 0) ∧ (zPa g cs (k + 1)).1 = (zPa g cs k).1 ∧ (zPa g cs (k + 1)).2.1 = zZz g cs k) ∨ (¬ (g 5 k = 0 ∨ zZz g cs k ≤ 0) ∧ (zPa g cs (k + 1)).1 = (zPa g cs k).1 + 1 ∧ (zPa g cs (k + 1)).2.1 = 0) := by
  by_cases h : g 5 k = 0 ∨ zZz g cs k ≤ 0
  · refine Or.inl ⟨h, ?_⟩
    unfold zZz at h ⊢
    simp only [zPa]
    rw [if_pos h]
    exact ⟨rfl, rfl⟩
  · refine Or.inr ⟨h, ?_⟩
    unfold zZz at h
    simp only [zPa]
    rw [if_neg h]
    exact ⟨rfl, rfl⟩
theorem zVl_can {f : Nat → Nat → Int} {g : Nat → Int → Int} {cs : Nat → Int} {k : Nat} : zVl f g cs k ↔ (0 ≤ cs k ∧ cs k ≤ 4) ∧ zBd f g cs k ∧ zCan g cs k := by
  unfold zVl zBd zCan
  constructor
  · rintro ⟨h1, h2, h3, h4⟩
    exact ⟨h1, ⟨h2, h3⟩, h4⟩
  · rintro ⟨h1, ⟨h2, h3⟩, h4⟩
    exact ⟨h1, h2, h3, h4⟩
theorem zZz_r {f : Nat → Nat → Int} {g : Nat → Int → Int} {cs : Nat → Int} {k : Nat} (hI : zI f g) (h : zVl f g cs k) : 0 ≤ zZz g cs k ∧ zZz g cs k ≤ zPl g (zPa g cs k).1 ∧ (0 < zZz g cs k → (zPa g cs k).1 < f 12 0) := by
  obtain ⟨h1, h2, h3, h4⟩ := h
  have key : zZz g cs k ≤ zPl g (zPa g cs k).1 ∧ 0 ≤ zZz g cs k := by
    unfold zZz
    split
    · omega
    · rename_i c
      rcases h4 with h4 | h4
      · exact absurd h4.1 c
      · have := zNa_lt hI (show 0 < zNa g (zPa g cs k).1 (zPa g cs k).2.1 by omega)
        omega
  exact ⟨key.2, key.1, fun u => zPl_lt hI h2.1 (by omega)⟩
theorem zBd_s {f : Nat → Nat → Int} {g : Nat → Int → Int} {cs : Nat → Int} {k : Nat} (hI : zI f g) (h : zVl f g cs k) (hg : zGo g cs k) : zBd f g cs (k + 1) := by
  have hz := zZz_r hI h
  obtain ⟨h1, h2, h3, h4⟩ := h
  unfold zBd
  rcases zPa_s g cs k with ⟨c, e1, e2⟩ | ⟨c, e1, e2⟩
  · rw [e1, e2]
    exact ⟨h2, hz.1, hz.2.1⟩
  · rw [e1, e2]
    have := hz.2.2 (by omega)
    exact ⟨by omega, by omega, (zPl_r hI _).1⟩
theorem zBd_0 {f : Nat → Nat → Int} {g : Nat → Int → Int} (hI : zI f g) (cs : Nat → Int) : zBd f g cs 0 := ⟨⟨Int.le_refl 0, hI.2.2.1.1⟩, Int.le_refl 0, (zPl_r hI _).1⟩
section Congr
variable {f : Nat → Nat → Int} {g : Nat → Int → Int} {cs cs' : Nat → Int} {k : Nat}
theorem zVl_congr (h : ∀ i : Nat, i < k + 1 → cs i = cs' i) : zVl f g cs k ↔ zVl f g cs' k := by
  unfold zVl
  rw [zPa_congr (fun i hi => h i (by omega)), h k (by omega)]
theorem zZz_congr (h : ∀ i : Nat, i < k + 1 → cs i = cs' i) : zZz g cs k = zZz g cs' k := by
  unfold zZz
  rw [zPa_congr (fun i hi => h i (by omega)), h k (by omega)]
theorem zGo_congr (h : ∀ i : Nat, i < k + 1 → cs i = cs' i) : zGo g cs k ↔ zGo g cs' k := by
  unfold zGo
  rw [zZz_congr h, zPa_congr (fun i hi => h i (by omega))]
theorem zVo_congr (kd : Int) : ∀ {k : Nat}, (∀ i : Nat, i < k → cs i = cs' i) → zVo g cs kd k = zVo g cs' kd k := by
  intro k
  induction k with
  | zero => intro _; rfl
  | succ k ih =>
    intro h
    simp only [zVo]
    rw [zPa_congr (fun i hi => h i (by omega)), h k (by omega), ih (fun i hi => h i (by omega))]
theorem zCo_congr (h : ∀ i : Nat, i < k + 1 → cs i = cs' i) : zCo g cs k = zCo g cs' k := by
  unfold zCo
  rw [zPa_congr (fun i hi => h i (by omega)), h k (by omega)]
theorem zSm_congr (v : Int) : ∀ {k : Nat}, (∀ i : Nat, i < k → cs i = cs' i) → zSm g cs v k = zSm g cs' v k := by
  intro k
  induction k with
  | zero => intro _; rfl
  | succ k ih =>
    intro h
    simp only [zSm]
    rw [zCo_congr h, ih (fun i hi => h i (by omega))]
theorem zEx_congr (kd : Int) (h : ∀ i : Nat, i < k → cs i = cs' i) : zEx f g cs k kd = zEx f g cs' k kd := by
  unfold zEx
  rw [zVo_congr kd h, zVo_congr 7 h]
theorem zTt_congr (h : ∀ i : Nat, i < k → cs i = cs' i) : zTt f g cs k = zTt f g cs' k := by
  unfold zTt
  rw [zEx_congr 2 h, zEx_congr 6 h, zSm_congr _ h]
end Congr
/-- the readings up to a beginning, in the order of choices -/
def zLpr (u w : Nat → Int) (m : Nat) : Prop := ∃ j : Nat, j < m ∧ (∀ i : Nat, i < j → u i = w i) ∧ u j < w j
def zDn (f : Nat → Nat → Int) (g : Nat → Int → Int) (N : Nat) (cs : Nat → Int) (m : Nat) (e : Int × List Int) : Prop := zVd f g N e ∧ (zLpr (zCs e) cs m ∨ ∀ i : Nat, i < m → zCs e i = cs i)
section Dn
variable {f : Nat → Nat → Int} {g : Nat → Int → Int} {N : Nat} {cs cs' : Nat → Int} {k : Nat} {e : Int × List Int}
theorem zVd.r (h : zVd f g N e) {i : Nat} (hi : i < N) : 0 ≤ zCs e i ∧ zCs e i ≤ 4 := (h.2.1 i hi).1.1
theorem zDn_inc (hc : ∀ i : Nat, i < k → cs' i = cs i) (hk : cs' k = cs k + 1) (hno : zVd f g N e → (∀ i : Nat, i < k + 1 → zCs e i = cs' i) → False) : zDn f g N cs (k + 1) e ↔ zDn f g N cs' (k + 1) e := by
  refine and_congr_right (fun hv => ⟨?_, ?_⟩)
  · rintro (⟨j, j1, j2, j3⟩ | h)
    · refine Or.inl ⟨j, j1, fun i hi => (j2 i hi).trans (hc i (by omega)).symm, ?_⟩
      by_cases c : j = k
      · rw [c] at j3 ⊢
        omega
      · rw [hc j (by omega)]
        exact j3
    · exact Or.inl ⟨k, by omega, fun i hi => (h i (by omega)).trans (hc i hi).symm, by rw [h k (by omega)]; omega⟩
  · rintro (⟨j, j1, j2, j3⟩ | h)
    · by_cases c : j = k
      · subst c
        by_cases c2 : zCs e j < cs j
        · exact Or.inl ⟨j, j1, fun i hi => (j2 i hi).trans (hc i (by omega)), c2⟩
        · refine Or.inr (fun i hi => ?_)
          by_cases c3 : i = j
          · rw [c3]
            omega
          · exact (j2 i (by omega)).trans (hc i (by omega))
      · refine Or.inl ⟨j, j1, fun i hi => (j2 i hi).trans (hc i (by omega)), ?_⟩
        rw [← hc j (by omega)]
        exact j3
    · exact (hno hv h).elim
theorem zDn_up (hk : cs k = 4) (hN : k < N) : zDn f g N cs (k + 1) e ↔ zDn f g N cs k e := by
  refine and_congr_right (fun hv => ⟨?_, ?_⟩)
  · rintro (⟨j, j1, j2, j3⟩ | h)
    · by_cases c : j = k
      · exact Or.inr (fun i hi => j2 i (by omega))
      · exact Or.inl ⟨j, by omega, j2, j3⟩
    · exact Or.inr (fun i hi => h i (by omega))
  · rintro (⟨j, j1, j2, j3⟩ | h)
    · exact Or.inl ⟨j, by omega, j2, j3⟩
    · have hr := hv.r hN
      by_cases c : zCs e k < cs k
      · exact Or.inl ⟨k, by omega, h, c⟩
      · refine Or.inr (fun i hi => ?_)
        by_cases c2 : i = k
        · rw [c2]
          omega
        · exact h i (by omega)
theorem zDn_down (hc : ∀ i : Nat, i < k → cs' i = cs i) (hk : cs' k = cs k + 1) (hk1 : cs' (k + 1) = -1) (hN : k + 1 < N) : zDn f g N cs (k + 1) e ↔ zDn f g N cs' (k + 1 + 1) e := by
  refine and_congr_right (fun hv => ⟨?_, ?_⟩)
  · rintro (⟨j, j1, j2, j3⟩ | h)
    · refine Or.inl ⟨j, by omega, fun i hi => (j2 i hi).trans (hc i (by omega)).symm, ?_⟩
      by_cases c : j = k
      · rw [c] at j3 ⊢
        omega
      · rw [hc j (by omega)]
        exact j3
    · exact Or.inl ⟨k, by omega, fun i hi => (h i (by omega)).trans (hc i hi).symm, by rw [h k (by omega)]; omega⟩
  · have hr := hv.r hN
    rintro (⟨j, j1, j2, j3⟩ | h)
    · by_cases c1 : j = k + 1
      · subst c1
        omega
      · by_cases c : j = k
        · subst c
          by_cases c2 : zCs e j < cs j
          · exact Or.inl ⟨j, by omega, fun i hi => (j2 i hi).trans (hc i (by omega)), c2⟩
          · refine Or.inr (fun i hi => ?_)
            by_cases c3 : i = j
            · rw [c3]
              omega
            · exact (j2 i (by omega)).trans (hc i (by omega))
        · refine Or.inl ⟨j, by omega, fun i hi => (j2 i hi).trans (hc i (by omega)), ?_⟩
          rw [← hc j (by omega)]
          exact j3
    · have := h (k + 1) (by omega)
      omega
theorem zDn_x (hv : ∀ k : Nat, k < N → zVl f g cs k ∧ zGo g cs k) (he : (zPa g cs N).1 = f 12 0) : zVd f g N (zTt f g cs N, (List.range N).map cs) := by
  have hcs : ∀ i : Nat, i < N → zCs (zTt f g cs N, (List.range N).map cs) i = cs i := fun i hi => zCs_r hi
  refine ⟨by simp, fun k hk => ?_, ?_, ?_⟩
  · rw [zVl_congr (fun i hi => hcs i (by omega)), zGo_congr (fun i hi => hcs i (by omega))]
    exact hv k hk
  · rw [zPa_congr (fun i hi => hcs i (by omega))]
    exact he
  · exact (zTt_congr (fun i hi => hcs i (by omega))).symm
theorem zDn_keep (hc : ∀ i : Nat, i < k → cs' i = cs i) (hk : cs' k = cs k + 1) (hN : k + 1 = N) (hx : zVd f g N (zTt f g cs' N, (List.range N).map cs')) : (zDn f g N cs (k + 1) e ∨ e = (zTt f g cs' N, (List.range N).map cs') ↔ zDn f g N cs' (k + 1) e) ∧ (zDn f g N cs (k + 1) e → zLc N e (zTt f g cs' N, (List.range N).map cs')) := by
  have hcs : ∀ i : Nat, i < N → zCs (zTt f g cs' N, (List.range N).map cs') i = cs' i := fun i hi => zCs_r hi
  have fwd : zDn f g N cs (k + 1) e → zLpr (zCs e) cs' (k + 1) := by
    rintro ⟨hv, ⟨j, j1, j2, j3⟩ | h⟩
    · refine ⟨j, by omega, fun i hi => (j2 i hi).trans (hc i (by omega)).symm, ?_⟩
      by_cases c : j = k
      · rw [c] at j3 ⊢
        omega
      · rw [hc j (by omega)]
        exact j3
    · exact ⟨k, by omega, fun i hi => (h i (by omega)).trans (hc i hi).symm, by rw [h k (by omega)]; omega⟩
  refine ⟨⟨?_, ?_⟩, ?_⟩
  · rintro (h | h)
    · exact ⟨h.1, Or.inl (fwd h)⟩
    · rw [h]
      exact ⟨hx, Or.inr (fun i hi => hcs i (by omega))⟩
  · rintro ⟨hv, ⟨j, j1, j2, j3⟩ | h⟩
    · refine Or.inl ⟨hv, ?_⟩
      by_cases c : j = k
      · subst c
        by_cases c2 : zCs e j < cs j
        · exact Or.inl ⟨j, j1, fun i hi => (j2 i hi).trans (hc i (by omega)), c2⟩
        · refine Or.inr (fun i hi => ?_)
          by_cases c3 : i = j
          · rw [c3]
            omega
          · exact (j2 i (by omega)).trans (hc i (by omega))
      · refine Or.inl ⟨j, j1, fun i hi => (j2 i hi).trans (hc i (by omega)), ?_⟩
        rw [← hc j (by omega)]
        exact j3
    · refine Or.inr (zCs_ext hv.1 hx.1 ?_ (fun i hi => by rw [hcs i hi]; exact h i (by omega)))
      rw [hv.2.2.2]
      exact zTt_congr (fun i hi => h i (by omega))
  · intro h
    obtain ⟨j, j1, j2, j3⟩ := fwd h
    exact ⟨j, by omega, fun i hi => by rw [hcs i (by omega)]; exact j2 i hi, by rw [hcs j (by omega)]; exact j3⟩
end Dn
/-- nothing has changed but what the reference's search writes -/
def zFrO (F f : Nat → Nat → Int) (G g : Nat → Int → Int) : Prop := (∀ x j, x ≠ 38 ∨ (j ≠ 21 ∧ j ≠ 22) → F x j = f x j) ∧ ∀ x j, x < 52 ∨ 56 < x → G x j = g x j
section Fro
variable {F f : Nat → Nat → Int} {G g : Nat → Int → Int}
theorem zFrO.d (h : zFrO F f G g) : zFrD F f G g := ⟨fun c j hc => h.1 c j (by unfold zDf at hc; omega), fun c j hc => h.2 c j (by unfold zDg at hc; omega)⟩
theorem zFrO.tr {F1 : Nat → Nat → Int} {G1 : Nat → Int → Int} (h : zFrO F F1 G G1) (h2 : zFrO F1 f G1 g) : zFrO F f G g := ⟨fun x j hx => (h.1 x j hx).trans (h2.1 x j hx), fun x j hx => (h.2 x j hx).trans (h2.2 x j hx)⟩
theorem zFrO.k (h : zFrK F f G g) : zFrO F f G g := ⟨fun x j hx => h.1 x j (by omega), fun x j hx => h.2 x j (by omega)⟩
theorem zFrD.pl (h : zFrD F f G g) (y : Int) : zPl G y = zPl g y := by
  unfold zPl
  rw [h.2 13 y (by unfold zDg; omega)]
theorem zFrD.na1 (h : zFrD F f G g) (y z : Int) : zNa G y z = zNa g y z := by
  unfold zNa
  rw [h.2 14 _ (by unfold zDg; omega)]
theorem zFrD.pa (h : zFrD F f G g) (cs : Nat → Int) : ∀ k : Nat, zPa G cs k = zPa g cs k := by
  intro k
  induction k with
  | zero => rfl
  | succ k ih =>
    simp only [zPa]
    rw [ih, h.2 5 k (by unfold zDg; omega)]
theorem zFrD.vo (h : zFrD F f G g) (cs : Nat → Int) (kd : Int) : ∀ k : Nat, zVo G cs kd k = zVo g cs kd k := by
  intro k
  induction k with
  | zero => rfl
  | succ k ih =>
    simp only [zVo]
    rw [ih, h.pa, h.2 3 k (by unfold zDg; omega), h.2 16 _ (by unfold zDg; omega)]
theorem zFrD.fit (h : zFrD F f G g) (k v w : Int) : zFit F G k v w ↔ zFit f g k v w := by
  unfold zFit
  rw [h.1 18 0 (by unfold zDf; omega)]
  simp only [h.2 19 _ (show zDg 19 by unfold zDg; omega), h.2 20 _ (show zDg 20 by unfold zDg; omega), h.2 21 _ (show zDg 21 by unfold zDg; omega)]
theorem zFrD.ex (h : zFrD F f G g) (cs : Nat → Int) (N : Nat) (kd : Int) : zEx F G cs N kd = zEx f g cs N kd := by
  have e : (zVo G cs kd N ≠ -1 ∧ zVo G cs 7 N ≠ -1 ∧ ¬ zFit F G kd (zVo G cs kd N) (zVo G cs 7 N)) = (zVo g cs kd N ≠ -1 ∧ zVo g cs 7 N ≠ -1 ∧ ¬ zFit f g kd (zVo g cs kd N) (zVo g cs 7 N)) := by
    rw [h.vo, h.vo, propext (h.fit kd (zVo g cs kd N) (zVo g cs 7 N))]
  unfold zEx
  rw [e]
theorem zFrD.co (h : zFrD F f G g) (cs : Nat → Int) (k : Nat) : zCo G cs k = zCo g cs k := by
  unfold zCo
  rw [h.pa, h.2 4 k (by unfold zDg; omega), h.2 17 _ (by unfold zDg; omega)]
theorem zFrD.sm (h : zFrD F f G g) (cs : Nat → Int) (v : Int) : ∀ k : Nat, zSm G cs v k = zSm g cs v k := by
  intro k
  induction k with
  | zero => rfl
  | succ k ih =>
    simp only [zSm]
    rw [ih, h.co]
theorem zFrD.tt (h : zFrD F f G g) (cs : Nat → Int) (N : Nat) : zTt F G cs N = zTt f g cs N := by
  unfold zTt
  rw [h.ex, h.ex, h.sm]
theorem zFrD.vl (h : zFrD F f G g) (cs : Nat → Int) (k : Nat) : zVl F G cs k ↔ zVl f g cs k := by
  unfold zVl
  rw [h.pa, h.pl, h.na1, h.1 12 0 (by unfold zDf; omega), h.2 4 k (by unfold zDg; omega), h.2 3 k (by unfold zDg; omega), h.2 15 _ (by unfold zDg; omega)]
theorem zFrD.go (h : zFrD F f G g) (cs : Nat → Int) (k : Nat) : zGo G cs k ↔ zGo g cs k := by
  unfold zGo zZz
  rw [h.pa, h.pl, h.2 5 k (by unfold zDg; omega)]
theorem zFrD.vd (h : zFrD F f G g) (N : Nat) (e : Int × List Int) : zVd F G N e ↔ zVd f g N e := by
  unfold zVd
  simp only [h.vl, h.go, h.pa, h.tt, h.1 12 0 (show zDf 12 0 by unfold zDf; omega)]
end Fro

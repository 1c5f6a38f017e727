/-! the two least of a set of readings: there is one answer -/
theorem zLt_tr {N : Nat} {d e h : Int × List Int} (h1 : zLt N d e) (h2 : zLt N e h) : zLt N d h := by
  rcases h1 with h1 | ⟨h1, k, k1, k2, k3⟩ <;> rcases h2 with h2 | ⟨h2, m, m1, m2, m3⟩
  · exact Or.inl (by omega)
  · exact Or.inl (by omega)
  · exact Or.inl (by omega)
  · refine Or.inr ⟨by omega, ?_⟩
    by_cases c : k < m
    · exact ⟨k, k1, fun j hj => (k2 j hj).trans (m2 j (by omega)), by rw [← m2 k c]; exact k3⟩
    · by_cases c2 : m < k
      · exact ⟨m, m1, fun j hj => (k2 j (by omega)).trans (m2 j hj), by rw [k2 m c2]; exact m3⟩
      · obtain rfl : k = m := by omega
        exact ⟨k, k1, fun j hj => (k2 j hj).trans (m2 j hj), by omega⟩
theorem zLt_ir {N : Nat} {d : Int × List Int} (h : zLt N d d) : False := by
  rcases h with h | ⟨-, k, -, -, k3⟩ <;> omega
theorem zLeast {P : Nat → Prop} : ∀ (n : Nat), P n → ∃ k, k ≤ n ∧ P k ∧ ∀ j, j < k → ¬ P j := by
  intro n
  induction n using Nat.strongRecOn with
  | ind n ih =>
    intro h
    by_cases c : ∃ m, m < n ∧ P m
    · obtain ⟨m, m1, m2⟩ := c
      obtain ⟨k, k1, k2, k3⟩ := ih m m1 m2
      exact ⟨k, by omega, k2, k3⟩
    · exact ⟨n, by omega, h, fun j hj u => c ⟨j, hj, u⟩⟩
theorem zCs_ext {N : Nat} {d e : Int × List Int} (hd : d.2.length = N) (he : e.2.length = N) (h1 : d.1 = e.1) (h : ∀ k, k < N → zCs d k = zCs e k) : d = e := by
  obtain ⟨d1, d2⟩ := d
  obtain ⟨e1, e2⟩ := e
  have hd : d2.length = N := hd
  have he : e2.length = N := he
  have h1 : d1 = e1 := h1
  rw [h1]
  congr 1
  refine List.ext_getElem (by omega) (fun k k1 k2 => ?_)
  have := h k (by omega)
  simp only [zCs, List.getD_eq_getElem?_getD, List.getElem?_eq_getElem k1, List.getElem?_eq_getElem k2, Option.getD_some] at this
  exact this
theorem zLt_to {N : Nat} {d e : Int × List Int} (hd : d.2.length = N) (he : e.2.length = N) (hne : d ≠ e) : zLt N d e ∨ zLt N e d := by
  by_cases c : d.1 = e.1
  · by_cases c2 : ∀ k, k < N → zCs d k = zCs e k
    · exact absurd (zCs_ext hd he c c2) hne
    · have : ∃ k, k < N ∧ zCs d k ≠ zCs e k := Classical.byContradiction (fun u => c2 (fun k hk => Classical.byContradiction (fun w => u ⟨k, hk, w⟩)))
      obtain ⟨n, n1, n2⟩ := this
      obtain ⟨k, k1, k2, k3⟩ := zLeast (P := fun k => zCs d k ≠ zCs e k) n n2
      have k4 : ∀ j, j < k → zCs d j = zCs e j := fun j hj => Classical.byContradiction (fun w => k3 j hj w)
      by_cases c3 : zCs d k < zCs e k
      · exact Or.inl (Or.inr ⟨c, k, by omega, k4, c3⟩)
      · exact Or.inr (Or.inr ⟨c.symm, k, by omega, fun j hj => (k4 j hj).symm, by omega⟩)
  · by_cases c2 : d.1 < e.1
    · exact Or.inl (Or.inl c2)
    · exact Or.inr (Or.inl (by omega))
/-- T is the two least of M -/
def zTw (N : Nat) (M : Int × List Int → Prop) (T : List (Int × List Int)) : Prop := match T with
  | [] => ∀ e, ¬ M e
  | [a] => M a ∧ ∀ e, M e → e = a
  | [a, b] => M a ∧ M b ∧ zLt N a b ∧ ∀ e, M e → e = a ∨ e = b ∨ zLt N b e
  | _ => False
theorem zTw_u {N : Nat} {M : Int × List Int → Prop} {T U : List (Int × List Int)} (h1 : zTw N M T) (h2 : zTw N M U) : T = U := by
  match T, U, h1, h2 with
  | [], [], _, _ => rfl
  | [], [x], h1, h2 => exact absurd h2.1 (h1 x)
  | [], [x, y], h1, h2 => exact absurd h2.1 (h1 x)
  | [a], [], h1, h2 => exact absurd h1.1 (h2 a)
  | [a, b], [], h1, h2 => exact absurd h1.1 (h2 a)
  | [a], [x], h1, h2 => rw [h1.2 x h2.1]
  | [a], [x, y], h1, h2 =>
    have e1 := h1.2 x h2.1
    have e2 := h1.2 y h2.2.1
    have h3 := h2.2.2.1
    rw [e1, e2] at h3
    exact (zLt_ir h3).elim
  | [a, b], [x], h1, h2 =>
    have e1 := h2.2 a h1.1
    have e2 := h2.2 b h1.2.1
    have h3 := h1.2.2.1
    rw [e1, e2] at h3
    exact (zLt_ir h3).elim
  | [a, b], [x, y], h1, h2 =>
    obtain ⟨a1, a2, a3, a4⟩ := h1
    obtain ⟨b1, b2, b3, b4⟩ := h2
    rcases a4 x b1 with r | r | r
    · subst r
      rcases a4 y b2 with r | r | r
      · subst r
        exact (zLt_ir b3).elim
      · rw [r]
      · rcases b4 b a2 with s | s | s
        · subst s
          exact (zLt_ir a3).elim
        · rw [s]
        · exact (zLt_ir (zLt_tr s r)).elim
    · subst r
      rcases b4 a a1 with s | s | s
      · subst s
        exact (zLt_ir a3).elim
      · subst s
        exact (zLt_ir (zLt_tr a3 b3)).elim
      · exact (zLt_ir (zLt_tr a3 (zLt_tr b3 s))).elim
    · rcases b4 a a1 with s | s | s
      · subst s
        exact (zLt_ir (zLt_tr a3 r)).elim
      · subst s
        exact (zLt_ir (zLt_tr a3 (zLt_tr r b3))).elim
      · exact (zLt_ir (zLt_tr a3 (zLt_tr r (zLt_tr b3 s)))).elim
theorem zTw_c {N : Nat} {M M' : Int × List Int → Prop} {T : List (Int × List Int)} (h : ∀ e, M e ↔ M' e) (hT : zTw N M T) : zTw N M' T := by
  rw [show M' = M from funext (fun e => propext (h e).symm)]
  exact hT
theorem zTw_o {N : Nat} {M : Int × List Int → Prop} {T : List (Int × List Int)} (hT : zTw N M T) : zo2 T := by
  match T, hT with
  | [], _ => exact True.intro
  | [a], _ => exact True.intro
  | [a, b], h =>
    rcases h.2.2.1 with u | u
    · show a.1 ≤ b.1
      omega
    · show a.1 ≤ b.1
      omega
theorem zTw_m {N : Nat} {M : Int × List Int → Prop} {T : List (Int × List Int)} (hT : zTw N M T) : ∀ e ∈ T, M e := by
  match T, hT with
  | [], _ => intro e he; cases he
  | [a], h =>
    intro e he
    rw [List.mem_singleton] at he
    rw [he]
    exact h.1
  | [a, b], h =>
    intro e he
    rcases List.mem_cons.mp he with he | he
    · rw [he]
      exact h.1
    · rw [List.mem_singleton] at he
      rw [he]
      exact h.2.1
/-- one more -/
theorem zTw_i {N : Nat} {M : Int × List Int → Prop} {T : List (Int × List Int)} {x : Int × List Int} (hT : zTw N M T) (hx : ∀ e, M e → zLt N x e ∨ zLt N e x) : zTw N (fun e => M e ∨ e = x) (zj2 N T x) := by
  match T, hT with
  | [], h =>
    simp only [zj2]
    exact ⟨Or.inr rfl, fun e he => he.elim (fun u => absurd u (h e)) id⟩
  | [a], h =>
    simp only [zj2]
    split
    · rename_i c
      exact ⟨Or.inr rfl, Or.inl h.1, c, fun e he => he.elim (fun u => Or.inr (Or.inl (h.2 e u))) Or.inl⟩
    · rename_i c
      exact ⟨Or.inl h.1, Or.inr rfl, (hx a h.1).resolve_left c, fun e he => he.elim (fun u => Or.inl (h.2 e u)) (fun u => Or.inr (Or.inl u))⟩
  | [a, b], h =>
    obtain ⟨a1, a2, a3, a4⟩ := h
    simp only [zj2]
    split
    · rename_i c
      refine ⟨Or.inr rfl, Or.inl a1, c, fun e he => he.elim (fun u => ?_) Or.inl⟩
      rcases a4 e u with r | r | r
      · exact Or.inr (Or.inl r)
      · rw [r]
        exact Or.inr (Or.inr a3)
      · exact Or.inr (Or.inr (zLt_tr a3 r))
    · rename_i c
      split
      · rename_i c2
        refine ⟨Or.inl a1, Or.inr rfl, (hx a a1).resolve_left c, fun e he => he.elim (fun u => ?_) (fun u => Or.inr (Or.inl u))⟩
        rcases a4 e u with r | r | r
        · exact Or.inl r
        · rw [r]
          exact Or.inr (Or.inr c2)
        · exact Or.inr (Or.inr (zLt_tr c2 r))
      · rename_i c2
        refine ⟨Or.inl a1, Or.inl a2, a3, fun e he => he.elim (fun u => a4 e u) (fun u => ?_)⟩
        rw [u]
        exact Or.inr (Or.inr ((hx b a2).resolve_left c2))
theorem zi2_j {N : Nat} {T : List (Int × List Int)} {x : Int × List Int} (h : ∀ e ∈ T, zLt N x e ↔ x.1 < e.1) : zi2 T x = zj2 N T x := by
  match T with
  | [] => rfl
  | [a] =>
    have h1 := h a (by simp)
    simp only [zi2, zj2, h1]
  | a :: b :: t =>
    have h1 := h a (by simp)
    have h2 := h b (by simp)
    simp only [zi2, zj2, h1, h2]
/-- choices of one before those of the other -/
def zLc (N : Nat) (d e : Int × List Int) : Prop := ∃ k : Nat, k < N ∧ (∀ j : Nat, j < k → zCs d j = zCs e j) ∧ zCs d k < zCs e k
theorem zLc_as {N : Nat} {d e : Int × List Int} (h1 : zLc N d e) (h2 : zLc N e d) : False := by
  obtain ⟨k, k1, k2, k3⟩ := h1
  obtain ⟨m, m1, m2, m3⟩ := h2
  by_cases c : k < m
  · have := m2 k c
    omega
  · by_cases c2 : m < k
    · have := k2 m c2
      omega
    · obtain rfl : k = m := by omega
      omega
theorem zLc_lt {N : Nat} {x e : Int × List Int} (h : zLc N e x) : zLt N x e ↔ x.1 < e.1 := by
  constructor
  · rintro (u | ⟨-, u⟩)
    · exact u
    · exact (zLc_as h u).elim
  · exact Or.inl
theorem zLc_to {N : Nat} {x e : Int × List Int} (h : zLc N e x) : zLt N x e ∨ zLt N e x := by
  by_cases c : x.1 < e.1
  · exact Or.inl (Or.inl c)
  · by_cases c2 : e.1 = x.1
    · exact Or.inr (Or.inr ⟨c2, h⟩)
    · exact Or.inr (Or.inl (by omega))
/-- one more, behind all in the order of choices -/
theorem zTw_l {N : Nat} {M : Int × List Int → Prop} {T : List (Int × List Int)} {x : Int × List Int} (hT : zTw N M T) (hx : ∀ e, M e → zLc N e x) : zTw N (fun e => M e ∨ e = x) (zi2 T x) := by
  rw [zi2_j (fun e he => zLc_lt (hx e (zTw_m hT e he)))]
  exact zTw_i hT (fun e he => zLc_to (hx e he))
theorem zTw_t {N : Nat} : ∀ (L : List (Int × List Int)) (M : Int × List Int → Prop) (T : List (Int × List Int)), zTw N M T → (∀ e, M e → ∀ x ∈ L, zLc N e x) → L.Pairwise (zLc N) → zTw N (fun e => M e ∨ e ∈ L) (L.foldl zi2 T) := by
  intro L
  induction L with
  | nil => intro M T hT _ _; exact zTw_c (fun e => by simp) hT
  | cons x L ih =>
    intro M T hT h1 h2
    rw [List.pairwise_cons] at h2
    have h3 := zTw_l hT (x := x) (fun e he => h1 e he x (by simp))
    have h4 := ih _ _ h3 (fun e he y hy => he.elim (fun u => h1 e u y (by simp [hy])) (fun u => by rw [u]; exact h2.1 y hy)) h2.2
    refine zTw_c (fun e => ?_) h4
    simp only [List.mem_cons]
    exact or_assoc
theorem zTw_zt {N : Nat} {L : List (Int × List Int)} (h : L.Pairwise (zLc N)) : zTw N (fun e => e ∈ L) (zt2 L) := by
  have := zTw_t (N := N) L (fun _ => False) [] (fun e h => h) (fun e he => he.elim) h
  exact zTw_c (fun e => by simp) this
/-- the two least of two sets, of which one is told by its own two least -/
theorem zTw_ad {N : Nat} {M S : Int × List Int → Prop} {T U : List (Int × List Int)} (hT : zTw N M T) (hU : zTw N S U) (hMS : ∀ e d, M e → S d → zLt N d e ∨ zLt N e d) : zTw N (fun e => M e ∨ S e) (zAd N U 1 (zAd N U 0 T)) := by
  match U, hU with
  | [], h => exact zTw_c (fun e => by simp [h e]) hT
  | [a], h =>
    show zTw N _ (zj2 N T a)
    refine zTw_c (fun e => ?_) (zTw_i hT (x := a) (fun e he => hMS e a he h.1))
    refine or_congr Iff.rfl ⟨fun u => by rw [u]; exact h.1, h.2 e⟩
  | [a, b], h =>
    obtain ⟨a1, a2, a3, a4⟩ := h
    show zTw N _ (zj2 N (zj2 N T a) b)
    have h1 := zTw_i hT (x := a) (fun e he => hMS e a he a1)
    have h2 := zTw_i h1 (x := b) (fun e he => he.elim (fun u => hMS e b u a2) (fun u => by rw [u]; exact Or.inr a3))
    revert h2
    generalize zj2 N (zj2 N T a) b = W
    intro h2
    match W, h2 with
    | [], h2 => exact absurd (Or.inr rfl) (h2 b)
    | [p], h2 =>
      have e1 := h2.2 a (Or.inl (Or.inr rfl))
      have e2 := h2.2 b (Or.inr rfl)
      rw [e1, e2] at a3
      exact (zLt_ir a3).elim
    | [p, q], h2 =>
      obtain ⟨p1, p2, p3, p4⟩ := h2
      have up : ∀ e, ((M e ∨ e = a) ∨ e = b) → M e ∨ S e := by
        rintro e ((u | u) | u)
        · exact Or.inl u
        · rw [u]
          exact Or.inr a1
        · rw [u]
          exact Or.inr a2
      have hqb : q = b ∨ zLt N q b := by
        rcases p4 b (Or.inr rfl) with r | r | r
        · rcases p4 a (Or.inl (Or.inr rfl)) with s | s | s
          · rw [r, s] at a3
            exact (zLt_ir a3).elim
          · rw [r, s] at a3
            exact (zLt_ir (zLt_tr a3 p3)).elim
          · rw [r] at a3
            exact (zLt_ir (zLt_tr a3 (zLt_tr p3 s))).elim
        · exact Or.inl r.symm
        · exact Or.inr r
      refine ⟨up p p1, up q p2, p3, fun e he => ?_⟩
      rcases he with u | u
      · exact p4 e (Or.inl (Or.inl u))
      · rcases a4 e u with r | r | r
        · exact p4 e (Or.inl (Or.inr r))
        · exact p4 e (Or.inr r)
        · rcases hqb with s | s
          · rw [s]
            exact Or.inr (Or.inr r)
          · exact Or.inr (Or.inr (zLt_tr s r))

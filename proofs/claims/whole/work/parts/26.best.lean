/-! the two best of a list, by the key, the earlier first -/
def zi2 {α : Type} (T : List (Int × α)) (x : Int × α) : List (Int × α) := match T with
  | [] => [x]
  | [a] => if x.1 < a.1 then [x, a] else [a, x]
  | a :: b :: _ => if x.1 < a.1 then [x, a] else if x.1 < b.1 then [a, x] else [a, b]
def zt2 {α : Type} (L : List (Int × α)) : List (Int × α) := L.foldl zi2 []
/-- at most two, in order -/
def zo2 {α : Type} (T : List (Int × α)) : Prop := match T with
  | [] => True
  | [_] => True
  | [a, b] => a.1 ≤ b.1
  | _ => False
theorem zo2_i {α : Type} {T : List (Int × α)} (h : zo2 T) (x : Int × α) : zo2 (zi2 T x) := by
  match T, h with
  | [], _ => trivial
  | [a], _ =>
    simp only [zi2]
    split
    · show x.1 ≤ a.1
      omega
    · show a.1 ≤ x.1
      omega
  | [a, b], h =>
    have h : a.1 ≤ b.1 := h
    simp only [zi2]
    split
    · show x.1 ≤ a.1
      omega
    · split
      · show a.1 ≤ x.1
        omega
      · exact h
theorem zo2_f {α : Type} (L : List (Int × α)) : ∀ {T : List (Int × α)}, zo2 T → zo2 (L.foldl zi2 T) := by
  induction L with
  | nil => intro T h; exact h
  | cons a L ih => intro T h; exact ih (zo2_i h a)
theorem zo2_t {α : Type} (L : List (Int × α)) : zo2 (zt2 L) := zo2_f L (T := []) trivial
set_option maxHeartbeats 4000000 in
theorem zi2_key {α : Type} {T S : List (Int × α)} (hT : zo2 T) (hS : zo2 S) (x : Int × α) : (zi2 S x).foldl zi2 T = zi2 (S.foldl zi2 T) x := by
  match S, hS with
  | [], _ => rfl
  | [a], _ =>
    match T, hT with
    | [], _ =>
      by_cases h0 : x.1 < a.1 <;>
      first | omega | (simp [zi2, h0]; done) | (simp [zi2, h0]; intros; exfalso; omega)
    | [t], _ =>
      by_cases h0 : x.1 < a.1 <;>
      by_cases h1 : a.1 < t.1 <;>
      by_cases h2 : x.1 < t.1 <;>
      first | omega | (simp [zi2, h0, h1, h2]; done) | (simp [zi2, h0, h1, h2]; intros; exfalso; omega)
    | [t, u], h =>
      have h : t.1 ≤ u.1 := h
      by_cases h0 : x.1 < a.1 <;>
      by_cases h1 : a.1 < t.1 <;>
      by_cases h2 : a.1 < u.1 <;>
      by_cases h3 : x.1 < t.1 <;>
      by_cases h4 : x.1 < u.1 <;>
      first | omega | (simp [zi2, h0, h1, h2, h3, h4]; done) | (simp [zi2, h0, h1, h2, h3, h4]; intros; exfalso; omega)
  | [a, b], h2 =>
    have h2 : a.1 ≤ b.1 := h2
    match T, hT with
    | [], _ =>
      by_cases h0 : x.1 < a.1 <;>
      by_cases h1 : x.1 < b.1 <;>
      by_cases h9 : b.1 < a.1 <;>
      first | omega | (simp [zi2, h0, h1, h9]; done) | (simp [zi2, h0, h1, h9]; intros; exfalso; omega)
    | [t], _ =>
      by_cases h0 : x.1 < a.1 <;>
      by_cases h1 : x.1 < b.1 <;>
      by_cases h2 : a.1 < t.1 <;>
      by_cases h3 : b.1 < t.1 <;>
      by_cases h4 : x.1 < t.1 <;>
      by_cases h99 : b.1 < a.1 <;>
      first | omega | (simp [zi2, h99, h0, h1, h2, h3, h4]; done) | (simp [zi2, h99, h0, h1, h2, h3, h4]; intros; exfalso; omega)
    | [t, u], h =>
      have h : t.1 ≤ u.1 := h
      by_cases h0 : x.1 < a.1 <;>
      by_cases h1 : x.1 < b.1 <;>
      by_cases h2 : a.1 < t.1 <;>
      by_cases h3 : a.1 < u.1 <;>
      by_cases h4 : b.1 < t.1 <;>
      by_cases h5 : b.1 < u.1 <;>
      by_cases h6 : x.1 < t.1 <;>
      by_cases h7 : x.1 < u.1 <;>
      by_cases h99 : b.1 < a.1 <;>
      first | omega | (simp [zi2, h99, h0, h1, h2, h3, h4, h5, h6, h7]; done) | (simp [zi2, h99, h0, h1, h2, h3, h4, h5, h6, h7]; intros; exfalso; omega)
theorem zt2_f {α : Type} (L : List (Int × α)) {T : List (Int × α)} (hT : zo2 T) : L.foldl zi2 T = (zt2 L).foldl zi2 T := by
  have key : ∀ (L : List (Int × α)) (S : List (Int × α)), zo2 S → L.foldl zi2 (S.foldl zi2 T) = (L.foldl zi2 S).foldl zi2 T := by
    intro L
    induction L with
    | nil => intro S _; rfl
    | cons a L ih =>
      intro S hS
      show L.foldl zi2 (zi2 (S.foldl zi2 T) a) = (L.foldl zi2 (zi2 S a)).foldl zi2 T
      rw [← zi2_key hT hS a, ih _ (zo2_i hS a)]
  exact key L [] trivial
theorem zt2_app {α : Type} (A B : List (Int × α)) : zt2 (A ++ B) = (zt2 B).foldl zi2 (zt2 A) := by
  unfold zt2
  rw [List.foldl_append]
  exact zt2_f B (zo2_t A)
/-- a map that leaves the keys' order -/
theorem zi2_map {α β : Type} (φ : Int × α → Int × β) (hφ : ∀ a b, (φ a).1 < (φ b).1 ↔ a.1 < b.1) (T : List (Int × α)) (x : Int × α) : (zi2 T x).map φ = zi2 (T.map φ) (φ x) := by
  match T with
  | [] => rfl
  | [a] =>
    simp only [zi2, List.map]
    by_cases h : x.1 < a.1
    · rw [if_pos h, if_pos ((hφ x a).mpr h)]; rfl
    · rw [if_neg h, if_neg (fun u => h ((hφ x a).mp u))]; rfl
  | a :: b :: t =>
    simp only [zi2, List.map]
    by_cases h : x.1 < a.1
    · rw [if_pos h, if_pos ((hφ x a).mpr h)]; rfl
    · rw [if_neg h, if_neg (fun u => h ((hφ x a).mp u))]
      by_cases h2 : x.1 < b.1
      · rw [if_pos h2, if_pos ((hφ x b).mpr h2)]; rfl
      · rw [if_neg h2, if_neg (fun u => h2 ((hφ x b).mp u))]; rfl
theorem zf2_map {α β : Type} (φ : Int × α → Int × β) (hφ : ∀ a b, (φ a).1 < (φ b).1 ↔ a.1 < b.1) (L : List (Int × α)) : ∀ (T : List (Int × α)), (L.foldl zi2 T).map φ = (L.map φ).foldl zi2 (T.map φ) := by
  induction L with
  | nil => intro T; rfl
  | cons a L ih =>
    intro T
    show (L.foldl zi2 (zi2 T a)).map φ = (L.map φ).foldl zi2 (zi2 (T.map φ) (φ a))
    rw [ih, zi2_map φ hφ]
theorem zt2_map {α β : Type} (φ : Int × α → Int × β) (hφ : ∀ a b, (φ a).1 < (φ b).1 ↔ a.1 < b.1) (L : List (Int × α)) : (zt2 L).map φ = zt2 (L.map φ) := zf2_map φ hφ L []
theorem zi2_mem {α : Type} {T : List (Int × α)} {x e : Int × α} (h : e ∈ zi2 T x) : e = x ∨ e ∈ T := by
  match T with
  | [] =>
    simp only [zi2, List.mem_cons, List.not_mem_nil, or_false] at h
    exact Or.inl h
  | [a] =>
    simp only [zi2] at h
    split at h
    · simp only [List.mem_cons, List.not_mem_nil, or_false] at h ⊢
      exact h
    · simp only [List.mem_cons, List.not_mem_nil, or_false] at h ⊢
      exact h.symm
  | a :: b :: t =>
    simp only [zi2] at h
    split at h
    · simp only [List.mem_cons, List.not_mem_nil, or_false] at h ⊢
      exact h.elim Or.inl (fun u => Or.inr (Or.inl u))
    · split at h
      · simp only [List.mem_cons, List.not_mem_nil, or_false] at h ⊢
        exact h.elim (fun u => Or.inr (Or.inl u)) Or.inl
      · simp only [List.mem_cons, List.not_mem_nil, or_false] at h ⊢
        exact h.elim (fun u => Or.inr (Or.inl u)) (fun u => Or.inr (Or.inr (Or.inl u)))
theorem zf2_mem {α : Type} (L : List (Int × α)) : ∀ {T : List (Int × α)} {e : Int × α}, e ∈ L.foldl zi2 T → e ∈ L ∨ e ∈ T := by
  induction L with
  | nil => intro T e h; exact Or.inr h
  | cons a L ih =>
    intro T e h
    rcases ih h with u | u
    · exact Or.inl (List.mem_cons_of_mem _ u)
    · rcases zi2_mem u with w | w
      · exact Or.inl (by rw [w]; exact List.mem_cons_self)
      · exact Or.inr w
theorem zt2_mem {α : Type} {L : List (Int × α)} {e : Int × α} (h : e ∈ zt2 L) : e ∈ L := (zf2_mem L h).elim id (fun u => by cases u)
/-- a row of the table tells a list of at most two: sum, choice, rank -/
def zRep (w : zR) (T : List (Int × Int × Int)) : Prop := match T with
  | [] => w.1 = 1000000 ∧ w.2.2.2.1 = 1000000
  | [a] => w.1 = a.1 ∧ w.2.1 = a.2.1 ∧ w.2.2.1 = a.2.2 ∧ a.1 < 1000000 ∧ w.2.2.2.1 = 1000000
  | [a, b] => w.1 = a.1 ∧ w.2.1 = a.2.1 ∧ w.2.2.1 = a.2.2 ∧ a.1 < 1000000 ∧ w.2.2.2.1 = b.1 ∧ w.2.2.2.2.1 = b.2.1 ∧ w.2.2.2.2.2 = b.2.2 ∧ b.1 < 1000000
  | _ => False
theorem zKeep_1 {w : zR} {sm ch rk : Int} (h : sm < w.1) : zKeep w sm ch rk = (sm, ch, rk, w.1, w.2.1, w.2.2.1) := if_pos h
theorem zKeep_2 {w : zR} {sm ch rk : Int} (h : ¬ sm < w.1) (h2 : sm < w.2.2.2.1) : zKeep w sm ch rk = (w.1, w.2.1, w.2.2.1, sm, ch, rk) := by
  unfold zKeep
  rw [if_neg h, if_pos h2]
theorem zKeep_3 {w : zR} {sm ch rk : Int} (h : ¬ sm < w.1) (h2 : ¬ sm < w.2.2.2.1) : zKeep w sm ch rk = w := by
  unfold zKeep
  rw [if_neg h, if_neg h2]
theorem zRep_keep {w : zR} {T : List (Int × Int × Int)} (h : zRep w T) {sm ch rk : Int} (hs : sm < 1000000) : zRep (zKeep w sm ch rk) (zi2 T (sm, ch, rk)) := by
  match T, h with
  | [], h =>
    obtain ⟨h1, h2⟩ := h
    rw [zKeep_1 (by omega)]
    exact ⟨rfl, rfl, rfl, hs, h1⟩
  | [a], h =>
    obtain ⟨h1, h2, h3, h4, h5⟩ := h
    by_cases u : sm < w.1
    · have e : zi2 [a] (sm, ch, rk) = [(sm, ch, rk), a] := if_pos (show sm < a.1 by omega)
      rw [zKeep_1 u, e]
      exact ⟨rfl, rfl, rfl, hs, h1, h2, h3, h4⟩
    · have e : zi2 [a] (sm, ch, rk) = [a, (sm, ch, rk)] := if_neg (show ¬ sm < a.1 by omega)
      rw [zKeep_2 u (by omega), e]
      exact ⟨h1, h2, h3, h4, rfl, rfl, rfl, hs⟩
  | [a, b], h =>
    obtain ⟨h1, h2, h3, h4, h5, h6, h7, h8⟩ := h
    by_cases u : sm < w.1
    · have e : zi2 [a, b] (sm, ch, rk) = [(sm, ch, rk), a] := if_pos (show sm < a.1 by omega)
      rw [zKeep_1 u, e]
      exact ⟨rfl, rfl, rfl, hs, h1, h2, h3, h4⟩
    · by_cases u2 : sm < w.2.2.2.1
      · have e : zi2 [a, b] (sm, ch, rk) = [a, (sm, ch, rk)] := by
          simp only [zi2]
          rw [if_neg (show ¬ sm < a.1 by omega), if_pos (show sm < b.1 by omega)]
        rw [zKeep_2 u u2, e]
        exact ⟨h1, h2, h3, h4, rfl, rfl, rfl, hs⟩
      · have e : zi2 [a, b] (sm, ch, rk) = [a, b] := by
          simp only [zi2]
          rw [if_neg (show ¬ sm < a.1 by omega), if_neg (show ¬ sm < b.1 by omega)]
        rw [zKeep_3 u u2, e]
        exact ⟨h1, h2, h3, h4, h5, h6, h7, h8⟩
/-- what a state behind offers: its ranks -/
def zOfs (ch cost : Int) (B : List (Int × Int × Int)) : List (Int × Int × Int) := match B with
  | [] => []
  | [a] => [(cost + a.1, ch, 0)]
  | a :: b :: _ => [(cost + a.1, ch, 0), (cost + b.1, ch, 1)]
theorem zOff1_n {w : zR} {ch cost rest rk : Int} (h : rest = 1000000) : zOff1 w ch cost rest rk = w := if_pos h
theorem zOff1_k {w : zR} {ch cost rest rk : Int} (h : ¬ rest = 1000000) : zOff1 w ch cost rest rk = zKeep w (cost + rest) ch rk := if_neg h
theorem zRep_off {w v : zR} {T B : List (Int × Int × Int)} (h : zRep w T) (hv : zRep v B) {ch cost : Int} (hc : ∀ e ∈ B, cost + e.1 < 1000000) : zRep (zOff w ch cost v) ((zOfs ch cost B).foldl zi2 T) := by
  unfold zOff
  match B, hv with
  | [], hv =>
    obtain ⟨h1, h2⟩ := hv
    rw [zOff1_n h1, zOff1_n h2]
    exact h
  | [a], hv =>
    obtain ⟨h1, h2, h3, h4, h5⟩ := hv
    rw [zOff1_n h5, zOff1_k (by omega), h1]
    exact zRep_keep h (hc a (by simp))
  | [a, b], hv =>
    obtain ⟨h1, h2, h3, h4, h5, h6, h7, h8⟩ := hv
    rw [zOff1_k (rest := v.1) (by omega), zOff1_k (by omega), h1, h5]
    exact zRep_keep (zRep_keep h (hc a (by simp))) (hc b (by simp))

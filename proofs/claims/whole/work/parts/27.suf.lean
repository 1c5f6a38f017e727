/-! the readings from a state on, with the place's value assumed; the rows tell their two best -/
def zExt (ch cost : Int) (L : List (Int × List Int)) : List (Int × List Int) := L.map (fun e => (cost + e.1, ch :: e.2))
noncomputable def zSuf (f : Nat → Nat → Int) (g : Nat → Int → Int) (v : Int) : Nat → Int → Int → Int → List (Int × List Int)
  | 0, _, y, _ => if y = f 12 0 then [(0, [])] else []
  | n + 1, x, y, z => ((List.range (zNa g y z).toNat).flatMap (fun i : Nat => if g 15 (zAlt y z i) = g 3 x ∧ (g 3 x ≠ 7 ∨ g 16 (zAlt y z i) = v) then zExt i (g 17 (zAlt y z i) + zMf f g v (g 3 x) (g 16 (zAlt y z i))) (if zBeh g x y (z + 1) < 0 then [] else zSuf f g v n (x + 1) (zBeh g x y (z + 1) / 6 % 7) (zBeh g x y (z + 1) % 6)) else [])) ++
      (if g 4 x ≠ -1 ∧ (g 3 x ≠ 7 ∨ v = -1) then zExt 4 (g 4 x) (if zBeh g x y z < 0 then [] else zSuf f g v n (x + 1) (zBeh g x y z / 6 % 7) (zBeh g x y z % 6)) else [])
/-- what lies behind -/
noncomputable def zSB (f : Nat → Nat → Int) (g : Nat → Int → Int) (v : Int) (n : Nat) (x q : Int) : List (Int × List Int) := if q < 0 then [] else zSuf f g v n (x + 1) (q / 6 % 7) (q % 6)
def zNth (L : List (Int × List Int)) (r : Int) : List Int := (L.getD r.toNat (0, [])).2
noncomputable def zLft (f : Nat → Nat → Int) (g : Nat → Int → Int) (v : Int) (n : Nat) (x y z : Int) (e : Int × Int × Int) : Int × List Int := match n with
  | 0 => (e.1, [])
  | n + 1 => (e.1, e.2.1 :: zNth (zt2 (zSB f g v n x (if e.2.1 = 4 then zBeh g x y z else zBeh g x y (z + 1)))) e.2.2)
theorem zLft_1 {f : Nat → Nat → Int} {g : Nat → Int → Int} {v : Int} {n : Nat} {x y z : Int} (e : Int × Int × Int) : (zLft f g v n x y z e).1 = e.1 := by cases n <;> rfl
/-- a row that tells the two best readings from its state on -/
def zR01 (T : List (Int × Int × Int)) : Prop := ∀ e ∈ T, e.2.2 = 0 ∨ e.2.2 = 1
def zGd (f : Nat → Nat → Int) (g : Nat → Int → Int) (v : Int) (n : Nat) (x y z : Int) (w : zR) : Prop := ∃ T, zRep w T ∧ zo2 T ∧ T.map (zLft f g v n x y z) = zt2 (zSuf f g v n x y z) ∧ (0 < n → zR01 T)
theorem zR01_f {ch cost : Int} {B T : List (Int × Int × Int)} (h : zR01 T) : zR01 ((zOfs ch cost B).foldl zi2 T) := by
  intro e he
  rcases zf2_mem _ he with u | u
  · match B with
    | [] => cases u
    | [a] =>
      rw [show zOfs ch cost [a] = [(cost + a.1, ch, 0)] from rfl, List.mem_singleton] at u
      rw [u]
      exact Or.inl rfl
    | a :: b :: t =>
      rw [show zOfs ch cost (a :: b :: t) = [(cost + a.1, ch, 0), (cost + b.1, ch, 1)] from rfl] at u
      rcases List.mem_cons.mp u with u | u
      · rw [u]
        exact Or.inl rfl
      · rw [List.mem_singleton] at u
        rw [u]
        exact Or.inr rfl
  · exact h e u
theorem zExt_t2 (ch cost : Int) (L : List (Int × List Int)) : zt2 (zExt ch cost L) = zExt ch cost (zt2 L) := (zt2_map (fun e : Int × List Int => (cost + e.1, ch :: e.2)) (fun a b => by show cost + a.1 < cost + b.1 ↔ a.1 < b.1; omega) L).symm
/-- sums of what is told, bounded -/
theorem zSuf_b {f : Nat → Nat → Int} {g : Nat → Int → Int} {v : Int} (hI : zI f g) : ∀ (n : Nat) (x y z : Int), 0 ≤ x → x + n ≤ f 2 0 → ∀ e ∈ zSuf f g v n x y z, 0 ≤ e.1 ∧ e.1 ≤ 1100 * n ∧ e.2.length = n := by
  intro n
  induction n with
  | zero =>
    intro x y z _ _ e he
    unfold zSuf at he
    split at he
    · rw [List.mem_singleton] at he
      rw [he]
      exact ⟨by decide, by decide, rfl⟩
    · cases he
  | succ n ih =>
    intro x y z hx hn e he
    have hb : ∀ q, ∀ e' ∈ (if q < 0 then [] else zSuf f g v n (x + 1) (q / 6 % 7) (q % 6)), 0 ≤ e'.1 ∧ e'.1 ≤ 1100 * n ∧ e'.2.length = n := by
      intro q e' he'
      split at he'
      · cases he'
      · exact ih _ _ _ (by omega) (by omega) e' he'
    have hext : ∀ ch cost L, 0 ≤ cost → cost ≤ 1100 → (∀ e' ∈ L, 0 ≤ e'.1 ∧ e'.1 ≤ 1100 * (n : Int) ∧ e'.2.length = n) → ∀ e' ∈ zExt ch cost L, 0 ≤ e'.1 ∧ e'.1 ≤ 1100 * ((n + 1 : Nat) : Int) ∧ e'.2.length = n + 1 := by
      intro ch cost L h1 h2 hL e' he'
      obtain ⟨u, hu, rfl⟩ := List.mem_map.mp he'
      have := hL u hu
      refine ⟨by show 0 ≤ cost + u.1; omega, by show cost + u.1 ≤ _; omega, ?_⟩
      show u.2.length + 1 = n + 1
      omega
    have hf := hI.2.1 x hx (by omega)
    rw [zSuf] at he
    rcases List.mem_append.mp he with h | h
    · obtain ⟨i, hi, h⟩ := List.mem_flatMap.mp h
      have hi := List.mem_range.mp hi
      split at h
      · have hin := zNa_in (show 0 < zNa g y z by omega)
        have e14 : zNa g y z = g 14 (y * 5 + z) := if_pos hin
        have hal := hI.2.2.2.2.2.1 y z i hin.1.1 hin.1.2 hin.2.1 hin.2.2 (by omega) (by omega)
        have hm := zMf_r f g v (g 3 x) (g 16 (zAlt y z i))
        exact hext _ _ _ (by omega) (by omega) (hb _) e h
      · cases h
    · split at h
      · exact hext _ _ _ (by omega) (by omega) (hb _) e h
      · cases h
/-- one offer -/
theorem zGd_off {f : Nat → Nat → Int} {g : Nat → Int → Int} {v : Int} {n : Nat} {x y z : Int} {w : zR} {T : List (Int × Int × Int)} {L : List (Int × List Int)} (hI : zI f g) (hx : 0 ≤ x) (hn : x + (n + 1 : Nat) ≤ f 2 0) (hw : zRep w T) (ho : zo2 T) (hT : T.map (zLft f g v (n + 1) x y z) = zt2 L) (h01 : zR01 T)
    {ch cost q : Int} (hq : q = if ch = 4 then zBeh g x y z else zBeh g x y (z + 1)) (hc : 0 ≤ cost ∧ cost ≤ 1100) (hg : 0 ≤ q → zGd f g v n (x + 1) (q / 6 % 7) (q % 6) (zRow g q)) :
    ∃ T', zRep (zOffB g w ch cost q) T' ∧ zo2 T' ∧ T'.map (zLft f g v (n + 1) x y z) = zt2 (L ++ zExt ch cost (zSB f g v n x q)) ∧ zR01 T' := by
  by_cases h : q < 0
  · have e1 : zOffB g w ch cost q = w := if_pos h
    have e2 : zSB f g v n x q = [] := if_pos h
    rw [e1, e2]
    exact ⟨T, hw, ho, by rw [hT]; simp [zExt], h01⟩
  · have e1 : zOffB g w ch cost q = zOff w ch cost (zRow g q) := if_neg h
    have e2 : zSB f g v n x q = zSuf f g v n (x + 1) (q / 6 % 7) (q % 6) := if_neg h
    obtain ⟨B, b1, b2, b3, -⟩ := hg (by omega)
    have hbnd : ∀ e ∈ B, 0 ≤ e.1 ∧ e.1 ≤ 1100 * n := by
      intro e he
      have hm : zLft f g v n (x + 1) (q / 6 % 7) (q % 6) e ∈ zt2 (zSuf f g v n (x + 1) (q / 6 % 7) (q % 6)) := by
        rw [← b3]
        exact List.mem_map.mpr ⟨e, he, rfl⟩
      have := zSuf_b hI n (x + 1) (q / 6 % 7) (q % 6) (by omega) (by omega) _ (zt2_mem hm)
      rw [zLft_1] at this
      exact ⟨this.1, this.2.1⟩
    have hi1 := hI.1
    rw [e1]
    refine ⟨_, zRep_off hw b1 (fun e he => by have := hbnd e he; omega), zo2_f _ ho, ?_, zR01_f h01⟩
    rw [zf2_map _ (fun a b => by rw [zLft_1, zLft_1]) , hT, zt2_app, zExt_t2, e2]
    congr 1
    rw [← b3]
    have hl : ∀ s r, zLft f g v (n + 1) x y z (s, ch, r) = (s, ch :: zNth (zt2 (zSB f g v n x q)) r) := by
      intro s r
      show (s, ch :: zNth (zt2 (zSB f g v n x (if ch = 4 then zBeh g x y z else zBeh g x y (z + 1)))) r) = _
      rw [← hq]
    rw [e2, ← b3] at hl
    match B, b2, b3 with
    | [], _, b3 => rfl
    | [e], _, b3 =>
      simp only [zOfs, List.map, zExt]
      rw [hl]
      simp only [List.map, zNth, zLft_1]
      rfl
    | [e, e'], _, b3 =>
      simp only [zOfs, List.map, zExt]
      rw [hl, hl]
      simp only [List.map, zNth, zLft_1]
      rfl

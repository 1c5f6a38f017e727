/-! the path of a rank through the table is its reading -/
def zPa (g : Nat → Int → Int) (cs : Nat → Int) : Nat → Int × Int × Int
  | 0 => (0, 0, 0)
  | k + 1 =>
    if g 5 k = 0 ∨ (if cs k = 4 then (zPa g cs k).2.1 else (zPa g cs k).2.1 + 1) ≤ 0 then ((zPa g cs k).1, (if cs k = 4 then (zPa g cs k).2.1 else (zPa g cs k).2.1 + 1), (if cs k = 4 then (zPa g cs k).2.2 else (zPa g cs k).2.2 + 1))
    else ((zPa g cs k).1 + 1, 0, (if cs k = 4 then (zPa g cs k).2.2 else (zPa g cs k).2.2 + 1))
theorem zTr_pa {g G : Nat → Int → Int} (h5 : ∀ j, G 5 j = g 5 j) {rk : Int} {cs : Nat → Int} : ∀ k : Nat, (∀ j : Nat, j < k → G 34 (zTr G rk j).1 = cs j) → (zTr G rk k).2 = zPa g cs k := by
  intro k
  induction k with
  | zero => intro _; rfl
  | succ k ih =>
    intro h
    have e := ih (fun j hj => h j (by omega))
    have e1 : (zTr G rk k).2.1 = (zPa g cs k).1 := by rw [← e]
    have e2 : (zTr G rk k).2.2.1 = (zPa g cs k).2.1 := by rw [← e]
    have e3 : (zTr G rk k).2.2.2 = (zPa g cs k).2.2 := by rw [← e]
    rw [zTr_y, h k (by omega), h5, e1, e2, e3]
    simp only [zPa]
    split <;> split <;> rfl
/-- what an element of the list of readings begins with -/
theorem zSuf_hd {f : Nat → Nat → Int} {g : Nat → Int → Int} {v : Int} {n : Nat} {x y z : Int} {s ch : Int} {t : List Int} (hI : zI f g) (h : (s, ch :: t) ∈ zSuf f g v (n + 1) x y z) :
    (ch = 4 ∧ g 4 x ≠ -1 ∧ 0 ≤ zBeh g x y z) ∨ ((0 ≤ ch ∧ ch < zNa g y z) ∧ g 15 (zAlt y z ch) = g 3 x ∧ 0 ≤ zBeh g x y (z + 1)) := by
  rw [zSuf_s] at h
  rcases List.mem_append.mp h with h | h
  · obtain ⟨i, hi, h⟩ := List.mem_flatMap.mp h
    have hi := List.mem_range.mp hi
    unfold zAi at h
    split at h
    · rename_i hc
      obtain ⟨u, hu, e⟩ := List.mem_map.mp h
      have e2 : (i : Int) = ch := by
        have := congrArg (fun p : Int × List Int => p.2) e
        simp only [List.cons.injEq] at this
        exact this.1
      refine Or.inr ⟨by omega, by rw [← e2]; exact hc.1, ?_⟩
      unfold zSB at hu
      split at hu
      · cases hu
      · omega
    · cases h
  · unfold zMi at h
    split at h
    · rename_i hc
      obtain ⟨u, hu, e⟩ := List.mem_map.mp h
      have e2 : (4 : Int) = ch := by
        have := congrArg (fun p : Int × List Int => p.2) e
        simp only [List.cons.injEq] at this
        exact this.1
      refine Or.inl ⟨e2.symm, hc.1, ?_⟩
      unfold zSB at hu
      split at hu
      · cases hu
      · omega
    · cases h
/-- a row's entry of a rank -/
theorem zRep_at {w : zR} {T : List (Int × Int × Int)} {e : Int × Int × Int} (h : zRep w T) : (T[0]? = some e → w.1 = e.1 ∧ w.2.1 = e.2.1 ∧ w.2.2.1 = e.2.2) ∧ (T[1]? = some e → w.2.2.2.1 = e.1 ∧ w.2.2.2.2.1 = e.2.1 ∧ w.2.2.2.2.2 = e.2.2) := by
  match T, h with
  | [], h => exact ⟨fun u => by simp at u, fun u => by simp at u⟩
  | [a], h =>
    obtain ⟨h1, h2, h3, h4, h5⟩ := h
    refine ⟨fun u => ?_, fun u => by simp at u⟩
    simp at u
    rw [← u]
    exact ⟨h1, h2, h3⟩
  | [a, b], h =>
    obtain ⟨h1, h2, h3, h4, h5, h6, h7, h8⟩ := h
    refine ⟨fun u => ?_, fun u => ?_⟩
    · simp at u
      rw [← u]
      exact ⟨h1, h2, h3⟩
    · simp at u
      rw [← u]
      exact ⟨h5, h6, h7⟩
theorem zRow_at {G : Nat → Int → Int} {s r : Int} {T : List (Int × Int × Int)} {e : Int × Int × Int} (h : zRep (zRow G s) T) (hr : r = 0 ∨ r = 1) (he : T[r.toNat]? = some e) : G 33 (s * 2 + r) = e.1 ∧ G 34 (s * 2 + r) = e.2.1 ∧ G 35 (s * 2 + r) = e.2.2 := by
  rcases hr with rfl | rfl
  · have := (zRep_at h).1 he
    rw [show s * 2 + 0 = s * 2 by omega]
    exact this
  · exact (zRep_at h).2 he
section Path
variable {f : Nat → Nat → Int} {g G : Nat → Int → Int} {v : Int}
def zSeg (f : Nat → Nat → Int) (g G : Nat → Int → Int) (v rk : Int) (cs : List Int) (k : Nat) : Prop := ∃ r, (r = 0 ∨ r = 1) ∧ (zTr G rk k).1 = zSt k (zTr G rk k).2.1 (zTr G rk k).2.2.1 * 2 + r ∧ (0 ≤ (zTr G rk k).2.1 ∧ (zTr G rk k).2.1 ≤ f 12 0) ∧ (0 ≤ (zTr G rk k).2.2.1 ∧ (zTr G rk k).2.2.1 ≤ zPl g (zTr G rk k).2.1) ∧ g 32 (zSt k (zTr G rk k).2.1 (zTr G rk k).2.2.1) = 1 ∧
  ((k : Int) < f 2 0 → ∃ e, (zt2 (zSuf f g v ((f 2 0).toNat - k) k (zTr G rk k).2.1 (zTr G rk k).2.2.1))[r.toNat]? = some e ∧ e.2 = cs.drop k)
/-- at a part: what is chosen there, and where it goes on -/
theorem zSeg_s (hI : zI f g) (hR : zRchd f g) (hF : zFrW G g) (hG : zGL f g v G 0 0 0) {rk : Int} {cs : List Int} {k : Nat} (hk : (k : Int) < f 2 0) (h : zSeg f g G v rk cs k) :
    zSeg f g G v rk cs (k + 1) ∧ cs[k]? = some (G 34 (zTr G rk k).1) ∧ (G 35 (zTr G rk k).1 = 0 ∨ G 35 (zTr G rk k).1 = 1) ∧ (G 34 (zTr G rk k).1 = 4 ∨ (0 ≤ G 34 (zTr G rk k).1 ∧ G 34 (zTr G rk k).1 < zNa g (zTr G rk k).2.1 (zTr G rk k).2.2.1)) := by
  have i1 := hI.1
  have i3 := hI.2.2.1
  obtain ⟨r, h1, h2, h3, h4, h5, h6⟩ := h
  obtain ⟨e, h7, h8⟩ := h6 hk
  have hp := zPl_r hI (zTr G rk k).2.1
  obtain ⟨T, t1, t2, t3, t4⟩ := hG k _ _ (Or.inl (by omega)) (by omega) h3 h4 h5
  obtain ⟨n, hn⟩ : ∃ n, (f 2 0).toNat - k = n + 1 := ⟨(f 2 0).toNat - k - 1, by omega⟩
  rw [hn] at t3 t4 h7
  rw [← t3, List.getElem?_map] at h7
  cases hT : T[r.toNat]? with
  | none => rw [hT] at h7; simp at h7
  | some e0 =>
    rw [hT, Option.map_some, Option.some.injEq] at h7
    obtain ⟨w1, w2, w3⟩ := zRow_at t1 h1 hT
    rw [← h2] at w1 w2 w3
    have hmem : e ∈ zSuf f g v (n + 1) k (zTr G rk k).2.1 (zTr G rk k).2.2.1 := by
      refine zt2_mem ?_
      rw [← t3, ← h7]
      exact List.mem_map.mpr ⟨e0, List.mem_of_getElem? hT, rfl⟩
    have e2 : e = (e0.1, e0.2.1 :: zNth (zt2 (zSB f g v n k (if e0.2.1 = 4 then zBeh g k (zTr G rk k).2.1 (zTr G rk k).2.2.1 else zBeh g k (zTr G rk k).2.1 ((zTr G rk k).2.2.1 + 1)))) e0.2.2) := h7.symm
    have hd : cs.drop k = e0.2.1 :: zNth (zt2 (zSB f g v n k (if e0.2.1 = 4 then zBeh g k (zTr G rk k).2.1 (zTr G rk k).2.2.1 else zBeh g k (zTr G rk k).2.1 ((zTr G rk k).2.2.1 + 1)))) e0.2.2 := by rw [← h8, e2]
    have hck : cs[k]? = some e0.2.1 := by
      have := congrArg (fun l : List Int => l[0]?) hd
      simp only [List.getElem?_drop, Nat.add_zero, List.getElem?_cons_zero] at this
      exact this
    have hr01 := t4 (by omega) e0 (List.mem_of_getElem? hT)
    have hnl : e.2.length = n + 1 := (zSuf_b hI (n + 1) k _ _ (by omega) (by omega) e hmem).2.2
    rw [e2] at hmem
    have hhd := zSuf_hd hI hmem
    -- the state behind
    have go : ∀ (q y' z' : Int), 0 ≤ q → zTn g k (zTr G rk k).2.1 (zTr G rk k).2.2.1 q → (if e0.2.1 = 4 then zBeh g k (zTr G rk k).2.1 (zTr G rk k).2.2.1 else zBeh g k (zTr G rk k).2.1 ((zTr G rk k).2.2.1 + 1)) = q → q = zSt (k + 1) y' z' → (0 ≤ y' ∧ y' ≤ 6) → (0 ≤ z' ∧ z' ≤ 5) → (zTr G rk (k + 1)).1 = zSt (k + 1) y' z' * 2 + e0.2.2 → (zTr G rk (k + 1)).2.1 = y' → (zTr G rk (k + 1)).2.2.1 = z' → zSeg f g G v rk cs (k + 1) := by
      intro q y' z' q0 qt qe qs hy' hz' a1 a2 a3
      obtain ⟨c1, y1, z1, e4, c2, c3, c4, c5, c6, c7⟩ := zRchd_tn hI hR hk h3 h4 h5 qt
      have hp1 := zPl_r hI y1
      have e5 : y1 = y' ∧ z1 = z' := by rw [e4] at qs; unfold zSt at qs; omega
      obtain ⟨rfl, rfl⟩ := e5
      refine ⟨e0.2.2, hr01, by rw [a2, a3]; exact a1, by rw [a2]; exact c2, by rw [a2, a3]; exact c3, by rw [a2, a3]; show g 32 (zSt (k + 1) y1 z1) = 1; rw [← e4]; exact c1, fun hk2 => ?_⟩
      rw [a2, a3, show (f 2 0).toNat - (k + 1) = n by omega]
      have eS : zSB f g v n k q = zSuf f g v n ((k : Int) + 1) y1 z1 := by
        unfold zSB
        rw [if_neg (by omega), c4, c5]
      rw [qe, eS] at hd
      have hd2 : cs.drop (k + 1) = zNth (zt2 (zSuf f g v n ((k : Int) + 1) y1 z1)) e0.2.2 := by
        rw [← List.tail_drop, hd]
        rfl
      have hlen : (cs.drop (k + 1)).length = n := by
        have := congrArg List.length hd
        rw [← h8, hnl] at this
        simp only [List.length_cons] at this
        rw [hd2]
        omega
      cases hz : (zt2 (zSuf f g v n ((k : Int) + 1) y1 z1))[e0.2.2.toNat]? with
      | none =>
        have : zNth (zt2 (zSuf f g v n ((k : Int) + 1) y1 z1)) e0.2.2 = [] := by
          unfold zNth
          rw [List.getD_eq_getElem?_getD, hz]
          rfl
        rw [hd2, this] at hlen
        simp at hlen
        omega
      | some e1 =>
        refine ⟨e1, hz, ?_⟩
        rw [hd2]
        unfold zNth
        rw [List.getD_eq_getElem?_getD, hz]
        rfl
    refine ⟨?_, by rw [w2]; exact hck, by rw [w3]; exact hr01, ?_⟩
    · have e5 : ∀ j, G 5 j = g 5 j := fun j => hF 5 j (by decide)
      have eT := zTr_y G rk k
      rw [w2, w3, e5] at eT
      rcases hhd with ⟨u1, u2, u3⟩ | ⟨u1, u2, u3⟩
      · have qt : zTn g k (zTr G rk k).2.1 (zTr G rk k).2.2.1 (zBeh g k (zTr G rk k).2.1 (zTr G rk k).2.2.1) := ⟨u3, Or.inl ⟨u2, rfl⟩⟩
        simp only [if_pos u1] at eT
        have eq : (if e0.2.1 = 4 then zBeh g k (zTr G rk k).2.1 (zTr G rk k).2.2.1 else zBeh g k (zTr G rk k).2.1 ((zTr G rk k).2.2.1 + 1)) = zBeh g k (zTr G rk k).2.1 (zTr G rk k).2.2.1 := if_pos u1
        by_cases c : g 5 k = 0 ∨ (zTr G rk k).2.2.1 ≤ 0
        · rw [if_pos c] at eT
          have eb : zBeh g k (zTr G rk k).2.1 (zTr G rk k).2.2.1 = zSt (k + 1) (zTr G rk k).2.1 (zTr G rk k).2.2.1 := if_pos (by omega)
          exact go _ (zTr G rk k).2.1 (zTr G rk k).2.2.1 u3 qt eq eb (by omega) (by omega) (by rw [eT]) (by rw [eT]) (by rw [eT])
        · rw [if_neg c] at eT
          have eb : zBeh g k (zTr G rk k).2.1 (zTr G rk k).2.2.1 = zSt (k + 1) ((zTr G rk k).2.1 + 1) 0 := by
            unfold zBeh at u3 ⊢
            rw [if_neg (by omega)] at u3 ⊢
            split at u3
            · rename_i hh
              rw [if_pos hh]
              rfl
            · omega
          have hlt := zPl_lt hI h3.1 (show 0 < zPl g (zTr G rk k).2.1 by omega)
          exact go _ ((zTr G rk k).2.1 + 1) 0 u3 qt eq eb (by omega) (by omega) (by rw [eT]) (by rw [eT]) (by rw [eT])
      · have hna := zNa_r hI (zTr G rk k).2.1 (zTr G rk k).2.2.1
        have hne : ¬ e0.2.1 = 4 := by omega
        have hin := zNa_in (show 0 < zNa g (zTr G rk k).2.1 (zTr G rk k).2.2.1 by omega)
        have hlt2 := zNa_lt hI (show 0 < zNa g (zTr G rk k).2.1 (zTr G rk k).2.2.1 by omega)
        have qt : zTn g k (zTr G rk k).2.1 (zTr G rk k).2.2.1 (zBeh g k (zTr G rk k).2.1 ((zTr G rk k).2.2.1 + 1)) := ⟨u3, Or.inr ⟨⟨e0.2.1, u1.1, u1.2, u2⟩, rfl⟩⟩
        simp only [if_neg hne] at eT
        have eq : (if e0.2.1 = 4 then zBeh g k (zTr G rk k).2.1 (zTr G rk k).2.2.1 else zBeh g k (zTr G rk k).2.1 ((zTr G rk k).2.2.1 + 1)) = zBeh g k (zTr G rk k).2.1 ((zTr G rk k).2.2.1 + 1) := if_neg hne
        by_cases c : g 5 k = 0 ∨ (zTr G rk k).2.2.1 + 1 ≤ 0
        · rw [if_pos c] at eT
          have eb : zBeh g k (zTr G rk k).2.1 ((zTr G rk k).2.2.1 + 1) = zSt (k + 1) (zTr G rk k).2.1 ((zTr G rk k).2.2.1 + 1) := if_pos (by omega)
          exact go _ (zTr G rk k).2.1 ((zTr G rk k).2.2.1 + 1) u3 qt eq eb (by omega) (by omega) (by rw [eT]) (by rw [eT]) (by rw [eT])
        · rw [if_neg c] at eT
          have eb : zBeh g k (zTr G rk k).2.1 ((zTr G rk k).2.2.1 + 1) = zSt (k + 1) ((zTr G rk k).2.1 + 1) 0 := by
            unfold zBeh at u3 ⊢
            rw [if_neg (by omega)] at u3 ⊢
            split at u3
            · rename_i hh
              rw [if_pos hh]
              rfl
            · omega
          have hlt := zPl_lt hI h3.1 (show 0 < zPl g (zTr G rk k).2.1 by omega)
          exact go _ ((zTr G rk k).2.1 + 1) 0 u3 qt eq eb (by omega) (by omega) (by rw [eT]) (by rw [eT]) (by rw [eT])
    · rw [w2]
      rcases hhd with ⟨u1, u2, u3⟩ | ⟨u1, u2, u3⟩
      · exact Or.inl u1
      · exact Or.inr u1
end Path

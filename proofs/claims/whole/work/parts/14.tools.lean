/-! where each cell's references go, once all is made: a, b, c are the readings first, second, candidate -/
def pr_t (a b c : Nat) : List (List (Option Nat)) := [
  [some 1, none, none, some 2, some 7, some 12, some 18, some 22, some 37, none], [],
  [none, none, some 3, some 4, some 5, some 6, none, none], [], [], [], [],
  [none, none, some 8, some 9, some 10, some 11, none, none], [], [], [], [],
  [none, some 13, some 14, some 15, some 16, some 17], [], [], [], [], [],
  [none, some 19, some 20, some 21], [], [], [],
  [some a, some b, none, some c, none, some 2, some 12, some 18, some 32, some 33, some 34, some 35, some 36, none, none],
  [none, none, none, some 24, some 25], [], [], [none, none, none, some 27, some 28], [], [], [none, none, none, some 30, some 31], [], [],
  [], [], [], [], [], [],
  [none, none, some 39, none, none, none, some 40, some 41, some 42, none, some 43, some 44, some 45, none, some 46, some 47, some 48, some 49, some 50, none, some 51, none, none, some 52, some 53, some 54, some 55, some 56, none, some 57]]
def pr_r (a b c x y : Nat) : Option Nat := match am_at (pr_t a b c) x with
  | some l => match am_at l y with
    | some o => o
    | none => none
  | none => none
def am_swk (M : am_M) (pc : Nat) (dflt lo hi : Int) (offs : Array Int) (t0 : Nat) (ts : List Nat) : Bool :=
  decide ((pc : Int) + dflt = (am_pcd M t0 : Int)) && decide (lo ≤ hi) && decide (hi - lo + 1 = (ts.length : Int)) && (List.range ts.length).all (fun j => match am_at ts j, offs[j]? with
    | some t, some o => decide ((pc : Int) + o = (am_pcd M t : Int))
    | _, _ => false)
section Tools
variable {l : Launch} {dC : Nat → ClassId} {dI : Nat → Nat → Nat} {tc : Nat → ClassId} {M : am_M} {d n0 n1 : Nat} {Q Q' : Option am_V → am_H → Prop} {i nx : Nat} {lv : am_L} {st r : List am_V} {σ : am_H}
/-- a call whose answer is one value -/
theorem am_callv {M' : am_M} {as : List am_V} {d' : Nat} {v : am_V} {σ' : am_H} (h : am_cx M σ.1 i st = some (M', as, nx, r)) (hC : am_Ct l dC dI tc M' d' σ.1 as σ (fun rv s => rv = some v ∧ s = σ')) (hd : d' < d) (hn1 : σ.1 ≤ n1) (hr4 : r.length ≤ 4) (k : am_wp l dC dI tc M d n0 n1 Q nx lv (v :: r) σ') : am_wp l dC dI tc M d n0 n1 Q i lv st σ :=
  am_call h hC hd (Nat.le_refl _) hn1 hr4 (fun rv s q => by obtain ⟨rfl, rfl⟩ := q; exact k)
/-- a call without an answer -/
theorem am_calln {M' : am_M} {as : List am_V} {d' : Nat} {σ' : am_H} (h : am_cx M σ.1 i st = some (M', as, nx, r)) (hC : am_Ct l dC dI tc M' d' σ.1 as σ (fun rv s => rv = none ∧ s = σ')) (hd : d' < d) (hn1 : σ.1 ≤ n1) (hr4 : r.length ≤ 4) (k : am_wp l dC dI tc M d n0 n1 Q nx lv r σ') : am_wp l dC dI tc M d n0 n1 Q i lv st σ :=
  am_call h hC hd (Nat.le_refl _) hn1 hr4 (fun rv s q => by obtain ⟨rfl, rfl⟩ := q; exact k)
theorem am_mono (hq : ∀ r s, Q r s → Q' r s) (k : am_wp l dC dI tc M d n0 n1 Q i lv st σ) : am_wp l dC dI tc M d n0 n1 Q' i lv st σ := by
  intro hok p e s m args below meth c ad0 A hB ad H locs ls hS T hT X
  obtain ⟨t, h1, o, h2, h3, ⟨⟨r, σ1, ad1, a1, a2, a3⟩, h5⟩, h6⟩ := k hok p e s m args below meth c ad0 A hB ad H locs ls hS T hT X
  exact ⟨t, h1, o, h2, h3, ⟨⟨r, σ1, ad1, a1, hq _ _ a2, a3⟩, h5⟩, h6⟩
theorem am_Ct_mono {as : List am_V} (hq : ∀ r s, Q r s → Q' r s) (k : am_Ct l dC dI tc M d n1 as σ Q) : am_Ct l dC dI tc M d n1 as σ Q' := by
  intro ad sz h1 h2 p e ha hc hk s m args below hf hp hP hK
  obtain ⟨t, o, g1, g2, g3, ⟨⟨⟨r, σ1, ad1, a1, a2, a3⟩, h5⟩, h6⟩⟩ := k ad sz h1 h2 p e ha hc hk s m args below hf hp hP hK
  exact ⟨t, o, g1, g2, g3, ⟨⟨⟨r, σ1, ad1, a1, hq _ _ a2, a3⟩, h5⟩, h6⟩⟩
/-- a switch by a table: xs is the default's place, then the places from lo on -/
theorem am_sw {pc nx0 t0 : Nat} {ts : List Nat} {dflt lo hi kk : Int} {offs : Array Int} {x : Int} (he : am_at M.2.2.2.2 i = some (pc, .tableswitch dflt lo hi offs, nx0, t0 :: ts, kk)) (hsw : am_swk M pc dflt lo hi offs t0 ts = true)
    (ko : x < lo ∨ hi < x → am_wp l dC dI tc M d n0 n1 Q t0 lv r σ) (ki : ∀ (j t : Nat), am_at ts j = some t → x = lo + (j : Int) → am_wp l dC dI tc M d n0 n1 Q t lv r σ) : am_wp l dC dI tc M d n0 n1 Q i lv (.inl x :: r) σ := by
  intro hok p e s m args below meth c ad0 A hB ad H locs ls hS
  have ho := hok i _ he
  have hp : am_pcd M i = pc := by unfold am_pcd; rw [he]
  obtain ⟨hx, hr⟩ := hS.vs
  have hdec : decode M.2.1 pc = .ok (.tableswitch dflt lo hi offs, kk.toNat) := by
    simp only [am_oke, Bool.and_eq_true, decide_eq_true_eq] at ho
    exact ho.1.1.1
  simp only [am_swk, Bool.and_eq_true, decide_eq_true_eq, List.all_eq_true, List.mem_range] at hsw
  obtain ⟨⟨⟨w1, w2⟩, w3⟩, w4⟩ := hsw
  rw [hp]
  have hxi := am_ti hx
  by_cases hz : x < lo ∨ hi < x
  · exact lv_tableOut hB.1 hB.2.1 hdec (by rw [hxi]; exact hz) w1 (ko hz hok p e s m args below meth c ad0 A hB ad H locs ls (hS.sk hr))
  · have hj : (x - lo).toNat < ts.length := by omega
    have hg : am_at ts (x - lo).toNat = some ts[(x - lo).toNat] := by rw [am_at_eq]; exact List.getElem?_eq_getElem hj
    have h4 := w4 (x - lo).toNat (by omega)
    obtain ⟨off, ho1, ho2⟩ : ∃ off, offs[(x - lo).toNat]? = some off ∧ (pc : Int) + off = (am_pcd M ts[(x - lo).toNat] : Int) := by
      rw [hg] at h4
      cases hq : offs[(x - lo).toNat]? with
      | none => rw [hq] at h4; simp at h4
      | some off => rw [hq] at h4; exact ⟨off, rfl, by simpa using h4⟩
    exact lv_tableIn hB.1 hB.2.1 hdec (by rw [hxi]; omega) (by rw [hxi]; omega) (by rw [hxi]; exact ho1) ho2 (ki _ _ hg (by omega) hok p e s m args below meth c ad0 A hB ad H locs ls (hS.sk hr))
end Tools

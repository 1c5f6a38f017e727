/-- where the object's own references go -/
def pr_r (f s c : Nat) : Nat → Nat → Option Nat := fun a b => match a, b with
  | 0, 0 => some 1
  | 0, 3 => some 2
  | 0, 4 => some 7
  | 0, 5 => some 12
  | 0, 6 => some 18
  | 0, 7 => some 22
  | 0, 8 => some 37
  | _, _ => none
set_option maxRecDepth 100000 in
set_option maxHeartbeats 4000000 in
theorem ct_sign (l : Launch) (dC : Nat → ClassId) (dI : Nat → Nat → Nat) (tc : Nat → ClassId) (h : Nat → Nat → Int) (a b c : Nat) (x : Int) (hl : 0 ≤ h 0 1 ∧ h 0 1 ≤ 60) :
    am_Ct l dC dI tc mm0_sign 1 58 [.inr (.inr (some 0)), .inl x] (58, h, pr_r a b c) (fun r σ => if x < 32 ∨ 126 < x ∨ h 0 1 = 60 then r = some (.inl 0) ∧ σ = (58, h, pr_r a b c) else r = some (.inl 1) ∧ σ = (58, am_u1 (am_u1 h 1 (h 0 1).toNat x) 0 1 (h 0 1 + 1), pr_r a b c)) := by
  refine am_enter ok_0_sign rfl (by decide) (Nat.le_of_ble_eq_true rfl) rfl ?_
  repeat' first
    | (refine am_go rfl (by first | exact True.intro | omega) ?_)
    | (refine am_if rfl (fun c1 => ?_) (fun c1 => ?_))
    | (refine am_zret rfl rfl (by first | exact Or.inl rfl | exact Or.inr rfl) rfl ?_)
  · rw [if_pos (by omega)]; exact ⟨rfl, rfl⟩
  · rw [if_pos (by omega)]; exact ⟨rfl, rfl⟩
  · trace_state
    rw [if_neg (by omega)]; exact ⟨rfl, rfl⟩
  · rw [if_pos (by omega)]; exact ⟨rfl, rfl⟩

/-! the start: both objects new -/
def jF0 : Nat → Nat → Int := jF_6_38 (am_n1 (jF_0_0 (fun _ _ => 0)) 38)
def jG0 : Nat → Int → Int := jG_6_38 (am_n3 (jG_0_0 (fun _ _ => 0)) 38)
def jR0 : Nat → Nat → Option Nat := jR_6_38 (am_n2 (jR_0_0 (fun _ _ => none)) 38)
set_option maxRecDepth 100000 in
theorem jSim0 : zSim jF0 jG0 23 26 29 := by
  have f20 : jF0 2 0 = 0 := rfl
  have f120 : jF0 12 0 = 0 := rfl
  have f180 : jF0 18 0 = 0 := rfl
  have f01 : jF0 0 1 = 0 := rfl
  have f09 : jF0 0 9 = 0 := rfl
  refine ⟨⟨⟨Or.inl ⟨rfl, rfl, rfl⟩, ⟨by rw [f20]; omega, fun x x1 x2 => by rw [f20] at x2; omega, by rw [f120]; omega, fun y y1 y2 => ?_, fun y z y1 y2 z1 z2 => ?_, fun y z i y1 y2 z1 z2 i1 i2 => ?_, by rw [f180]; omega⟩, fun j j1 j2 => ?_, Or.inl rfl⟩, ⟨rfl, fun k k1 k2 => by rw [f20] at k2; omega, fun k k1 k2 => by rw [f20] at k2; omega, fun k k1 k2 => by rw [f20] at k2; omega, rfl, fun y y1 y2 => by rw [f120] at y2; omega, fun y z y1 y2 => by rw [f120] at y2; omega, fun y z i y1 y2 => by rw [f120] at y2; omega, rfl, fun i i1 i2 => by rw [f180] at i2; omega, fun h => by rw [f20] at h; omega, fun k k1 k2 => by rw [f20] at k2; omega, fun h => by rw [f20] at h; omega, fun j k j1 j2 => by rw [f20] at j2; omega⟩, Or.inl rfl⟩, ⟨rfl, by rw [f01]; omega, fun i i1 i2 => by rw [f01] at i2; omega⟩, ⟨rfl, by rw [f09]; omega, fun i i1 i2 => by rw [f09] at i2; omega⟩, rfl⟩
  · have e : jG0 13 y = 0 := rfl
    rw [e, f120]
    omega
  · have e : jG0 13 y = 0 := rfl
    have e2 : jG0 14 (y * 5 + z) = 0 := rfl
    rw [e, e2]
    omega
  · have e2 : jG0 14 (y * 5 + z) = 0 := rfl
    rw [e2] at i2
    omega
  · have e1 : jG0 33 (j * 2) = 0 := rfl
    have e2 : jG0 33 (j * 2 + 1) = 0 := rfl
    unfold zOk
    rw [e1, e2]
    omega

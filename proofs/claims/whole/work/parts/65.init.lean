/-! the constructors -/
section Ini
variable {l : Launch} {dC : Nat → ClassId} {dI : Nat → Nat → Nat} {tc : Nat → ClassId} {f : Nat → Nat → Int} {g : Nat → Int → Int} {r : Nat → Nat → Option Nat}
def jF_1_2 (f : Nat → Nat → Int) : Nat → Nat → Int := (am_u1 (am_u1 (am_n1 (am_n1 (am_n1 (am_n1 (am_u1 (am_u1 f 2 0 0) 2 1 0) 3) 4) 5) 6) 2 6 0) 2 7 (-1))
def jG_1_2 (g : Nat → Int → Int) : Nat → Int → Int := (am_n3 (am_n3 (am_n3 (am_n3 g 3) 4) 5) 6)
def jR_1_2 (r : Nat → Nat → Option Nat) : Nat → Nat → Option Nat := (am_u2 (am_n2 (am_u2 (am_n2 (am_u2 (am_n2 (am_u2 (am_n2 r 3) 2 2 (some 3)) 4) 2 3 (some 4)) 5) 2 4 (some 5)) 6) 2 5 (some 6))
set_option maxRecDepth 100000 in
set_option maxHeartbeats 4000000 in
theorem cI_1_2 : am_Ct l dC dI tc mm1_init 1 7 [(.inr (.inr (some 2)))] (3, f, g, r) (fun rv s => rv = none ∧ s = (7, jF_1_2 f, jG_1_2 g, jR_1_2 r)) := by
  refine am_enter ok_1_init rfl (by decide) (Nat.le_of_ble_eq_true rfl) rfl ?_
  iterate 30 (refine am_go rfl (by first | exact True.intro | omega | exact ⟨by decide, Nat.le_of_ble_eq_true rfl, Nat.le_of_ble_eq_true rfl⟩ | exact ⟨by decide, Nat.le_of_ble_eq_true rfl⟩) ?_)
  exact am_vret (x := 0) rfl rfl rfl ⟨rfl, rfl⟩
def jF_1_7 (f : Nat → Nat → Int) : Nat → Nat → Int := (am_u1 (am_u1 (am_n1 (am_n1 (am_n1 (am_n1 (am_u1 (am_u1 f 7 0 0) 7 1 0) 8) 9) 10) 11) 7 6 0) 7 7 (-1))
def jG_1_7 (g : Nat → Int → Int) : Nat → Int → Int := (am_n3 (am_n3 (am_n3 (am_n3 g 8) 9) 10) 11)
def jR_1_7 (r : Nat → Nat → Option Nat) : Nat → Nat → Option Nat := (am_u2 (am_n2 (am_u2 (am_n2 (am_u2 (am_n2 (am_u2 (am_n2 r 8) 7 2 (some 8)) 9) 7 3 (some 9)) 10) 7 4 (some 10)) 11) 7 5 (some 11))
set_option maxRecDepth 100000 in
set_option maxHeartbeats 4000000 in
theorem cI_1_7 : am_Ct l dC dI tc mm1_init 1 12 [(.inr (.inr (some 7)))] (8, f, g, r) (fun rv s => rv = none ∧ s = (12, jF_1_7 f, jG_1_7 g, jR_1_7 r)) := by
  refine am_enter ok_1_init rfl (by decide) (Nat.le_of_ble_eq_true rfl) rfl ?_
  iterate 30 (refine am_go rfl (by first | exact True.intro | omega | exact ⟨by decide, Nat.le_of_ble_eq_true rfl, Nat.le_of_ble_eq_true rfl⟩ | exact ⟨by decide, Nat.le_of_ble_eq_true rfl⟩) ?_)
  exact am_vret (x := 0) rfl rfl rfl ⟨rfl, rfl⟩
def jF_2_12 (f : Nat → Nat → Int) : Nat → Nat → Int := (am_n1 (am_n1 (am_n1 (am_n1 (am_n1 (am_u1 f 12 0 0) 13) 14) 15) 16) 17)
def jG_2_12 (g : Nat → Int → Int) : Nat → Int → Int := (am_n3 (am_n3 (am_n3 (am_n3 (am_n3 g 13) 14) 15) 16) 17)
def jR_2_12 (r : Nat → Nat → Option Nat) : Nat → Nat → Option Nat := (am_u2 (am_n2 (am_u2 (am_n2 (am_u2 (am_n2 (am_u2 (am_n2 (am_u2 (am_n2 r 13) 12 1 (some 13)) 14) 12 2 (some 14)) 15) 12 3 (some 15)) 16) 12 4 (some 16)) 17) 12 5 (some 17))
set_option maxRecDepth 100000 in
set_option maxHeartbeats 4000000 in
theorem cI_2_12 : am_Ct l dC dI tc mm2_init 1 18 [(.inr (.inr (some 12)))] (13, f, g, r) (fun rv s => rv = none ∧ s = (18, jF_2_12 f, jG_2_12 g, jR_2_12 r)) := by
  refine am_enter ok_2_init rfl (by decide) (Nat.le_of_ble_eq_true rfl) rfl ?_
  iterate 25 (refine am_go rfl (by first | exact True.intro | omega | exact ⟨by decide, Nat.le_of_ble_eq_true rfl, Nat.le_of_ble_eq_true rfl⟩ | exact ⟨by decide, Nat.le_of_ble_eq_true rfl⟩) ?_)
  exact am_vret (x := 0) rfl rfl rfl ⟨rfl, rfl⟩
def jF_3_18 (f : Nat → Nat → Int) : Nat → Nat → Int := (am_n1 (am_n1 (am_n1 (am_u1 f 18 0 0) 19) 20) 21)
def jG_3_18 (g : Nat → Int → Int) : Nat → Int → Int := (am_n3 (am_n3 (am_n3 g 19) 20) 21)
def jR_3_18 (r : Nat → Nat → Option Nat) : Nat → Nat → Option Nat := (am_u2 (am_n2 (am_u2 (am_n2 (am_u2 (am_n2 r 19) 18 1 (some 19)) 20) 18 2 (some 20)) 21) 18 3 (some 21))
set_option maxRecDepth 100000 in
set_option maxHeartbeats 4000000 in
theorem cI_3_18 : am_Ct l dC dI tc mm3_init 1 22 [(.inr (.inr (some 18)))] (19, f, g, r) (fun rv s => rv = none ∧ s = (22, jF_3_18 f, jG_3_18 g, jR_3_18 r)) := by
  refine am_enter ok_3_init rfl (by decide) (Nat.le_of_ble_eq_true rfl) rfl ?_
  iterate 17 (refine am_go rfl (by first | exact True.intro | omega | exact ⟨by decide, Nat.le_of_ble_eq_true rfl, Nat.le_of_ble_eq_true rfl⟩ | exact ⟨by decide, Nat.le_of_ble_eq_true rfl⟩) ?_)
  exact am_vret (x := 0) rfl rfl rfl ⟨rfl, rfl⟩
def jF_5_23 (f : Nat → Nat → Int) : Nat → Nat → Int := (am_n1 (am_n1 (am_u1 (am_u1 (am_u1 f 23 0 (-1)) 23 1 (-1)) 23 2 0) 24) 25)
def jG_5_23 (g : Nat → Int → Int) : Nat → Int → Int := (am_n3 (am_n3 g 24) 25)
def jR_5_23 (r : Nat → Nat → Option Nat) : Nat → Nat → Option Nat := (am_u2 (am_n2 (am_u2 (am_n2 r 24) 23 3 (some 24)) 25) 23 4 (some 25))
set_option maxRecDepth 100000 in
set_option maxHeartbeats 4000000 in
theorem cI_5_23 : am_Ct l dC dI tc mm5_init 1 26 [(.inr (.inr (some 23)))] (24, f, g, r) (fun rv s => rv = none ∧ s = (26, jF_5_23 f, jG_5_23 g, jR_5_23 r)) := by
  refine am_enter ok_5_init rfl (by decide) (Nat.le_of_ble_eq_true rfl) rfl ?_
  iterate 19 (refine am_go rfl (by first | exact True.intro | omega | exact ⟨by decide, Nat.le_of_ble_eq_true rfl, Nat.le_of_ble_eq_true rfl⟩ | exact ⟨by decide, Nat.le_of_ble_eq_true rfl⟩) ?_)
  exact am_vret (x := 0) rfl rfl rfl ⟨rfl, rfl⟩
def jF_5_26 (f : Nat → Nat → Int) : Nat → Nat → Int := (am_n1 (am_n1 (am_u1 (am_u1 (am_u1 f 26 0 (-1)) 26 1 (-1)) 26 2 0) 27) 28)
def jG_5_26 (g : Nat → Int → Int) : Nat → Int → Int := (am_n3 (am_n3 g 27) 28)
def jR_5_26 (r : Nat → Nat → Option Nat) : Nat → Nat → Option Nat := (am_u2 (am_n2 (am_u2 (am_n2 r 27) 26 3 (some 27)) 28) 26 4 (some 28))
set_option maxRecDepth 100000 in
set_option maxHeartbeats 4000000 in
theorem cI_5_26 : am_Ct l dC dI tc mm5_init 1 29 [(.inr (.inr (some 26)))] (27, f, g, r) (fun rv s => rv = none ∧ s = (29, jF_5_26 f, jG_5_26 g, jR_5_26 r)) := by
  refine am_enter ok_5_init rfl (by decide) (Nat.le_of_ble_eq_true rfl) rfl ?_
  iterate 19 (refine am_go rfl (by first | exact True.intro | omega | exact ⟨by decide, Nat.le_of_ble_eq_true rfl, Nat.le_of_ble_eq_true rfl⟩ | exact ⟨by decide, Nat.le_of_ble_eq_true rfl⟩) ?_)
  exact am_vret (x := 0) rfl rfl rfl ⟨rfl, rfl⟩
def jF_5_29 (f : Nat → Nat → Int) : Nat → Nat → Int := (am_n1 (am_n1 (am_u1 (am_u1 (am_u1 f 29 0 (-1)) 29 1 (-1)) 29 2 0) 30) 31)
def jG_5_29 (g : Nat → Int → Int) : Nat → Int → Int := (am_n3 (am_n3 g 30) 31)
def jR_5_29 (r : Nat → Nat → Option Nat) : Nat → Nat → Option Nat := (am_u2 (am_n2 (am_u2 (am_n2 r 30) 29 3 (some 30)) 31) 29 4 (some 31))
set_option maxRecDepth 100000 in
set_option maxHeartbeats 4000000 in
theorem cI_5_29 : am_Ct l dC dI tc mm5_init 1 32 [(.inr (.inr (some 29)))] (30, f, g, r) (fun rv s => rv = none ∧ s = (32, jF_5_29 f, jG_5_29 g, jR_5_29 r)) := by
  refine am_enter ok_5_init rfl (by decide) (Nat.le_of_ble_eq_true rfl) rfl ?_
  iterate 19 (refine am_go rfl (by first | exact True.intro | omega | exact ⟨by decide, Nat.le_of_ble_eq_true rfl, Nat.le_of_ble_eq_true rfl⟩ | exact ⟨by decide, Nat.le_of_ble_eq_true rfl⟩) ?_)
  exact am_vret (x := 0) rfl rfl rfl ⟨rfl, rfl⟩
def jF_4_22 (f : Nat → Nat → Int) : Nat → Nat → Int := (am_u1 (am_u1 (am_n1 (am_n1 (am_n1 (am_n1 (am_n1 (am_u1 (jF_5_29 (am_n1 (am_u1 (jF_5_26 (am_n1 (jF_5_23 (am_n1 f 23)) 26)) 22 2 0) 29)) 22 4 0) 32) 33) 34) 35) 36) 22 13 0) 22 14 (-1))
def jG_4_22 (g : Nat → Int → Int) : Nat → Int → Int := (am_n3 (am_n3 (am_n3 (am_n3 (am_n3 (jG_5_29 (am_n3 (jG_5_26 (am_n3 (jG_5_23 (am_n3 g 23)) 26)) 29)) 32) 33) 34) 35) 36)
def jR_4_22 (r : Nat → Nat → Option Nat) : Nat → Nat → Option Nat := (am_u2 (am_u2 (am_u2 (am_u2 (am_n2 (am_u2 (am_n2 (am_u2 (am_n2 (am_u2 (am_n2 (am_u2 (am_n2 (am_u2 (jR_5_29 (am_n2 (am_u2 (jR_5_26 (am_n2 (am_u2 (jR_5_23 (am_n2 r 23)) 22 0 (some 23)) 26)) 22 1 (some 26)) 29)) 22 3 (some 29)) 32) 22 8 (some 32)) 33) 22 9 (some 33)) 34) 22 10 (some 34)) 35) 22 11 (some 35)) 36) 22 12 (some 36)) 22 5 (some 2)) 22 6 (some 12)) 22 7 (some 18))
set_option maxRecDepth 100000 in
set_option maxHeartbeats 4000000 in
theorem cI_4_22 : am_Ct l dC dI tc mm4_init 2 37 [(.inr (.inr (some 22))), (.inr (.inr (some 2))), (.inr (.inr (some 12))), (.inr (.inr (some 18)))] (23, f, g, r) (fun rv s => rv = none ∧ s = (37, jF_4_22 f, jG_4_22 g, jR_4_22 r)) := by
  refine am_enter ok_4_init rfl (by decide) (Nat.le_of_ble_eq_true rfl) rfl ?_
  iterate 5 (refine am_go rfl (by first | exact True.intro | omega | exact ⟨by decide, Nat.le_of_ble_eq_true rfl, Nat.le_of_ble_eq_true rfl⟩ | exact ⟨by decide, Nat.le_of_ble_eq_true rfl⟩) ?_)
  refine am_call rfl (cI_5_23) (by decide) (Nat.le_of_ble_eq_true rfl) (Nat.le_of_ble_eq_true rfl) (Nat.le_of_ble_eq_true rfl) (fun rv s q => ?_)
  obtain ⟨rfl, rfl⟩ := q
  iterate 4 (refine am_go rfl (by first | exact True.intro | omega | exact ⟨by decide, Nat.le_of_ble_eq_true rfl, Nat.le_of_ble_eq_true rfl⟩ | exact ⟨by decide, Nat.le_of_ble_eq_true rfl⟩) ?_)
  refine am_call rfl (cI_5_26) (by decide) (Nat.le_of_ble_eq_true rfl) (Nat.le_of_ble_eq_true rfl) (Nat.le_of_ble_eq_true rfl) (fun rv s q => ?_)
  obtain ⟨rfl, rfl⟩ := q
  iterate 7 (refine am_go rfl (by first | exact True.intro | omega | exact ⟨by decide, Nat.le_of_ble_eq_true rfl, Nat.le_of_ble_eq_true rfl⟩ | exact ⟨by decide, Nat.le_of_ble_eq_true rfl⟩) ?_)
  refine am_call rfl (cI_5_29) (by decide) (Nat.le_of_ble_eq_true rfl) (Nat.le_of_ble_eq_true rfl) (Nat.le_of_ble_eq_true rfl) (fun rv s q => ?_)
  obtain ⟨rfl, rfl⟩ := q
  iterate 39 (refine am_go rfl (by first | exact True.intro | omega | exact ⟨by decide, Nat.le_of_ble_eq_true rfl, Nat.le_of_ble_eq_true rfl⟩ | exact ⟨by decide, Nat.le_of_ble_eq_true rfl⟩) ?_)
  exact am_vret (x := 0) rfl rfl rfl ⟨rfl, rfl⟩
def jF_0_0 (f : Nat → Nat → Int) : Nat → Nat → Int := (am_u1 (am_n1 (jF_4_22 (am_n1 (jF_3_18 (am_n1 (jF_2_12 (am_n1 (jF_1_7 (am_n1 (jF_1_2 (am_n1 (am_u1 (am_u1 (am_n1 f 1) 0 1 0) 0 2 (-1)) 2)) 7)) 12)) 18)) 22)) 37) 0 9 0)
def jG_0_0 (g : Nat → Int → Int) : Nat → Int → Int := (am_n3 (jG_4_22 (am_n3 (jG_3_18 (am_n3 (jG_2_12 (am_n3 (jG_1_7 (am_n3 (jG_1_2 (am_n3 (am_n3 g 1) 2)) 7)) 12)) 18)) 22)) 37)
def jR_0_0 (r : Nat → Nat → Option Nat) : Nat → Nat → Option Nat := (am_u2 (am_n2 (am_u2 (jR_4_22 (am_n2 (am_u2 (jR_3_18 (am_n2 (am_u2 (jR_2_12 (am_n2 (am_u2 (jR_1_7 (am_n2 (am_u2 (jR_1_2 (am_n2 (am_u2 (am_n2 r 1) 0 0 (some 1)) 2)) 0 3 (some 2)) 7)) 0 4 (some 7)) 12)) 0 5 (some 12)) 18)) 0 6 (some 18)) 22)) 0 7 (some 22)) 37) 0 8 (some 37))
set_option maxRecDepth 100000 in
set_option maxHeartbeats 4000000 in
theorem cI_0_0 : am_Ct l dC dI tc mm0_init 3 38 [(.inr (.inr (some 0)))] (1, f, g, r) (fun rv s => rv = none ∧ s = (38, jF_0_0 f, jG_0_0 g, jR_0_0 r)) := by
  refine am_enter ok_0_init rfl (by decide) (Nat.le_of_ble_eq_true rfl) rfl ?_
  iterate 15 (refine am_go rfl (by first | exact True.intro | omega | exact ⟨by decide, Nat.le_of_ble_eq_true rfl, Nat.le_of_ble_eq_true rfl⟩ | exact ⟨by decide, Nat.le_of_ble_eq_true rfl⟩) ?_)
  refine am_call rfl (cI_1_2) (by decide) (Nat.le_of_ble_eq_true rfl) (Nat.le_of_ble_eq_true rfl) (Nat.le_of_ble_eq_true rfl) (fun rv s q => ?_)
  obtain ⟨rfl, rfl⟩ := q
  iterate 4 (refine am_go rfl (by first | exact True.intro | omega | exact ⟨by decide, Nat.le_of_ble_eq_true rfl, Nat.le_of_ble_eq_true rfl⟩ | exact ⟨by decide, Nat.le_of_ble_eq_true rfl⟩) ?_)
  refine am_call rfl (cI_1_7) (by decide) (Nat.le_of_ble_eq_true rfl) (Nat.le_of_ble_eq_true rfl) (Nat.le_of_ble_eq_true rfl) (fun rv s q => ?_)
  obtain ⟨rfl, rfl⟩ := q
  iterate 4 (refine am_go rfl (by first | exact True.intro | omega | exact ⟨by decide, Nat.le_of_ble_eq_true rfl, Nat.le_of_ble_eq_true rfl⟩ | exact ⟨by decide, Nat.le_of_ble_eq_true rfl⟩) ?_)
  refine am_call rfl (cI_2_12) (by decide) (Nat.le_of_ble_eq_true rfl) (Nat.le_of_ble_eq_true rfl) (Nat.le_of_ble_eq_true rfl) (fun rv s q => ?_)
  obtain ⟨rfl, rfl⟩ := q
  iterate 4 (refine am_go rfl (by first | exact True.intro | omega | exact ⟨by decide, Nat.le_of_ble_eq_true rfl, Nat.le_of_ble_eq_true rfl⟩ | exact ⟨by decide, Nat.le_of_ble_eq_true rfl⟩) ?_)
  refine am_call rfl (cI_3_18) (by decide) (Nat.le_of_ble_eq_true rfl) (Nat.le_of_ble_eq_true rfl) (Nat.le_of_ble_eq_true rfl) (fun rv s q => ?_)
  obtain ⟨rfl, rfl⟩ := q
  iterate 6 (refine am_go rfl (by first | exact True.intro | omega | exact ⟨by decide, Nat.le_of_ble_eq_true rfl, Nat.le_of_ble_eq_true rfl⟩ | exact ⟨by decide, Nat.le_of_ble_eq_true rfl⟩) ?_)
  rw [show (am_n2 (am_u2 (jR_3_18 (am_n2 (am_u2 (jR_2_12 (am_n2 (am_u2 (jR_1_7 (am_n2 (am_u2 (jR_1_2 (am_n2 (am_u2 (am_n2 r 1) 0 0 (some 1)) 2)) 0 3 (some 2)) 7)) 0 4 (some 7)) 12)) 0 5 (some 12)) 18)) 0 6 (some 18)) 22) 0 3 = some 2 from rfl]
  iterate 2 (refine am_go rfl (by first | exact True.intro | omega | exact ⟨by decide, Nat.le_of_ble_eq_true rfl, Nat.le_of_ble_eq_true rfl⟩ | exact ⟨by decide, Nat.le_of_ble_eq_true rfl⟩) ?_)
  rw [show (am_n2 (am_u2 (jR_3_18 (am_n2 (am_u2 (jR_2_12 (am_n2 (am_u2 (jR_1_7 (am_n2 (am_u2 (jR_1_2 (am_n2 (am_u2 (am_n2 r 1) 0 0 (some 1)) 2)) 0 3 (some 2)) 7)) 0 4 (some 7)) 12)) 0 5 (some 12)) 18)) 0 6 (some 18)) 22) 0 5 = some 12 from rfl]
  iterate 2 (refine am_go rfl (by first | exact True.intro | omega | exact ⟨by decide, Nat.le_of_ble_eq_true rfl, Nat.le_of_ble_eq_true rfl⟩ | exact ⟨by decide, Nat.le_of_ble_eq_true rfl⟩) ?_)
  rw [show (am_n2 (am_u2 (jR_3_18 (am_n2 (am_u2 (jR_2_12 (am_n2 (am_u2 (jR_1_7 (am_n2 (am_u2 (jR_1_2 (am_n2 (am_u2 (am_n2 r 1) 0 0 (some 1)) 2)) 0 3 (some 2)) 7)) 0 4 (some 7)) 12)) 0 5 (some 12)) 18)) 0 6 (some 18)) 22) 0 6 = some 18 from rfl]
  refine am_call rfl (cI_4_22) (by decide) (Nat.le_of_ble_eq_true rfl) (Nat.le_of_ble_eq_true rfl) (Nat.le_of_ble_eq_true rfl) (fun rv s q => ?_)
  obtain ⟨rfl, rfl⟩ := q
  iterate 8 (refine am_go rfl (by first | exact True.intro | omega | exact ⟨by decide, Nat.le_of_ble_eq_true rfl, Nat.le_of_ble_eq_true rfl⟩ | exact ⟨by decide, Nat.le_of_ble_eq_true rfl⟩) ?_)
  exact am_vret (x := 0) rfl rfl rfl ⟨rfl, rfl⟩
def jF_6_38 (f : Nat → Nat → Int) : Nat → Nat → Int := (am_n1 (am_n1 (am_n1 (am_n1 (am_n1 (am_n1 (am_n1 (am_n1 (am_n1 (am_n1 (am_n1 (am_n1 (am_n1 (am_n1 (am_n1 (am_n1 (am_n1 (am_n1 (am_u1 (am_n1 f 39) 38 3 (-1)) 40) 41) 42) 43) 44) 45) 46) 47) 48) 49) 50) 51) 52) 53) 54) 55) 56) 57)
def jG_6_38 (g : Nat → Int → Int) : Nat → Int → Int := (am_n3 (am_n3 (am_n3 (am_n3 (am_n3 (am_n3 (am_n3 (am_n3 (am_n3 (am_n3 (am_n3 (am_n3 (am_n3 (am_n3 (am_n3 (am_n3 (am_n3 (am_n3 (am_n3 g 39) 40) 41) 42) 43) 44) 45) 46) 47) 48) 49) 50) 51) 52) 53) 54) 55) 56) 57)
def jR_6_38 (r : Nat → Nat → Option Nat) : Nat → Nat → Option Nat := (am_u2 (am_n2 (am_u2 (am_n2 (am_u2 (am_n2 (am_u2 (am_n2 (am_u2 (am_n2 (am_u2 (am_n2 (am_u2 (am_n2 (am_u2 (am_n2 (am_u2 (am_n2 (am_u2 (am_n2 (am_u2 (am_n2 (am_u2 (am_n2 (am_u2 (am_n2 (am_u2 (am_n2 (am_u2 (am_n2 (am_u2 (am_n2 (am_u2 (am_n2 (am_u2 (am_n2 (am_u2 (am_n2 r 39) 38 2 (some 39)) 40) 38 6 (some 40)) 41) 38 7 (some 41)) 42) 38 8 (some 42)) 43) 38 10 (some 43)) 44) 38 11 (some 44)) 45) 38 12 (some 45)) 46) 38 14 (some 46)) 47) 38 15 (some 47)) 48) 38 16 (some 48)) 49) 38 17 (some 49)) 50) 38 18 (some 50)) 51) 38 20 (some 51)) 52) 38 23 (some 52)) 53) 38 24 (some 53)) 54) 38 25 (some 54)) 55) 38 26 (some 55)) 56) 38 27 (some 56)) 57) 38 29 (some 57))
set_option maxRecDepth 100000 in
set_option maxHeartbeats 4000000 in
theorem cI_6_38 : am_Ct l dC dI tc mm6_init 1 58 [(.inr (.inr (some 38)))] (39, f, g, r) (fun rv s => rv = none ∧ s = (58, jF_6_38 f, jG_6_38 g, jR_6_38 r)) := by
  refine am_enter ok_6_init rfl (by decide) (Nat.le_of_ble_eq_true rfl) rfl ?_
  iterate 81 (refine am_go rfl (by first | exact True.intro | omega | exact ⟨by decide, Nat.le_of_ble_eq_true rfl, Nat.le_of_ble_eq_true rfl⟩ | exact ⟨by decide, Nat.le_of_ble_eq_true rfl⟩) ?_)
  exact am_vret (x := 0) rfl rfl rfl ⟨rfl, rfl⟩
end Ini

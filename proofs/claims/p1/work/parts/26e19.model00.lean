/-! ===== 19.model: piece 0 ===== -/
noncomputable def kyt0 : List (Nat × Nat × dCode) := []
-- X13_scan: 123588 instructions with what it calls
set_option maxRecDepth 1000000 in
set_option maxHeartbeats 4000000 in
theorem kyk0 : dok (drun (dPo kyt0) 1000000 37 317 0 [(0, .inr (.inr 127))] [] kh14) (none) kh15 = true := by decide +kernel
theorem kyg0 (l : Launch) (hfl : l.stackTraces = false) (D : dD) (b : Nat → Nat) : hwf kh14 → dG l D b 37 317 0 [(0, .inr (.inr 127))] [] kh14 (none) kh15 := dG_of hfl (tab := kyt0) (by
  intro e he
  unfold kyt0 at he
  cases he) kyk0

/-! ===== 19.model: piece 1 ===== -/
noncomputable def kyt1 : List (Nat × Nat × dCode) := []
-- X13_readRules: 57848 instructions with what it calls
set_option maxRecDepth 1000000 in
set_option maxHeartbeats 4000000 in
theorem kyk1 : dok (drun (dPo kyt1) 1000000 37 366 0 [(0, .inr (.inr 127))] [] kh15) (none) kh16 = true := by decide +kernel
theorem kyg1 (l : Launch) (hfl : l.stackTraces = false) (D : dD) (b : Nat → Nat) : hwf kh15 → dG l D b 37 366 0 [(0, .inr (.inr 127))] [] kh15 (none) kh16 := dG_of hfl (tab := kyt1) (by
  intro e he
  unfold kyt1 at he
  cases he) kyk1

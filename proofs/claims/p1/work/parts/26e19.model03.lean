/-! ===== 19.model: piece 3 ===== -/
noncomputable def kyt3 : List (Nat × Nat × dCode) := []
-- X13_findRefs: 80640 instructions with what it calls
set_option maxRecDepth 1000000 in
set_option maxHeartbeats 4000000 in
theorem kyk3 : dok (drun (dPo kyt3) 1000000 37 374 0 [(0, .inr (.inr 127))] [] kh17) (none) kh18 = true := by decide +kernel
theorem kyg3 (l : Launch) (hfl : l.stackTraces = false) (D : dD) (b : Nat → Nat) : hwf kh17 → dG l D b 37 374 0 [(0, .inr (.inr 127))] [] kh17 (none) kh18 := dG_of hfl (tab := kyt3) (by
  intro e he
  unfold kyt3 at he
  cases he) kyk3

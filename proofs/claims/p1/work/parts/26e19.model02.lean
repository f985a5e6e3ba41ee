/-! ===== 19.model: piece 2 ===== -/
noncomputable def kyt2 : List (Nat × Nat × dCode) := []
-- X13_collectRules: 76187 instructions with what it calls
set_option maxRecDepth 1000000 in
set_option maxHeartbeats 4000000 in
theorem kyk2 : dok (drun (dPo kyt2) 1000000 37 370 0 [(0, .inr (.inr 127)), (1, .inl 0)] [] kh16) (none) kh17 = true := by decide +kernel
theorem kyg2 (l : Launch) (hfl : l.stackTraces = false) (D : dD) (b : Nat → Nat) : hwf kh16 → dG l D b 37 370 0 [(0, .inr (.inr 127)), (1, .inl 0)] [] kh16 (none) kh17 := dG_of hfl (tab := kyt2) (by
  intro e he
  unfold kyt2 at he
  cases he) kyk2

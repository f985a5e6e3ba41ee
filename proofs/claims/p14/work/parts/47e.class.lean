/-! ===== the constructor: piece 4 ===== -/
noncomputable def kxt4 : List (Nat × Nat × dCode) := []
-- X7_readRules: 61488 instructions with what it calls
set_option maxRecDepth 1000000 in
set_option maxHeartbeats 4000000 in
theorem kxk4 : dok (drun (dPo kxt4) 1000000 39 147 0 [(0, .inr (.inr 85)), (1, .inr (.inr 3))] [] kh5) (some (.inl 1)) kh6 = true := by decide +kernel
theorem kxg4 (l : Launch) (hfl : l.stackTraces = false) (D : dD) (b : Nat → Nat) : hwf kh5 → dG l D b 39 147 0 [(0, .inr (.inr 85)), (1, .inr (.inr 3))] [] kh5 (some (.inl 1)) kh6 := dG_of hfl (tab := kxt4) (by
  intro e he
  unfold kxt4 at he
  cases he) kxk4

/-! ===== the constructor: piece 6 ===== -/
noncomputable def kxt6 : List (Nat × Nat × dCode) := []
-- X7_readRules: 61488 instructions with what it calls
set_option maxRecDepth 1000000 in
set_option maxHeartbeats 4000000 in
theorem kxk6 : dok (drun (dPo kxt6) 1000000 39 147 0 [(0, .inr (.inr 85)), (1, .inr (.inr 44))] [] kh8) (some (.inl 1)) kh9 = true := by decide +kernel
theorem kxg6 (l : Launch) (hfl : l.stackTraces = false) (D : dD) (b : Nat → Nat) : hwf kh8 → dG l D b 39 147 0 [(0, .inr (.inr 85)), (1, .inr (.inr 44))] [] kh8 (some (.inl 1)) kh9 := dG_of hfl (tab := kxt6) (by
  intro e he
  unfold kxt6 at he
  cases he) kxk6

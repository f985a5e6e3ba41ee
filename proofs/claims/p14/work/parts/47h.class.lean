/-! ===== the constructor: piece 7 ===== -/
noncomputable def kxt7 : List (Nat × Nat × dCode) := []
-- X0_bind: 167613 instructions with what it calls
set_option maxRecDepth 1000000 in
set_option maxHeartbeats 4000000 in
theorem kxk7 : dok (drun (dPo kxt7) 1000000 39 3 0 [(0, .inr (.inr 87)), (1, .inr (.inr 44))] [] kh9) (none) kh10 = true := by decide +kernel
theorem kxg7 (l : Launch) (hfl : l.stackTraces = false) (D : dD) (b : Nat → Nat) : hwf kh9 → dG l D b 39 3 0 [(0, .inr (.inr 87)), (1, .inr (.inr 44))] [] kh9 (none) kh10 := dG_of hfl (tab := kxt7) (by
  intro e he
  unfold kxt7 at he
  cases he) kxk7

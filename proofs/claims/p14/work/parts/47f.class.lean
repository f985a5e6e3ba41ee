/-! ===== the constructor: piece 5 ===== -/
noncomputable def kxt5 : List (Nat × Nat × dCode) := []
-- X0_bind: 167613 instructions with what it calls
set_option maxRecDepth 1000000 in
set_option maxHeartbeats 4000000 in
theorem kxk5 : dok (drun (dPo kxt5) 1000000 39 3 0 [(0, .inr (.inr 87)), (1, .inr (.inr 3))] [] kh6) (none) kh7 = true := by decide +kernel
theorem kxg5 (l : Launch) (hfl : l.stackTraces = false) (D : dD) (b : Nat → Nat) : hwf kh6 → dG l D b 39 3 0 [(0, .inr (.inr 87)), (1, .inr (.inr 3))] [] kh6 (none) kh7 := dG_of hfl (tab := kxt5) (by
  intro e he
  unfold kxt5 at he
  cases he) kxk5

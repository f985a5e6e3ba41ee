/-! ===== the constructor: piece 0 ===== -/
noncomputable def kxt0 : List (Nat × Nat × dCode) := []
-- X9_cut: 115040 instructions with what it calls
set_option maxRecDepth 1000000 in
set_option maxHeartbeats 4000000 in
theorem kxk0 : dok (drun (dPo kxt0) 1000000 38 211 0 [(0, .inr (.inr 4)), (1, .inl 0), (2, .inl 798)] [] kh2) (none) kh3 = true := by decide +kernel
theorem kxg0 (l : Launch) (hfl : l.stackTraces = false) (D : dD) (b : Nat → Nat) : hwf kh2 → dG l D b 38 211 0 [(0, .inr (.inr 4)), (1, .inl 0), (2, .inl 798)] [] kh2 (none) kh3 := dG_of hfl (tab := kxt0) (by
  intro e he
  unfold kxt0 at he
  cases he) kxk0

/-! ===== the constructor: piece 2 ===== -/
noncomputable def kxt2 : List (Nat × Nat × dCode) := []
-- X9_cut: 115040 instructions with what it calls
set_option maxRecDepth 1000000 in
set_option maxHeartbeats 4000000 in
theorem kxk2 : dok (drun (dPo kxt2) 1000000 38 211 0 [(0, .inr (.inr 45)), (1, .inl 0), (2, .inl 798)] [] kh4) (none) kh5 = true := by decide +kernel
theorem kxg2 (l : Launch) (hfl : l.stackTraces = false) (D : dD) (b : Nat → Nat) : hwf kh4 → dG l D b 38 211 0 [(0, .inr (.inr 45)), (1, .inl 0), (2, .inl 798)] [] kh4 (none) kh5 := dG_of hfl (tab := kxt2) (by
  intro e he
  unfold kxt2 at he
  cases he) kxk2

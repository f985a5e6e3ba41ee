/-! ===== 20.items: piece 0 ===== -/
noncomputable def kit0 : List (Nat × Nat × dCode) := []
-- X12_item: 141 instructions with what it calls
set_option maxRecDepth 1000000 in
set_option maxHeartbeats 4000000 in
theorem kik0 : dok (drun (dPo kit0) 1000000 40 289 0 [(0, .inr (.inr 1))] [] kh19) (some (.inl 4294967294)) kh20 = true := by decide +kernel
theorem kig0 (l : Launch) (hfl : l.stackTraces = false) (D : dD) (b : Nat → Nat) : hwf kh19 → dG l D b 40 289 0 [(0, .inr (.inr 1))] [] kh19 (some (.inl 4294967294)) kh20 := dG_of hfl (tab := kit0) (by
  intro e he
  unfold kit0 at he
  cases he) kik0

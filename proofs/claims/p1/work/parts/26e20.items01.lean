/-! ===== 20.items: piece 1 ===== -/
noncomputable def kjt0 : List (Nat × Nat × dCode) := []
-- X13_item: 77 instructions with what it calls
set_option maxRecDepth 1000000 in
set_option maxHeartbeats 4000000 in
theorem kjk0 : dok (drun (dPo kjt0) 1000000 40 434 0 [(0, .inr (.inr 127))] [] kh20) (some (.inl 4294967294)) kh21 = true := by decide +kernel
theorem kjg0 (l : Launch) (hfl : l.stackTraces = false) (D : dD) (b : Nat → Nat) : hwf kh20 → dG l D b 40 434 0 [(0, .inr (.inr 127))] [] kh20 (some (.inl 4294967294)) kh21 := dG_of hfl (tab := kjt0) (by
  intro e he
  unfold kjt0 at he
  cases he) kjk0

/-! ===== 21.gramx: piece 0 ===== -/
noncomputable def kpt0 : List (Nat × Nat × dCode) := []
-- X12_grammar: 78455 instructions with what it calls
set_option maxRecDepth 1000000 in
set_option maxHeartbeats 4000000 in
theorem kpk0 : dok (drun (dPo kpt0) 1000000 40 286 0 [(0, .inr (.inr 1))] [] kh19) (some (.inl 0)) kh22 = true := by decide +kernel
theorem kpg0 (l : Launch) (hfl : l.stackTraces = false) (D : dD) (b : Nat → Nat) : hwf kh19 → dG l D b 40 286 0 [(0, .inr (.inr 1))] [] kh19 (some (.inl 0)) kh22 := dG_of hfl (tab := kpt0) (by
  intro e he
  unfold kpt0 at he
  cases he) kpk0

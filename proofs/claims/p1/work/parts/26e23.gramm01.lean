/-! ===== 23.gramm: piece 1 ===== -/
noncomputable def kqt1 : List (Nat × Nat × dCode) := [(425, 0, dorc 38 [(0, .inr (.inr 127))] kh24 (none) kh26 (dnone))]
-- X13_mean: 1467140 instructions with what it calls
set_option maxRecDepth 1000000 in
set_option maxHeartbeats 4000000 in
theorem kqk1 : dok (drun (dPo kqt1) 1000000 39 500 0 [(0, .inr (.inr 127)), (1, .inl 1)] [] kh23) (none) kh26 = true := by decide +kernel
theorem kqg1 (l : Launch) (hfl : l.stackTraces = false) (D : dD) (b : Nat → Nat) : hwf kh23 → dG l D b 39 500 0 [(0, .inr (.inr 127)), (1, .inl 1)] [] kh23 (none) kh26 := dG_of hfl (tab := kqt1) (by
  intro e he
  unfold kqt1 at he
  simp only [List.mem_cons, List.not_mem_nil, or_false] at he
  cases he
  · exact dSum_orc (dSum_none) (kqg0 l hfl D b)) kqk1

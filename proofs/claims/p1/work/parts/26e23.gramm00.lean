/-! ===== 23.gramm: piece 0 ===== -/
noncomputable def kqt0 : List (Nat × Nat × dCode) := [(425, 24, dorc 38 [(1, .inl 0), (0, .inr (.inr 127))] kh25 (none) kh26 (dnone))]
-- X13_measure: 1358657 instructions with what it calls
set_option maxRecDepth 1000000 in
set_option maxHeartbeats 4000000 in
theorem kqk0 : dok (drun (dPo kqt0) 1000000 38 425 0 [(0, .inr (.inr 127))] [] kh24) (none) kh26 = true := by decide +kernel
theorem kqg0 (l : Launch) (hfl : l.stackTraces = false) (D : dD) (b : Nat → Nat) : hwf kh24 → dG l D b 38 425 0 [(0, .inr (.inr 127))] [] kh24 (none) kh26 := dG_of hfl (tab := kqt0) (by
  intro e he
  unfold kqt0 at he
  simp only [List.mem_cons, List.not_mem_nil, or_false] at he
  cases he
  · exact dSum_orc (dSum_none) (krg0 l hfl D b)) kqk0

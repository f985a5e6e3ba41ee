/-! ===== 19.model: piece 6 ===== -/
noncomputable def kyt6 : List (Nat × Nat × dCode) := [(499, 0, dorc 39 [(0, .inr (.inr 127))] kh13 (none) kh19 (dnone))]
-- X13_init: 366310 instructions with what it calls
set_option maxRecDepth 1000000 in
set_option maxHeartbeats 4000000 in
theorem kyk6 : dok (drun (dPo kyt6) 1000000 40 305 0 [(0, .inr (.inr 127))] [] kh12) (none) kh19 = true := by decide +kernel
theorem kyg6 (l : Launch) (hfl : l.stackTraces = false) (D : dD) (b : Nat → Nat) : hwf kh12 → dG l D b 40 305 0 [(0, .inr (.inr 127))] [] kh12 (none) kh19 := dG_of hfl (tab := kyt6) (by
  intro e he
  unfold kyt6 at he
  simp only [List.mem_cons, List.not_mem_nil, or_false] at he
  cases he
  · exact dSum_orc (dSum_none) (kyg5 l hfl D b)) kyk6

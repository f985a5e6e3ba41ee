/-! ===== 19.model: piece 5 ===== -/
noncomputable def kyt5 : List (Nat × Nat × dCode) := [(500, 0, dorc 38 [(0, .inr (.inr 127)), (1, .inl 0)] kh14 (none) kh18 (dnone))]
-- X13_layPrelude: 365921 instructions with what it calls
set_option maxRecDepth 1000000 in
set_option maxHeartbeats 4000000 in
theorem kyk5 : dok (drun (dPo kyt5) 1000000 39 499 0 [(0, .inr (.inr 127))] [] kh13) (none) kh19 = true := by decide +kernel
theorem kyg5 (l : Launch) (hfl : l.stackTraces = false) (D : dD) (b : Nat → Nat) : hwf kh13 → dG l D b 39 499 0 [(0, .inr (.inr 127))] [] kh13 (none) kh19 := dG_of hfl (tab := kyt5) (by
  intro e he
  unfold kyt5 at he
  simp only [List.mem_cons, List.not_mem_nil, or_false] at he
  cases he
  · exact dSum_orc (dSum_none) (kyg4 l hfl D b)) kyk5

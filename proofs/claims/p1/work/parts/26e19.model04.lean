/-! ===== 19.model: piece 4 ===== -/
noncomputable def kyt4 : List (Nat × Nat × dCode) := [(317, 0, dorc 37 [(0, .inr (.inr 127))] kh14 (none) kh15 (dnone)), (366, 0, dorc 37 [(0, .inr (.inr 127))] kh15 (none) kh16 (dnone)), (370, 0, dorc 37 [(0, .inr (.inr 127)), (1, .inl 0)] kh16 (none) kh17 (dnone)), (374, 0, dorc 37 [(0, .inr (.inr 127))] kh17 (none) kh18 (dnone))]
-- X13_mean: 356190 instructions with what it calls
set_option maxRecDepth 1000000 in
set_option maxHeartbeats 4000000 in
theorem kyk4 : dok (drun (dPo kyt4) 1000000 38 500 0 [(0, .inr (.inr 127)), (1, .inl 0)] [] kh14) (none) kh18 = true := by decide +kernel
theorem kyg4 (l : Launch) (hfl : l.stackTraces = false) (D : dD) (b : Nat → Nat) : hwf kh14 → dG l D b 38 500 0 [(0, .inr (.inr 127)), (1, .inl 0)] [] kh14 (none) kh18 := dG_of hfl (tab := kyt4) (by
  intro e he
  unfold kyt4 at he
  simp only [List.mem_cons, List.not_mem_nil, or_false] at he
  rcases he with rfl | rfl | rfl | rfl
  · exact dSum_orc (dSum_none) (kyg0 l hfl D b)
  · exact dSum_orc (dSum_none) (kyg1 l hfl D b)
  · exact dSum_orc (dSum_none) (kyg2 l hfl D b)
  · exact dSum_orc (dSum_none) (kyg3 l hfl D b)) kyk4

/-! ===== the constructor: piece 8 ===== -/
noncomputable def kxt8 : List (Nat × Nat × dCode) := [(202, 0, dorc 39 [(0, .inr (.inr 4))] kh1 (none) kh3 (dorc 39 [(0, .inr (.inr 45))] kh3 (none) kh5 (dnone))), (147, 0, dorc 39 [(0, .inr (.inr 85)), (1, .inr (.inr 3))] kh5 (some (.inl 1)) kh6 (dorc 39 [(0, .inr (.inr 85)), (1, .inr (.inr 44))] kh8 (some (.inl 1)) kh9 (dnone))), (3, 0, dorc 39 [(0, .inr (.inr 87)), (1, .inr (.inr 3))] kh6 (none) kh7 (dorc 39 [(0, .inr (.inr 87)), (1, .inr (.inr 44))] kh9 (none) kh10 (dnone)))]
-- X12_init: 730751 instructions with what it calls
set_option maxRecDepth 1000000 in
set_option maxHeartbeats 4000000 in
theorem kxk8 : dok (drun (dPo kxt8) 1000000 40 255 0 [(0, .inr (.inr 1))] [] kh0) (none) kh11 = true := by decide +kernel
theorem kxg8 (l : Launch) (hfl : l.stackTraces = false) (D : dD) (b : Nat → Nat) : hwf kh0 → dG l D b 40 255 0 [(0, .inr (.inr 1))] [] kh0 (none) kh11 := dG_of hfl (tab := kxt8) (by
  intro e he
  unfold kxt8 at he
  simp only [List.mem_cons, List.not_mem_nil, or_false] at he
  rcases he with rfl | rfl | rfl
  · exact dSum_orc (dSum_orc (dSum_none) (kxg3 l hfl D b)) (kxg1 l hfl D b)
  · exact dSum_orc (dSum_orc (dSum_none) (kxg6 l hfl D b)) (kxg4 l hfl D b)
  · exact dSum_orc (dSum_orc (dSum_none) (kxg7 l hfl D b)) (kxg5 l hfl D b)) kxk8

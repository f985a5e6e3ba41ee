/-! ===== the constructor: piece 3 ===== -/
noncomputable def kxt3 : List (Nat × Nat × dCode) := [(211, 0, dorc 38 [(0, .inr (.inr 45)), (1, .inl 0), (2, .inl 798)] kh4 (none) kh5 (dnone))]
-- X9_cutPrelude: 135898 instructions with what it calls
set_option maxRecDepth 1000000 in
set_option maxHeartbeats 4000000 in
theorem kxk3 : dok (drun (dPo kxt3) 1000000 39 202 0 [(0, .inr (.inr 45))] [] kh3) (none) kh5 = true := by decide +kernel
theorem kxg3 (l : Launch) (hfl : l.stackTraces = false) (D : dD) (b : Nat → Nat) : hwf kh3 → dG l D b 39 202 0 [(0, .inr (.inr 45))] [] kh3 (none) kh5 := dG_of hfl (tab := kxt3) (by
  intro e he
  unfold kxt3 at he
  simp only [List.mem_cons, List.not_mem_nil, or_false] at he
  cases he
  · exact dSum_orc (dSum_none) (kxg2 l hfl D b)) kxk3

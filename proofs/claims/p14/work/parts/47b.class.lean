/-! ===== the constructor: piece 1 ===== -/
noncomputable def kxt1 : List (Nat × Nat × dCode) := [(211, 0, dorc 38 [(0, .inr (.inr 4)), (1, .inl 0), (2, .inl 798)] kh2 (none) kh3 (dnone))]
-- X9_cutPrelude: 135898 instructions with what it calls
set_option maxRecDepth 1000000 in
set_option maxHeartbeats 4000000 in
theorem kxk1 : dok (drun (dPo kxt1) 1000000 39 202 0 [(0, .inr (.inr 4))] [] kh1) (none) kh3 = true := by decide +kernel
theorem kxg1 (l : Launch) (hfl : l.stackTraces = false) (D : dD) (b : Nat → Nat) : hwf kh1 → dG l D b 39 202 0 [(0, .inr (.inr 4))] [] kh1 (none) kh3 := dG_of hfl (tab := kxt1) (by
  intro e he
  unfold kxt1 at he
  simp only [List.mem_cons, List.not_mem_nil, or_false] at he
  cases he
  · exact dSum_orc (dSum_none) (kxg0 l hfl D b)) kxk1

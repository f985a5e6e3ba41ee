/-! ===== 23.gramm: piece 2 ===== -/
noncomputable def kqt2 : List (Nat × Nat × dCode) := [(436, 2, dorc 39 [(1, .inl 0), (0, .inr (.inr 127))] kh27 (none) kh27 (dnone))]
-- X13_forgetKnown: 2964854 instructions with what it calls
set_option maxRecDepth 1000000 in
set_option maxHeartbeats 4000000 in
theorem kqk2 : dok (drun (dPo kqt2) 1000000 39 436 0 [(0, .inr (.inr 127))] [] kh27) (none) kh27 = true := by decide +kernel
theorem kqg2 (l : Launch) (hfl : l.stackTraces = false) (D : dD) (b : Nat → Nat) : hwf kh27 → dG l D b 39 436 0 [(0, .inr (.inr 127))] [] kh27 (none) kh27 := dG_of hfl (tab := kqt2) (by
  intro e he
  unfold kqt2 at he
  simp only [List.mem_cons, List.not_mem_nil, or_false] at he
  cases he
  · exact dSum_orc (dSum_none) (krg2 l hfl D b)) kqk2

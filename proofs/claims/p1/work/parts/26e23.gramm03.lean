/-! ===== 23.gramm: piece 3 ===== -/
noncomputable def kqt3 : List (Nat × Nat × dCode) := [(500, 0, dorc 39 [(0, .inr (.inr 127)), (1, .inl 1)] kh23 (none) kh26 (dnone)), (436, 0, dorc 39 [(0, .inr (.inr 127))] kh27 (none) kh27 (dnone))]
-- X13_grammar: 4432044 instructions with what it calls
set_option maxRecDepth 1000000 in
set_option maxHeartbeats 4000000 in
theorem kqk3 : dok (drun (dPo kqt3) 1000000 40 501 0 [(0, .inr (.inr 127))] [] kh22) (some (.inl 0)) kh27 = true := by decide +kernel
theorem kqg3 (l : Launch) (hfl : l.stackTraces = false) (D : dD) (b : Nat → Nat) : hwf kh22 → dG l D b 40 501 0 [(0, .inr (.inr 127))] [] kh22 (some (.inl 0)) kh27 := dG_of hfl (tab := kqt3) (by
  intro e he
  unfold kqt3 at he
  simp only [List.mem_cons, List.not_mem_nil, or_false] at he
  rcases he with rfl | rfl
  · exact dSum_orc (dSum_none) (kqg1 l hfl D b)
  · exact dSum_orc (dSum_none) (kqg2 l hfl D b)) kqk3

/-! ===== grammar(): firstLoop ===== -/
set_option maxRecDepth 1000000 in
theorem g_run3 : sAll (sex BG fx0 kdgf pghm st0 orc0 2000 20 200000 30000 59 116 0 (0, 0) [] [(0, .inr (.inr 88)), (1, .inr (.inr 44))] [] gS5 [] []) (tEnd KsG [] (some (.inl (4294967295, []))) gS6) = true := by decide +kernel

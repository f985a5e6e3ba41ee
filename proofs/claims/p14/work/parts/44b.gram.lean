/-! ===== grammar(): readRules ===== -/
set_option maxRecDepth 1000000 in
theorem g_run1 : sAll (sex BG fx0 kdgf pghm st0 orc0 2000 20 200000 30000 59 147 0 (0, 0) [] [(0, .inr (.inr 85)), (1, .inr (.inr 44))] [] gS3 [] []) (tEnd KsG [] (some (.inl (1, []))) gS4) = true := by decide +kernel

/-! ===== grammar(): firstFault ===== -/
set_option maxRecDepth 1000000 in
theorem g_run2 : sAll (sex BG fx0 kdgf pghm st0 orc0 2000 20 200000 30000 59 2 0 (0, 0) [] [(0, .inr (.inr 87)), (1, .inr (.inr 44))] [] gS4 [] []) (tEnd KsG [] (some (.inl (0, []))) gS5) = true := by decide +kernel

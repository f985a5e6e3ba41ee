/-! ===== grammar(): fill ===== -/
set_option maxRecDepth 1000000 in
theorem g_run4 : sAll (sex BG fx0 kdgf pghm st0 orc0 2000 20 200000 30000 59 27 0 (0, 0) [] [(0, .inr (.inr 67)), (1, .inr (.inr 44))] [] gS6 [] []) (tEnd KsG [] (some (.inl (1, []))) gS6) = true := by decide +kernel

/-! ===== grammar(): groupsTooLarge ===== -/
set_option maxRecDepth 1000000 in
theorem g_run5 : sAll (sex BG fx0 kdgf pghm st0 orc0 2000 20 200000 30000 59 124 0 (0, 0) [] [(0, .inr (.inr 88))] [] gS6 [] []) (tEnd KsG [] (some (.inl (0, []))) gS7) = true := by decide +kernel

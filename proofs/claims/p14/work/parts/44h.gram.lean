/-! ===== grammar(): weigh ===== -/
set_option maxRecDepth 1000000 in
theorem g_run7 : sAll (sex BG fx0 kdgf pghm st0 orc0 2000 20 200000 30000 59 127 0 (0, 0) [] [(0, .inr (.inr 88))] [] gS8 [] []) (tEnd KsG [] (none) gS9) = true := by decide +kernel

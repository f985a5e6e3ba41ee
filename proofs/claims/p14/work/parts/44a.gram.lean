/-! ===== grammar(): its own run, call by call ===== -/
set_option maxRecDepth 1000000 in
theorem g_top : topc KsG KQG [] 30000 (fun S K v => sret pghm (sex BG fx0 kdgf pghm stG orc0 2000 20 100000) S K [] v) (some (.inl (8, []))) gS1 gCs (sex BG fx0 kdgf pghm stG orc0 2000 20 100000 40000 60 258 0 (0, 0) [] [(0, .inr (.inr 1))] [] gS0 [] []) = true := by decide +kernel
set_option maxRecDepth 1000000 in
theorem g_cut : topc KsG KQG [] 5000 (fun S K v => sret pghm (sex BG fx0 kdgf pghm stC orc0 2000 20 200000) S K [] v) (none) gS2 gCp (sex BG fx0 kdgf pghm stC orc0 2000 20 200000 20000 59 203 0 (0, 0) [] [(0, .inr (.inr 45)), (1, .inr (.inr 2)), (2, .inl (180, [])), (3, .inl (203, []))] [] gS0 [] []) = true := by decide +kernel

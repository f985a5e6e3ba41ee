/-! ===== what runs is what the lists say, and the lists are the class files ===== -/
set_option maxRecDepth 100000 in
set_option maxHeartbeats 4000000 in
theorem okc_22_0 : ck0 (dMis.drop 506) (dBs_22.take 6) = true := by decide +kernel
set_option maxRecDepth 100000 in
set_option maxHeartbeats 4000000 in
theorem okc_22_1 : ck0 (dMis.drop 512) ((dBs_22.drop 6).take 5) = true := by decide +kernel
set_option maxRecDepth 100000 in
set_option maxHeartbeats 4000000 in
theorem okc_22_2 : ck0 (dMis.drop 517) (((dBs_22.drop 6).drop 5).take 2) = true := by decide +kernel
set_option maxRecDepth 100000 in
set_option maxHeartbeats 4000000 in
theorem okc_22_3 : ck0 (dMis.drop 519) (((dBs_22.drop 6).drop 5).drop 2) = true := by decide +kernel
theorem okc_22 : ck0 (dMis.drop 506) dBs_22 = true := ck0_cut _ _ 6 okc_22_0 (ck0_cut _ _ 5 okc_22_1 (ck0_cut _ _ 2 okc_22_2 (okc_22_3)))
set_option maxRecDepth 100000 in
set_option maxHeartbeats 4000000 in
theorem okr_22 : dRs_22 = dcl 506 dBs_22 := by rfl

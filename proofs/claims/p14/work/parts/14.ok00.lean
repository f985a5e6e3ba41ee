/-! ===== what runs is what the lists say, and the lists are the class files ===== -/
set_option maxRecDepth 100000 in
set_option maxHeartbeats 4000000 in
theorem okc_0_0 : ck0 (dMis.drop 0) (dBs_0.take 6) = true := by decide +kernel
set_option maxRecDepth 100000 in
set_option maxHeartbeats 4000000 in
theorem okc_0_1 : ck0 (dMis.drop 6) ((dBs_0.drop 6).take 5) = true := by decide +kernel
set_option maxRecDepth 100000 in
set_option maxHeartbeats 4000000 in
theorem okc_0_2 : ck0 (dMis.drop 11) (((dBs_0.drop 6).drop 5).take 6) = true := by decide +kernel
set_option maxRecDepth 100000 in
set_option maxHeartbeats 4000000 in
theorem okc_0_3 : ck0 (dMis.drop 17) (((dBs_0.drop 6).drop 5).drop 6) = true := by decide +kernel
theorem okc_0 : ck0 (dMis.drop 0) dBs_0 = true := ck0_cut _ _ 6 okc_0_0 (ck0_cut _ _ 5 okc_0_1 (ck0_cut _ _ 6 okc_0_2 (okc_0_3)))
set_option maxRecDepth 100000 in
set_option maxHeartbeats 4000000 in
theorem okr_0 : dRs_0 = dcl 0 dBs_0 := by rfl
set_option maxRecDepth 100000 in
set_option maxHeartbeats 4000000 in
theorem okc_1_0 : ck0 (dMis.drop 23) (dBs_1.take 6) = true := by decide +kernel
set_option maxRecDepth 100000 in
set_option maxHeartbeats 4000000 in
theorem okc_1_1 : ck0 (dMis.drop 29) ((dBs_1.drop 6).take 6) = true := by decide +kernel
set_option maxRecDepth 100000 in
set_option maxHeartbeats 4000000 in
theorem okc_1_2 : ck0 (dMis.drop 35) (((dBs_1.drop 6).drop 6).take 6) = true := by decide +kernel
set_option maxRecDepth 100000 in
set_option maxHeartbeats 4000000 in
theorem okc_1_3 : ck0 (dMis.drop 41) (((dBs_1.drop 6).drop 6).drop 6) = true := by decide +kernel
theorem okc_1 : ck0 (dMis.drop 23) dBs_1 = true := ck0_cut _ _ 6 okc_1_0 (ck0_cut _ _ 6 okc_1_1 (ck0_cut _ _ 6 okc_1_2 (okc_1_3)))
set_option maxRecDepth 100000 in
set_option maxHeartbeats 4000000 in
theorem okr_1 : dRs_1 = dcl 23 dBs_1 := by rfl

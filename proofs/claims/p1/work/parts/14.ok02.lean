/-! ===== what runs is what the lists say, and the lists are the class files ===== -/
set_option maxRecDepth 100000 in
set_option maxHeartbeats 4000000 in
theorem okc_4_0 : ck0 (dMis.drop 92) (dBs_4.take 5) = true := by decide +kernel
set_option maxRecDepth 100000 in
set_option maxHeartbeats 4000000 in
theorem okc_4_1 : ck0 (dMis.drop 97) ((dBs_4.drop 5).take 6) = true := by decide +kernel
set_option maxRecDepth 100000 in
set_option maxHeartbeats 4000000 in
theorem okc_4_2 : ck0 (dMis.drop 103) (((dBs_4.drop 5).drop 6).take 5) = true := by decide +kernel
set_option maxRecDepth 100000 in
set_option maxHeartbeats 4000000 in
theorem okc_4_3 : ck0 (dMis.drop 108) ((((dBs_4.drop 5).drop 6).drop 5).take 4) = true := by decide +kernel
set_option maxRecDepth 100000 in
set_option maxHeartbeats 4000000 in
theorem okc_4_4 : ck0 (dMis.drop 112) ((((dBs_4.drop 5).drop 6).drop 5).drop 4) = true := by decide +kernel
theorem okc_4 : ck0 (dMis.drop 92) dBs_4 = true := ck0_cut _ _ 5 okc_4_0 (ck0_cut _ _ 6 okc_4_1 (ck0_cut _ _ 5 okc_4_2 (ck0_cut _ _ 4 okc_4_3 (okc_4_4))))
set_option maxRecDepth 100000 in
set_option maxHeartbeats 4000000 in
theorem okr_4 : dRs_4 = dcl 92 dBs_4 := by rfl
set_option maxRecDepth 100000 in
set_option maxHeartbeats 4000000 in
theorem okc_5_0 : ck0 (dMis.drop 115) (dBs_5.take 6) = true := by decide +kernel
set_option maxRecDepth 100000 in
set_option maxHeartbeats 4000000 in
theorem okc_5_1 : ck0 (dMis.drop 121) ((dBs_5.drop 6).take 6) = true := by decide +kernel
set_option maxRecDepth 100000 in
set_option maxHeartbeats 4000000 in
theorem okc_5_2 : ck0 (dMis.drop 127) (((dBs_5.drop 6).drop 6).take 5) = true := by decide +kernel
set_option maxRecDepth 100000 in
set_option maxHeartbeats 4000000 in
theorem okc_5_3 : ck0 (dMis.drop 132) ((((dBs_5.drop 6).drop 6).drop 5).take 5) = true := by decide +kernel
set_option maxRecDepth 100000 in
set_option maxHeartbeats 4000000 in
theorem okc_5_4 : ck0 (dMis.drop 137) ((((dBs_5.drop 6).drop 6).drop 5).drop 5) = true := by decide +kernel
theorem okc_5 : ck0 (dMis.drop 115) dBs_5 = true := ck0_cut _ _ 6 okc_5_0 (ck0_cut _ _ 6 okc_5_1 (ck0_cut _ _ 5 okc_5_2 (ck0_cut _ _ 5 okc_5_3 (okc_5_4))))
set_option maxRecDepth 100000 in
set_option maxHeartbeats 4000000 in
theorem okr_5 : dRs_5 = dcl 115 dBs_5 := by rfl

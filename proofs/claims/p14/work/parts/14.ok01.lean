/-! ===== what runs is what the lists say, and the lists are the class files ===== -/
set_option maxRecDepth 100000 in
set_option maxHeartbeats 4000000 in
theorem okc_2_0 : ck0 (dMis.drop 46) (dBs_2.take 6) = true := by decide +kernel
set_option maxRecDepth 100000 in
set_option maxHeartbeats 4000000 in
theorem okc_2_1 : ck0 (dMis.drop 52) ((dBs_2.drop 6).take 3) = true := by decide +kernel
set_option maxRecDepth 100000 in
set_option maxHeartbeats 4000000 in
theorem okc_2_2 : ck0 (dMis.drop 55) (((dBs_2.drop 6).drop 3).take 5) = true := by decide +kernel
set_option maxRecDepth 100000 in
set_option maxHeartbeats 4000000 in
theorem okc_2_3 : ck0 (dMis.drop 60) ((((dBs_2.drop 6).drop 3).drop 5).take 6) = true := by decide +kernel
set_option maxRecDepth 100000 in
set_option maxHeartbeats 4000000 in
theorem okc_2_4 : ck0 (dMis.drop 66) ((((dBs_2.drop 6).drop 3).drop 5).drop 6) = true := by decide +kernel
theorem okc_2 : ck0 (dMis.drop 46) dBs_2 = true := ck0_cut _ _ 6 okc_2_0 (ck0_cut _ _ 3 okc_2_1 (ck0_cut _ _ 5 okc_2_2 (ck0_cut _ _ 6 okc_2_3 (okc_2_4))))
set_option maxRecDepth 100000 in
set_option maxHeartbeats 4000000 in
theorem okr_2 : dRs_2 = dcl 46 dBs_2 := by rfl
set_option maxRecDepth 100000 in
set_option maxHeartbeats 4000000 in
theorem okc_3_0 : ck0 (dMis.drop 69) (dBs_3.take 4) = true := by decide +kernel
set_option maxRecDepth 100000 in
set_option maxHeartbeats 4000000 in
theorem okc_3_1 : ck0 (dMis.drop 73) ((dBs_3.drop 4).take 6) = true := by decide +kernel
set_option maxRecDepth 100000 in
set_option maxHeartbeats 4000000 in
theorem okc_3_2 : ck0 (dMis.drop 79) (((dBs_3.drop 4).drop 6).take 5) = true := by decide +kernel
set_option maxRecDepth 100000 in
set_option maxHeartbeats 4000000 in
theorem okc_3_3 : ck0 (dMis.drop 84) ((((dBs_3.drop 4).drop 6).drop 5).take 4) = true := by decide +kernel
set_option maxRecDepth 100000 in
set_option maxHeartbeats 4000000 in
theorem okc_3_4 : ck0 (dMis.drop 88) ((((dBs_3.drop 4).drop 6).drop 5).drop 4) = true := by decide +kernel
theorem okc_3 : ck0 (dMis.drop 69) dBs_3 = true := ck0_cut _ _ 4 okc_3_0 (ck0_cut _ _ 6 okc_3_1 (ck0_cut _ _ 5 okc_3_2 (ck0_cut _ _ 4 okc_3_3 (okc_3_4))))
set_option maxRecDepth 100000 in
set_option maxHeartbeats 4000000 in
theorem okr_3 : dRs_3 = dcl 69 dBs_3 := by rfl

/-! ===== what runs is what the lists say, and the lists are the class files ===== -/
set_option maxRecDepth 100000 in
set_option maxHeartbeats 4000000 in
theorem okc_16_0 : ck0 (dMis.drop 368) (dBs_16.take 3) = true := by decide +kernel
set_option maxRecDepth 100000 in
set_option maxHeartbeats 4000000 in
theorem okc_16_1 : ck0 (dMis.drop 371) ((dBs_16.drop 3).take 4) = true := by decide +kernel
set_option maxRecDepth 100000 in
set_option maxHeartbeats 4000000 in
theorem okc_16_2 : ck0 (dMis.drop 375) (((dBs_16.drop 3).drop 4).take 6) = true := by decide +kernel
set_option maxRecDepth 100000 in
set_option maxHeartbeats 4000000 in
theorem okc_16_3 : ck0 (dMis.drop 381) ((((dBs_16.drop 3).drop 4).drop 6).take 6) = true := by decide +kernel
set_option maxRecDepth 100000 in
set_option maxHeartbeats 4000000 in
theorem okc_16_4 : ck0 (dMis.drop 387) ((((dBs_16.drop 3).drop 4).drop 6).drop 6) = true := by decide +kernel
theorem okc_16 : ck0 (dMis.drop 368) dBs_16 = true := ck0_cut _ _ 3 okc_16_0 (ck0_cut _ _ 4 okc_16_1 (ck0_cut _ _ 6 okc_16_2 (ck0_cut _ _ 6 okc_16_3 (okc_16_4))))
set_option maxRecDepth 100000 in
set_option maxHeartbeats 4000000 in
theorem okr_16 : dRs_16 = dcl 368 dBs_16 := by rfl
set_option maxRecDepth 100000 in
set_option maxHeartbeats 4000000 in
theorem okc_17_0 : ck0 (dMis.drop 391) (dBs_17.take 4) = true := by decide +kernel
set_option maxRecDepth 100000 in
set_option maxHeartbeats 4000000 in
theorem okc_17_1 : ck0 (dMis.drop 395) ((dBs_17.drop 4).take 2) = true := by decide +kernel
set_option maxRecDepth 100000 in
set_option maxHeartbeats 4000000 in
theorem okc_17_2 : ck0 (dMis.drop 397) (((dBs_17.drop 4).drop 2).take 3) = true := by decide +kernel
set_option maxRecDepth 100000 in
set_option maxHeartbeats 4000000 in
theorem okc_17_3 : ck0 (dMis.drop 400) ((((dBs_17.drop 4).drop 2).drop 3).take 4) = true := by decide +kernel
set_option maxRecDepth 100000 in
set_option maxHeartbeats 4000000 in
theorem okc_17_4 : ck0 (dMis.drop 404) (((((dBs_17.drop 4).drop 2).drop 3).drop 4).take 3) = true := by decide +kernel
set_option maxRecDepth 100000 in
set_option maxHeartbeats 4000000 in
theorem okc_17_5 : ck0 (dMis.drop 407) ((((((dBs_17.drop 4).drop 2).drop 3).drop 4).drop 3).take 6) = true := by decide +kernel
set_option maxRecDepth 100000 in
set_option maxHeartbeats 4000000 in
theorem okc_17_6 : ck0 (dMis.drop 413) ((((((dBs_17.drop 4).drop 2).drop 3).drop 4).drop 3).drop 6) = true := by decide +kernel
theorem okc_17 : ck0 (dMis.drop 391) dBs_17 = true := ck0_cut _ _ 4 okc_17_0 (ck0_cut _ _ 2 okc_17_1 (ck0_cut _ _ 3 okc_17_2 (ck0_cut _ _ 4 okc_17_3 (ck0_cut _ _ 3 okc_17_4 (ck0_cut _ _ 6 okc_17_5 (okc_17_6))))))
set_option maxRecDepth 100000 in
set_option maxHeartbeats 4000000 in
theorem okr_17 : dRs_17 = dcl 391 dBs_17 := by rfl

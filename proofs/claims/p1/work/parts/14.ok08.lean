/-! ===== what runs is what the lists say, and the lists are the class files ===== -/
set_option maxRecDepth 100000 in
set_option maxHeartbeats 4000000 in
theorem okc_16_0 : ck0 (dMis.drop 368) (dBs_16.take 6) = true := by decide +kernel
set_option maxRecDepth 100000 in
set_option maxHeartbeats 4000000 in
theorem okc_16_1 : ck0 (dMis.drop 374) ((dBs_16.drop 6).take 6) = true := by decide +kernel
set_option maxRecDepth 100000 in
set_option maxHeartbeats 4000000 in
theorem okc_16_2 : ck0 (dMis.drop 380) (((dBs_16.drop 6).drop 6).take 6) = true := by decide +kernel
set_option maxRecDepth 100000 in
set_option maxHeartbeats 4000000 in
theorem okc_16_3 : ck0 (dMis.drop 386) (((dBs_16.drop 6).drop 6).drop 6) = true := by decide +kernel
theorem okc_16 : ck0 (dMis.drop 368) dBs_16 = true := ck0_cut _ _ 6 okc_16_0 (ck0_cut _ _ 6 okc_16_1 (ck0_cut _ _ 6 okc_16_2 okc_16_3))
set_option maxRecDepth 100000 in
set_option maxHeartbeats 4000000 in
theorem okr_16 : dRs_16 = dcl 368 dBs_16 := by rfl
set_option maxRecDepth 100000 in
set_option maxHeartbeats 4000000 in
theorem okc_17_0 : ck0 (dMis.drop 391) (dBs_17.take 6) = true := by decide +kernel
set_option maxRecDepth 100000 in
set_option maxHeartbeats 4000000 in
theorem okc_17_1 : ck0 (dMis.drop 397) ((dBs_17.drop 6).take 6) = true := by decide +kernel
set_option maxRecDepth 100000 in
set_option maxHeartbeats 4000000 in
theorem okc_17_2 : ck0 (dMis.drop 403) (((dBs_17.drop 6).drop 6).take 6) = true := by decide +kernel
set_option maxRecDepth 100000 in
set_option maxHeartbeats 4000000 in
theorem okc_17_3 : ck0 (dMis.drop 409) (((dBs_17.drop 6).drop 6).drop 6) = true := by decide +kernel
theorem okc_17 : ck0 (dMis.drop 391) dBs_17 = true := ck0_cut _ _ 6 okc_17_0 (ck0_cut _ _ 6 okc_17_1 (ck0_cut _ _ 6 okc_17_2 okc_17_3))
set_option maxRecDepth 100000 in
set_option maxHeartbeats 4000000 in
theorem okr_17 : dRs_17 = dcl 391 dBs_17 := by rfl

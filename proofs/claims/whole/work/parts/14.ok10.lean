/-! ===== what runs is what the lists say, and the lists are the class files ===== -/
set_option maxRecDepth 100000 in
set_option maxHeartbeats 4000000 in
theorem okc_20_0 : ck0 (dMis.drop 460) (dBs_20.take 3) = true := by decide +kernel
set_option maxRecDepth 100000 in
set_option maxHeartbeats 4000000 in
theorem okc_20_1 : ck0 (dMis.drop 463) ((dBs_20.drop 3).take 5) = true := by decide +kernel
set_option maxRecDepth 100000 in
set_option maxHeartbeats 4000000 in
theorem okc_20_2 : ck0 (dMis.drop 468) (((dBs_20.drop 3).drop 5).take 5) = true := by decide +kernel
set_option maxRecDepth 100000 in
set_option maxHeartbeats 4000000 in
theorem okc_20_3 : ck0 (dMis.drop 473) ((((dBs_20.drop 3).drop 5).drop 5).take 4) = true := by decide +kernel
set_option maxRecDepth 100000 in
set_option maxHeartbeats 4000000 in
theorem okc_20_4 : ck0 (dMis.drop 477) ((((dBs_20.drop 3).drop 5).drop 5).drop 4) = true := by decide +kernel
theorem okc_20 : ck0 (dMis.drop 460) dBs_20 = true := ck0_cut _ _ 3 okc_20_0 (ck0_cut _ _ 5 okc_20_1 (ck0_cut _ _ 5 okc_20_2 (ck0_cut _ _ 4 okc_20_3 (okc_20_4))))
set_option maxRecDepth 100000 in
set_option maxHeartbeats 4000000 in
theorem okr_20 : dRs_20 = dcl 460 dBs_20 := by rfl
set_option maxRecDepth 100000 in
set_option maxHeartbeats 4000000 in
theorem okc_21_0 : ck0 (dMis.drop 483) (dBs_21.take 6) = true := by decide +kernel
set_option maxRecDepth 100000 in
set_option maxHeartbeats 4000000 in
theorem okc_21_1 : ck0 (dMis.drop 489) ((dBs_21.drop 6).take 5) = true := by decide +kernel
set_option maxRecDepth 100000 in
set_option maxHeartbeats 4000000 in
theorem okc_21_2 : ck0 (dMis.drop 494) (((dBs_21.drop 6).drop 5).take 4) = true := by decide +kernel
set_option maxRecDepth 100000 in
set_option maxHeartbeats 4000000 in
theorem okc_21_3 : ck0 (dMis.drop 498) ((((dBs_21.drop 6).drop 5).drop 4).take 6) = true := by decide +kernel
set_option maxRecDepth 100000 in
set_option maxHeartbeats 4000000 in
theorem okc_21_4 : ck0 (dMis.drop 504) ((((dBs_21.drop 6).drop 5).drop 4).drop 6) = true := by decide +kernel
theorem okc_21 : ck0 (dMis.drop 483) dBs_21 = true := ck0_cut _ _ 6 okc_21_0 (ck0_cut _ _ 5 okc_21_1 (ck0_cut _ _ 4 okc_21_2 (ck0_cut _ _ 6 okc_21_3 (okc_21_4))))
set_option maxRecDepth 100000 in
set_option maxHeartbeats 4000000 in
theorem okr_21 : dRs_21 = dcl 483 dBs_21 := by rfl

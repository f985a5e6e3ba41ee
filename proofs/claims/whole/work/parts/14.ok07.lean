/-! ===== what runs is what the lists say, and the lists are the class files ===== -/
set_option maxRecDepth 100000 in
set_option maxHeartbeats 4000000 in
theorem okc_14_0 : ck0 (dMis.drop 322) (dBs_14.take 4) = true := by decide +kernel
set_option maxRecDepth 100000 in
set_option maxHeartbeats 4000000 in
theorem okc_14_1 : ck0 (dMis.drop 326) ((dBs_14.drop 4).take 5) = true := by decide +kernel
set_option maxRecDepth 100000 in
set_option maxHeartbeats 4000000 in
theorem okc_14_2 : ck0 (dMis.drop 331) (((dBs_14.drop 4).drop 5).take 3) = true := by decide +kernel
set_option maxRecDepth 100000 in
set_option maxHeartbeats 4000000 in
theorem okc_14_3 : ck0 (dMis.drop 334) ((((dBs_14.drop 4).drop 5).drop 3).take 6) = true := by decide +kernel
set_option maxRecDepth 100000 in
set_option maxHeartbeats 4000000 in
theorem okc_14_4 : ck0 (dMis.drop 340) ((((dBs_14.drop 4).drop 5).drop 3).drop 6) = true := by decide +kernel
theorem okc_14 : ck0 (dMis.drop 322) dBs_14 = true := ck0_cut _ _ 4 okc_14_0 (ck0_cut _ _ 5 okc_14_1 (ck0_cut _ _ 3 okc_14_2 (ck0_cut _ _ 6 okc_14_3 (okc_14_4))))
set_option maxRecDepth 100000 in
set_option maxHeartbeats 4000000 in
theorem okr_14 : dRs_14 = dcl 322 dBs_14 := by rfl
set_option maxRecDepth 100000 in
set_option maxHeartbeats 4000000 in
theorem okc_15_0 : ck0 (dMis.drop 345) (dBs_15.take 6) = true := by decide +kernel
set_option maxRecDepth 100000 in
set_option maxHeartbeats 4000000 in
theorem okc_15_1 : ck0 (dMis.drop 351) ((dBs_15.drop 6).take 6) = true := by decide +kernel
set_option maxRecDepth 100000 in
set_option maxHeartbeats 4000000 in
theorem okc_15_2 : ck0 (dMis.drop 357) (((dBs_15.drop 6).drop 6).take 6) = true := by decide +kernel
set_option maxRecDepth 100000 in
set_option maxHeartbeats 4000000 in
theorem okc_15_3 : ck0 (dMis.drop 363) ((((dBs_15.drop 6).drop 6).drop 6).take 2) = true := by decide +kernel
set_option maxRecDepth 100000 in
set_option maxHeartbeats 4000000 in
theorem okc_15_4 : ck0 (dMis.drop 365) ((((dBs_15.drop 6).drop 6).drop 6).drop 2) = true := by decide +kernel
theorem okc_15 : ck0 (dMis.drop 345) dBs_15 = true := ck0_cut _ _ 6 okc_15_0 (ck0_cut _ _ 6 okc_15_1 (ck0_cut _ _ 6 okc_15_2 (ck0_cut _ _ 2 okc_15_3 (okc_15_4))))
set_option maxRecDepth 100000 in
set_option maxHeartbeats 4000000 in
theorem okr_15 : dRs_15 = dcl 345 dBs_15 := by rfl

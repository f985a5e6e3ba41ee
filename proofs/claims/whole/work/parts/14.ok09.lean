/-! ===== what runs is what the lists say, and the lists are the class files ===== -/
set_option maxRecDepth 100000 in
set_option maxHeartbeats 4000000 in
theorem okc_18_0 : ck0 (dMis.drop 414) (dBs_18.take 6) = true := by decide +kernel
set_option maxRecDepth 100000 in
set_option maxHeartbeats 4000000 in
theorem okc_18_1 : ck0 (dMis.drop 420) ((dBs_18.drop 6).take 4) = true := by decide +kernel
set_option maxRecDepth 100000 in
set_option maxHeartbeats 4000000 in
theorem okc_18_2 : ck0 (dMis.drop 424) (((dBs_18.drop 6).drop 4).take 2) = true := by decide +kernel
set_option maxRecDepth 100000 in
set_option maxHeartbeats 4000000 in
theorem okc_18_3 : ck0 (dMis.drop 426) ((((dBs_18.drop 6).drop 4).drop 2).take 5) = true := by decide +kernel
set_option maxRecDepth 100000 in
set_option maxHeartbeats 4000000 in
theorem okc_18_4 : ck0 (dMis.drop 431) (((((dBs_18.drop 6).drop 4).drop 2).drop 5).take 3) = true := by decide +kernel
set_option maxRecDepth 100000 in
set_option maxHeartbeats 4000000 in
theorem okc_18_5 : ck0 (dMis.drop 434) (((((dBs_18.drop 6).drop 4).drop 2).drop 5).drop 3) = true := by decide +kernel
theorem okc_18 : ck0 (dMis.drop 414) dBs_18 = true := ck0_cut _ _ 6 okc_18_0 (ck0_cut _ _ 4 okc_18_1 (ck0_cut _ _ 2 okc_18_2 (ck0_cut _ _ 5 okc_18_3 (ck0_cut _ _ 3 okc_18_4 (okc_18_5)))))
set_option maxRecDepth 100000 in
set_option maxHeartbeats 4000000 in
theorem okr_18 : dRs_18 = dcl 414 dBs_18 := by rfl
set_option maxRecDepth 100000 in
set_option maxHeartbeats 4000000 in
theorem okc_19_0 : ck0 (dMis.drop 437) (dBs_19.take 6) = true := by decide +kernel
set_option maxRecDepth 100000 in
set_option maxHeartbeats 4000000 in
theorem okc_19_1 : ck0 (dMis.drop 443) ((dBs_19.drop 6).take 2) = true := by decide +kernel
set_option maxRecDepth 100000 in
set_option maxHeartbeats 4000000 in
theorem okc_19_2 : ck0 (dMis.drop 445) (((dBs_19.drop 6).drop 2).take 6) = true := by decide +kernel
set_option maxRecDepth 100000 in
set_option maxHeartbeats 4000000 in
theorem okc_19_3 : ck0 (dMis.drop 451) ((((dBs_19.drop 6).drop 2).drop 6).take 5) = true := by decide +kernel
set_option maxRecDepth 100000 in
set_option maxHeartbeats 4000000 in
theorem okc_19_4 : ck0 (dMis.drop 456) ((((dBs_19.drop 6).drop 2).drop 6).drop 5) = true := by decide +kernel
theorem okc_19 : ck0 (dMis.drop 437) dBs_19 = true := ck0_cut _ _ 6 okc_19_0 (ck0_cut _ _ 2 okc_19_1 (ck0_cut _ _ 6 okc_19_2 (ck0_cut _ _ 5 okc_19_3 (okc_19_4))))
set_option maxRecDepth 100000 in
set_option maxHeartbeats 4000000 in
theorem okr_19 : dRs_19 = dcl 437 dBs_19 := by rfl

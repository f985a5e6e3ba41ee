/-! ===== what runs is what the lists say, and the lists are the class files ===== -/
set_option maxRecDepth 100000 in
set_option maxHeartbeats 4000000 in
theorem okc_12_0 : ck0 (dMis.drop 276) (dBs_12.take 6) = true := by decide +kernel
set_option maxRecDepth 100000 in
set_option maxHeartbeats 4000000 in
theorem okc_12_1 : ck0 (dMis.drop 282) ((dBs_12.drop 6).take 6) = true := by decide +kernel
set_option maxRecDepth 100000 in
set_option maxHeartbeats 4000000 in
theorem okc_12_2 : ck0 (dMis.drop 288) (((dBs_12.drop 6).drop 6).take 6) = true := by decide +kernel
set_option maxRecDepth 100000 in
set_option maxHeartbeats 4000000 in
theorem okc_12_3 : ck0 (dMis.drop 294) (((dBs_12.drop 6).drop 6).drop 6) = true := by decide +kernel
theorem okc_12 : ck0 (dMis.drop 276) dBs_12 = true := ck0_cut _ _ 6 okc_12_0 (ck0_cut _ _ 6 okc_12_1 (ck0_cut _ _ 6 okc_12_2 okc_12_3))
set_option maxRecDepth 100000 in
set_option maxHeartbeats 4000000 in
theorem okr_12 : dRs_12 = dcl 276 dBs_12 := by rfl
set_option maxRecDepth 100000 in
set_option maxHeartbeats 4000000 in
theorem okc_13_0 : ck0 (dMis.drop 299) (dBs_13.take 6) = true := by decide +kernel
set_option maxRecDepth 100000 in
set_option maxHeartbeats 4000000 in
theorem okc_13_1 : ck0 (dMis.drop 305) ((dBs_13.drop 6).take 6) = true := by decide +kernel
set_option maxRecDepth 100000 in
set_option maxHeartbeats 4000000 in
theorem okc_13_2 : ck0 (dMis.drop 311) (((dBs_13.drop 6).drop 6).take 6) = true := by decide +kernel
set_option maxRecDepth 100000 in
set_option maxHeartbeats 4000000 in
theorem okc_13_3 : ck0 (dMis.drop 317) (((dBs_13.drop 6).drop 6).drop 6) = true := by decide +kernel
theorem okc_13 : ck0 (dMis.drop 299) dBs_13 = true := ck0_cut _ _ 6 okc_13_0 (ck0_cut _ _ 6 okc_13_1 (ck0_cut _ _ 6 okc_13_2 okc_13_3))
set_option maxRecDepth 100000 in
set_option maxHeartbeats 4000000 in
theorem okr_13 : dRs_13 = dcl 299 dBs_13 := by rfl

/-! ===== what runs is what the lists say, and the lists are the class files ===== -/
set_option maxRecDepth 100000 in
set_option maxHeartbeats 4000000 in
theorem okc_8_0 : ck0 (dMis.drop 184) (dBs_8.take 6) = true := by decide +kernel
set_option maxRecDepth 100000 in
set_option maxHeartbeats 4000000 in
theorem okc_8_1 : ck0 (dMis.drop 190) ((dBs_8.drop 6).take 6) = true := by decide +kernel
set_option maxRecDepth 100000 in
set_option maxHeartbeats 4000000 in
theorem okc_8_2 : ck0 (dMis.drop 196) (((dBs_8.drop 6).drop 6).take 6) = true := by decide +kernel
set_option maxRecDepth 100000 in
set_option maxHeartbeats 4000000 in
theorem okc_8_3 : ck0 (dMis.drop 202) (((dBs_8.drop 6).drop 6).drop 6) = true := by decide +kernel
theorem okc_8 : ck0 (dMis.drop 184) dBs_8 = true := ck0_cut _ _ 6 okc_8_0 (ck0_cut _ _ 6 okc_8_1 (ck0_cut _ _ 6 okc_8_2 (okc_8_3)))
set_option maxRecDepth 100000 in
set_option maxHeartbeats 4000000 in
theorem okr_8 : dRs_8 = dcl 184 dBs_8 := by rfl
set_option maxRecDepth 100000 in
set_option maxHeartbeats 4000000 in
theorem okc_9_0 : ck0 (dMis.drop 207) (dBs_9.take 6) = true := by decide +kernel
set_option maxRecDepth 100000 in
set_option maxHeartbeats 4000000 in
theorem okc_9_1 : ck0 (dMis.drop 213) ((dBs_9.drop 6).take 3) = true := by decide +kernel
set_option maxRecDepth 100000 in
set_option maxHeartbeats 4000000 in
theorem okc_9_2 : ck0 (dMis.drop 216) (((dBs_9.drop 6).drop 3).take 4) = true := by decide +kernel
set_option maxRecDepth 100000 in
set_option maxHeartbeats 4000000 in
theorem okc_9_3 : ck0 (dMis.drop 220) ((((dBs_9.drop 6).drop 3).drop 4).take 6) = true := by decide +kernel
set_option maxRecDepth 100000 in
set_option maxHeartbeats 4000000 in
theorem okc_9_4 : ck0 (dMis.drop 226) ((((dBs_9.drop 6).drop 3).drop 4).drop 6) = true := by decide +kernel
theorem okc_9 : ck0 (dMis.drop 207) dBs_9 = true := ck0_cut _ _ 6 okc_9_0 (ck0_cut _ _ 3 okc_9_1 (ck0_cut _ _ 4 okc_9_2 (ck0_cut _ _ 6 okc_9_3 (okc_9_4))))
set_option maxRecDepth 100000 in
set_option maxHeartbeats 4000000 in
theorem okr_9 : dRs_9 = dcl 207 dBs_9 := by rfl

/-! ===== what runs is what the lists say, and the lists are the class files ===== -/
set_option maxRecDepth 100000 in
set_option maxHeartbeats 4000000 in
theorem okc_10_0 : ck0 (dMis.drop 230) (dBs_10.take 6) = true := by decide +kernel
set_option maxRecDepth 100000 in
set_option maxHeartbeats 4000000 in
theorem okc_10_1 : ck0 (dMis.drop 236) ((dBs_10.drop 6).take 6) = true := by decide +kernel
set_option maxRecDepth 100000 in
set_option maxHeartbeats 4000000 in
theorem okc_10_2 : ck0 (dMis.drop 242) (((dBs_10.drop 6).drop 6).take 6) = true := by decide +kernel
set_option maxRecDepth 100000 in
set_option maxHeartbeats 4000000 in
theorem okc_10_3 : ck0 (dMis.drop 248) (((dBs_10.drop 6).drop 6).drop 6) = true := by decide +kernel
theorem okc_10 : ck0 (dMis.drop 230) dBs_10 = true := ck0_cut _ _ 6 okc_10_0 (ck0_cut _ _ 6 okc_10_1 (ck0_cut _ _ 6 okc_10_2 (okc_10_3)))
set_option maxRecDepth 100000 in
set_option maxHeartbeats 4000000 in
theorem okr_10 : dRs_10 = dcl 230 dBs_10 := by rfl
set_option maxRecDepth 100000 in
set_option maxHeartbeats 4000000 in
theorem okc_11_0 : ck0 (dMis.drop 253) (dBs_11.take 6) = true := by decide +kernel
set_option maxRecDepth 100000 in
set_option maxHeartbeats 4000000 in
theorem okc_11_1 : ck0 (dMis.drop 259) ((dBs_11.drop 6).take 6) = true := by decide +kernel
set_option maxRecDepth 100000 in
set_option maxHeartbeats 4000000 in
theorem okc_11_2 : ck0 (dMis.drop 265) (((dBs_11.drop 6).drop 6).take 6) = true := by decide +kernel
set_option maxRecDepth 100000 in
set_option maxHeartbeats 4000000 in
theorem okc_11_3 : ck0 (dMis.drop 271) (((dBs_11.drop 6).drop 6).drop 6) = true := by decide +kernel
theorem okc_11 : ck0 (dMis.drop 253) dBs_11 = true := ck0_cut _ _ 6 okc_11_0 (ck0_cut _ _ 6 okc_11_1 (ck0_cut _ _ 6 okc_11_2 (okc_11_3)))
set_option maxRecDepth 100000 in
set_option maxHeartbeats 4000000 in
theorem okr_11 : dRs_11 = dcl 253 dBs_11 := by rfl

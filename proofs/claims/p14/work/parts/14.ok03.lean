/-! ===== what runs is what the lists say, and the lists are the class files ===== -/
set_option maxRecDepth 100000 in
set_option maxHeartbeats 4000000 in
theorem okc_6_0 : ck0 (dMis.drop 138) (dBs_6.take 6) = true := by decide +kernel
set_option maxRecDepth 100000 in
set_option maxHeartbeats 4000000 in
theorem okc_6_1 : ck0 (dMis.drop 144) ((dBs_6.drop 6).take 6) = true := by decide +kernel
set_option maxRecDepth 100000 in
set_option maxHeartbeats 4000000 in
theorem okc_6_2 : ck0 (dMis.drop 150) (((dBs_6.drop 6).drop 6).take 6) = true := by decide +kernel
set_option maxRecDepth 100000 in
set_option maxHeartbeats 4000000 in
theorem okc_6_3 : ck0 (dMis.drop 156) (((dBs_6.drop 6).drop 6).drop 6) = true := by decide +kernel
theorem okc_6 : ck0 (dMis.drop 138) dBs_6 = true := ck0_cut _ _ 6 okc_6_0 (ck0_cut _ _ 6 okc_6_1 (ck0_cut _ _ 6 okc_6_2 (okc_6_3)))
set_option maxRecDepth 100000 in
set_option maxHeartbeats 4000000 in
theorem okr_6 : dRs_6 = dcl 138 dBs_6 := by rfl
set_option maxRecDepth 100000 in
set_option maxHeartbeats 4000000 in
theorem okc_7_0 : ck0 (dMis.drop 161) (dBs_7.take 4) = true := by decide +kernel
set_option maxRecDepth 100000 in
set_option maxHeartbeats 4000000 in
theorem okc_7_1 : ck0 (dMis.drop 165) ((dBs_7.drop 4).take 5) = true := by decide +kernel
set_option maxRecDepth 100000 in
set_option maxHeartbeats 4000000 in
theorem okc_7_2 : ck0 (dMis.drop 170) (((dBs_7.drop 4).drop 5).take 6) = true := by decide +kernel
set_option maxRecDepth 100000 in
set_option maxHeartbeats 4000000 in
theorem okc_7_3 : ck0 (dMis.drop 176) ((((dBs_7.drop 4).drop 5).drop 6).take 6) = true := by decide +kernel
set_option maxRecDepth 100000 in
set_option maxHeartbeats 4000000 in
theorem okc_7_4 : ck0 (dMis.drop 182) ((((dBs_7.drop 4).drop 5).drop 6).drop 6) = true := by decide +kernel
theorem okc_7 : ck0 (dMis.drop 161) dBs_7 = true := ck0_cut _ _ 4 okc_7_0 (ck0_cut _ _ 5 okc_7_1 (ck0_cut _ _ 6 okc_7_2 (ck0_cut _ _ 6 okc_7_3 (okc_7_4))))
set_option maxRecDepth 100000 in
set_option maxHeartbeats 4000000 in
theorem okr_7 : dRs_7 = dcl 161 dBs_7 := by rfl

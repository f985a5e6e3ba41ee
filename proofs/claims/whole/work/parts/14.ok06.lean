/-! ===== what runs is what the lists say, and the lists are the class files ===== -/
set_option maxRecDepth 100000 in
set_option maxHeartbeats 4000000 in
theorem okc_12_0 : ck0 (dMis.drop 276) (dBs_12.take 5) = true := by decide +kernel
set_option maxRecDepth 100000 in
set_option maxHeartbeats 4000000 in
theorem okc_12_1 : ck0 (dMis.drop 281) ((dBs_12.drop 5).take 4) = true := by decide +kernel
set_option maxRecDepth 100000 in
set_option maxHeartbeats 4000000 in
theorem okc_12_2 : ck0 (dMis.drop 285) (((dBs_12.drop 5).drop 4).take 6) = true := by decide +kernel
set_option maxRecDepth 100000 in
set_option maxHeartbeats 4000000 in
theorem okc_12_3 : ck0 (dMis.drop 291) ((((dBs_12.drop 5).drop 4).drop 6).take 6) = true := by decide +kernel
set_option maxRecDepth 100000 in
set_option maxHeartbeats 4000000 in
theorem okc_12_4 : ck0 (dMis.drop 297) ((((dBs_12.drop 5).drop 4).drop 6).drop 6) = true := by decide +kernel
theorem okc_12 : ck0 (dMis.drop 276) dBs_12 = true := ck0_cut _ _ 5 okc_12_0 (ck0_cut _ _ 4 okc_12_1 (ck0_cut _ _ 6 okc_12_2 (ck0_cut _ _ 6 okc_12_3 (okc_12_4))))
set_option maxRecDepth 100000 in
set_option maxHeartbeats 4000000 in
theorem okr_12 : dRs_12 = dcl 276 dBs_12 := by rfl
set_option maxRecDepth 100000 in
set_option maxHeartbeats 4000000 in
theorem okc_13_0 : ck0 (dMis.drop 299) (dBs_13.take 6) = true := by decide +kernel
set_option maxRecDepth 100000 in
set_option maxHeartbeats 4000000 in
theorem okm_X13_init_0 : ckm (13, yX13_init, cX13_init, 1, none) (bX13_init.take 1) = true := by decide +kernel
set_option maxRecDepth 100000 in
set_option maxHeartbeats 4000000 in
theorem okm_X13_init_1 : ckm (13, yX13_init, cX13_init, 1, none) ((bX13_init.drop 1).take 1) = true := by decide +kernel
set_option maxRecDepth 100000 in
set_option maxHeartbeats 4000000 in
theorem okm_X13_init_2 : ckm (13, yX13_init, cX13_init, 1, none) (((bX13_init.drop 1).drop 1).take 1) = true := by decide +kernel
set_option maxRecDepth 100000 in
set_option maxHeartbeats 4000000 in
theorem okm_X13_init_3 : ckm (13, yX13_init, cX13_init, 1, none) ((((bX13_init.drop 1).drop 1).drop 1).take 1) = true := by decide +kernel
set_option maxRecDepth 100000 in
set_option maxHeartbeats 4000000 in
theorem okm_X13_init_4 : ckm (13, yX13_init, cX13_init, 1, none) (((((bX13_init.drop 1).drop 1).drop 1).drop 1).take 1) = true := by decide +kernel
set_option maxRecDepth 100000 in
set_option maxHeartbeats 4000000 in
theorem okm_X13_init_5 : ckm (13, yX13_init, cX13_init, 1, none) ((((((bX13_init.drop 1).drop 1).drop 1).drop 1).drop 1).take 1) = true := by decide +kernel
set_option maxRecDepth 100000 in
set_option maxHeartbeats 4000000 in
theorem okm_X13_init_6 : ckm (13, yX13_init, cX13_init, 1, none) ((((((bX13_init.drop 1).drop 1).drop 1).drop 1).drop 1).drop 1) = true := by decide +kernel
set_option maxRecDepth 100000 in
set_option maxHeartbeats 4000000 in
theorem okc_13_1 : ck0 (dMis.drop 305) ((dBs_13.drop 6).take 1) = true := ck0_one (q := (13, yX13_init, cX13_init, 1, none)) (b := bX13_init) (by rfl) (by rfl) (ckm_cut 1 okm_X13_init_0 (ckm_cut 1 okm_X13_init_1 (ckm_cut 1 okm_X13_init_2 (ckm_cut 1 okm_X13_init_3 (ckm_cut 1 okm_X13_init_4 (ckm_cut 1 okm_X13_init_5 (okm_X13_init_6)))))))
set_option maxRecDepth 100000 in
set_option maxHeartbeats 4000000 in
theorem okc_13_2 : ck0 (dMis.drop 306) (((dBs_13.drop 6).drop 1).take 6) = true := by decide +kernel
set_option maxRecDepth 100000 in
set_option maxHeartbeats 4000000 in
theorem okc_13_3 : ck0 (dMis.drop 312) ((((dBs_13.drop 6).drop 1).drop 6).take 6) = true := by decide +kernel
set_option maxRecDepth 100000 in
set_option maxHeartbeats 4000000 in
theorem okc_13_4 : ck0 (dMis.drop 318) ((((dBs_13.drop 6).drop 1).drop 6).drop 6) = true := by decide +kernel
theorem okc_13 : ck0 (dMis.drop 299) dBs_13 = true := ck0_cut _ _ 6 okc_13_0 (ck0_cut _ _ 1 okc_13_1 (ck0_cut _ _ 6 okc_13_2 (ck0_cut _ _ 6 okc_13_3 (okc_13_4))))
set_option maxRecDepth 100000 in
set_option maxHeartbeats 4000000 in
theorem okr_13 : dRs_13 = dcl 299 dBs_13 := by rfl

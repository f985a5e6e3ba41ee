/-! ===== what runs is what the lists say, and the lists are the class files ===== -/
set_option maxRecDepth 100000 in
set_option maxHeartbeats 4000000 in
theorem okc_20 : ck0 (dMis.drop 460) dBs_20 = true := by decide +kernel
set_option maxRecDepth 100000 in
set_option maxHeartbeats 4000000 in
theorem okr_20 : dRs_20 = dcl 460 dBs_20 := by rfl
set_option maxRecDepth 100000 in
set_option maxHeartbeats 4000000 in
theorem okc_21 : ck0 (dMis.drop 483) dBs_21 = true := by decide +kernel
set_option maxRecDepth 100000 in
set_option maxHeartbeats 4000000 in
theorem okr_21 : dRs_21 = dcl 483 dBs_21 := by rfl
set_option maxRecDepth 100000 in
set_option maxHeartbeats 4000000 in
theorem okc_22 : ck0 (dMis.drop 506) dBs_22 = true := by decide +kernel
set_option maxRecDepth 100000 in
set_option maxHeartbeats 4000000 in
theorem okr_22 : dRs_22 = dcl 506 dBs_22 := by rfl

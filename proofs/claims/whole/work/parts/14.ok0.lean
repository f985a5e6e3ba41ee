/-! ===== what runs is what the lists say, and the lists are the class files ===== -/
set_option maxRecDepth 100000 in
set_option maxHeartbeats 4000000 in
theorem okc_0 : ck0 (dMis.drop 0) dBs_0 = true := by decide +kernel
set_option maxRecDepth 100000 in
set_option maxHeartbeats 4000000 in
theorem okr_0 : dRs_0 = dcl 0 dBs_0 := by rfl
set_option maxRecDepth 100000 in
set_option maxHeartbeats 4000000 in
theorem okc_1 : ck0 (dMis.drop 23) dBs_1 = true := by decide +kernel
set_option maxRecDepth 100000 in
set_option maxHeartbeats 4000000 in
theorem okr_1 : dRs_1 = dcl 23 dBs_1 := by rfl
set_option maxRecDepth 100000 in
set_option maxHeartbeats 4000000 in
theorem okc_2 : ck0 (dMis.drop 46) dBs_2 = true := by decide +kernel
set_option maxRecDepth 100000 in
set_option maxHeartbeats 4000000 in
theorem okr_2 : dRs_2 = dcl 46 dBs_2 := by rfl
set_option maxRecDepth 100000 in
set_option maxHeartbeats 4000000 in
theorem okc_3 : ck0 (dMis.drop 69) dBs_3 = true := by decide +kernel
set_option maxRecDepth 100000 in
set_option maxHeartbeats 4000000 in
theorem okr_3 : dRs_3 = dcl 69 dBs_3 := by rfl

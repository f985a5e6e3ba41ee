/-! ===== what runs is what the lists say, and the lists are the class files ===== -/
set_option maxRecDepth 100000 in
set_option maxHeartbeats 4000000 in
theorem okc_4 : ck0 (dMis.drop 92) dBs_4 = true := by decide +kernel
set_option maxRecDepth 100000 in
set_option maxHeartbeats 4000000 in
theorem okr_4 : dRs_4 = dcl 92 dBs_4 := by rfl
set_option maxRecDepth 100000 in
set_option maxHeartbeats 4000000 in
theorem okc_5 : ck0 (dMis.drop 115) dBs_5 = true := by decide +kernel
set_option maxRecDepth 100000 in
set_option maxHeartbeats 4000000 in
theorem okr_5 : dRs_5 = dcl 115 dBs_5 := by rfl
set_option maxRecDepth 100000 in
set_option maxHeartbeats 4000000 in
theorem okc_6 : ck0 (dMis.drop 138) dBs_6 = true := by decide +kernel
set_option maxRecDepth 100000 in
set_option maxHeartbeats 4000000 in
theorem okr_6 : dRs_6 = dcl 138 dBs_6 := by rfl
set_option maxRecDepth 100000 in
set_option maxHeartbeats 4000000 in
theorem okc_7 : ck0 (dMis.drop 161) dBs_7 = true := by decide +kernel
set_option maxRecDepth 100000 in
set_option maxHeartbeats 4000000 in
theorem okr_7 : dRs_7 = dcl 161 dBs_7 := by rfl

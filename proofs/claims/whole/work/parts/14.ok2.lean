/-! ===== what runs is what the lists say, and the lists are the class files ===== -/
set_option maxRecDepth 100000 in
set_option maxHeartbeats 4000000 in
theorem okc_8 : ck0 (dMis.drop 184) dBs_8 = true := by decide +kernel
set_option maxRecDepth 100000 in
set_option maxHeartbeats 4000000 in
theorem okr_8 : dRs_8 = dcl 184 dBs_8 := by rfl
set_option maxRecDepth 100000 in
set_option maxHeartbeats 4000000 in
theorem okc_9 : ck0 (dMis.drop 207) dBs_9 = true := by decide +kernel
set_option maxRecDepth 100000 in
set_option maxHeartbeats 4000000 in
theorem okr_9 : dRs_9 = dcl 207 dBs_9 := by rfl
set_option maxRecDepth 100000 in
set_option maxHeartbeats 4000000 in
theorem okc_10 : ck0 (dMis.drop 230) dBs_10 = true := by decide +kernel
set_option maxRecDepth 100000 in
set_option maxHeartbeats 4000000 in
theorem okr_10 : dRs_10 = dcl 230 dBs_10 := by rfl
set_option maxRecDepth 100000 in
set_option maxHeartbeats 4000000 in
theorem okc_11 : ck0 (dMis.drop 253) dBs_11 = true := by decide +kernel
set_option maxRecDepth 100000 in
set_option maxHeartbeats 4000000 in
theorem okr_11 : dRs_11 = dcl 253 dBs_11 := by rfl

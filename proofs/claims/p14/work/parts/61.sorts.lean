/-! ===== the runs by sort ===== -/
def OKJ (r k v : Nat) : Prop := ∃ tab S, sAll (sJudge tab S r) (chkJ S (ansJ r k v)) = true ∧ tIn tab k v = true ∧ chkT S tj = true ∧ ovs S = oj (o108 []) [] (c95 k) (cCn k, [1, 2]) (c105 k v) (c100 k) (c96 k)
def OK5 (k v : Nat) : Prop := ∃ tab S S2, all5 S2 (run5 5 tab S) = true ∧ tIn tab k v = true ∧ chkT S tj = true ∧ chkT S2 tj = true ∧ ovs S = oj r2l (frL 188 189 190 (0, [1]) (0, [3])) (c95 k) (cCn k, [1, 2]) (c105 k v) (((0, []), (cCn k, [1, 2])) :: c100 k) (c96 k) ∧ ovs S2 = oj r2l (cond (someB k v) (frL 188 189 190 (cCn k, [1]) (1, [3])) (frL 188 189 4294967295 (0, [1]) (0, []))) (c95 k) (cCn k, [1, 2]) (c105 k v) (((0, []), (cCn k, [1, 2])) :: c100 k) (c96 k)
def OK7 (k v : Nat) : Prop := ∃ tab S S2, all7 S2 (run7 7 tab S) = true ∧ tIn tab k v = true ∧ chkT S tj = true ∧ chkT S2 tj = true ∧ ovs S = oj r2l (frL 207 208 209 (0, [1]) (0, [3])) (c95 k) (cCn k, [1, 2]) (c105 k v) (((0, []), (cCn k, [1, 2])) :: c100 k) (c96 k) ∧ ovs S2 = oj r2l (cond (onlyB k v) (frL 207 208 209 (cCn k, [1]) (1, [3])) (frL 207 208 4294967295 (0, [1]) (0, []))) (c95 k) (cCn k, [1, 2]) (c105 k v) (((0, []), (cCn k, [1, 2])) :: c100 k) (c96 k)

set_option maxRecDepth 100000 in
theorem cS_0_0 : chkT sS_0_0 tj = true := by decide +kernel
set_option maxRecDepth 100000 in
theorem cA_0_0 : chkT sA_0_0 tj = true ∧ chkT sB_0_0 tj = true := by decide +kernel
set_option maxRecDepth 100000 in
theorem dA_0_0 : chkT tA_0_0 tj = true ∧ chkT tB_0_0 tj = true := by decide +kernel
set_option maxRecDepth 100000 in
theorem cS_0_1 : chkT sS_0_1 tj = true := by decide +kernel
set_option maxRecDepth 100000 in
theorem cA_0_1 : chkT sA_0_1 tj = true ∧ chkT sB_0_1 tj = true := by decide +kernel
set_option maxRecDepth 100000 in
theorem dA_0_1 : chkT tA_0_1 tj = true ∧ chkT tB_0_1 tj = true := by decide +kernel
set_option maxRecDepth 100000 in
theorem cS_0_2 : chkT sS_0_2 tj = true := by decide +kernel
set_option maxRecDepth 100000 in
theorem cA_0_2 : chkT sA_0_2 tj = true ∧ chkT sB_0_2 tj = true := by decide +kernel
set_option maxRecDepth 100000 in
theorem dA_0_2 : chkT tA_0_2 tj = true ∧ chkT tB_0_2 tj = true := by decide +kernel
set_option maxRecDepth 100000 in
theorem cS_0_3 : chkT sS_0_3 tj = true := by decide +kernel
set_option maxRecDepth 100000 in
theorem cA_0_3 : chkT sA_0_3 tj = true ∧ chkT sB_0_3 tj = true := by decide +kernel
set_option maxRecDepth 100000 in
theorem dA_0_3 : chkT tA_0_3 tj = true ∧ chkT tB_0_3 tj = true := by decide +kernel
set_option maxRecDepth 100000 in
theorem cS_0_4 : chkT sS_0_4 tj = true := by decide +kernel
set_option maxRecDepth 100000 in
theorem cA_0_4 : chkT sA_0_4 tj = true ∧ chkT sB_0_4 tj = true := by decide +kernel
set_option maxRecDepth 100000 in
theorem dA_0_4 : chkT tA_0_4 tj = true ∧ chkT tB_0_4 tj = true := by decide +kernel
set_option maxRecDepth 100000 in
theorem cS_0_5 : chkT sS_0_5 tj = true := by decide +kernel
set_option maxRecDepth 100000 in
theorem cA_0_5 : chkT sA_0_5 tj = true ∧ chkT sB_0_5 tj = true := by decide +kernel
set_option maxRecDepth 100000 in
theorem dA_0_5 : chkT tA_0_5 tj = true ∧ chkT tB_0_5 tj = true := by decide +kernel
set_option maxRecDepth 100000 in
theorem cS_0_6 : chkT sS_0_6 tj = true := by decide +kernel
set_option maxRecDepth 100000 in
theorem cA_0_6 : chkT sA_0_6 tj = true ∧ chkT sB_0_6 tj = true := by decide +kernel
set_option maxRecDepth 100000 in
theorem dA_0_6 : chkT tA_0_6 tj = true ∧ chkT tB_0_6 tj = true := by decide +kernel
set_option maxRecDepth 100000 in
theorem cS_0_7 : chkT sS_0_7 tj = true := by decide +kernel
set_option maxRecDepth 100000 in
theorem cA_0_7 : chkT sA_0_7 tj = true ∧ chkT sB_0_7 tj = true := by decide +kernel
set_option maxRecDepth 100000 in
theorem dA_0_7 : chkT tA_0_7 tj = true ∧ chkT tB_0_7 tj = true := by decide +kernel
set_option maxRecDepth 100000 in
theorem cS_0_8 : chkT sS_0_8 tj = true := by decide +kernel
set_option maxRecDepth 100000 in
theorem cA_0_8 : chkT sA_0_8 tj = true ∧ chkT sB_0_8 tj = true := by decide +kernel
set_option maxRecDepth 100000 in
theorem dA_0_8 : chkT tA_0_8 tj = true ∧ chkT tB_0_8 tj = true := by decide +kernel
set_option maxRecDepth 100000 in
theorem cS_0_9 : chkT sS_0_9 tj = true := by decide +kernel
set_option maxRecDepth 100000 in
theorem cA_0_9 : chkT sA_0_9 tj = true ∧ chkT sB_0_9 tj = true := by decide +kernel
set_option maxRecDepth 100000 in
theorem dA_0_9 : chkT tA_0_9 tj = true ∧ chkT tB_0_9 tj = true := by decide +kernel
set_option maxRecDepth 100000 in
theorem cS_0_10 : chkT sS_0_10 tj = true := by decide +kernel
set_option maxRecDepth 100000 in
theorem cA_0_10 : chkT sA_0_10 tj = true ∧ chkT sB_0_10 tj = true := by decide +kernel
set_option maxRecDepth 100000 in
theorem dA_0_10 : chkT tA_0_10 tj = true ∧ chkT tB_0_10 tj = true := by decide +kernel
set_option maxRecDepth 100000 in
theorem cS_0_11 : chkT sS_0_11 tj = true := by decide +kernel
set_option maxRecDepth 100000 in
theorem cA_0_11 : chkT sA_0_11 tj = true ∧ chkT sB_0_11 tj = true := by decide +kernel
set_option maxRecDepth 100000 in
theorem dA_0_11 : chkT tA_0_11 tj = true ∧ chkT tB_0_11 tj = true := by decide +kernel
set_option maxRecDepth 100000 in
theorem cS_0_12 : chkT sS_0_12 tj = true := by decide +kernel
set_option maxRecDepth 100000 in
theorem cA_0_12 : chkT sA_0_12 tj = true ∧ chkT sB_0_12 tj = true := by decide +kernel
set_option maxRecDepth 100000 in
theorem dA_0_12 : chkT tA_0_12 tj = true ∧ chkT tB_0_12 tj = true := by decide +kernel
set_option maxRecDepth 100000 in
theorem cS_0_13 : chkT sS_0_13 tj = true := by decide +kernel
set_option maxRecDepth 100000 in
theorem cA_0_13 : chkT sA_0_13 tj = true ∧ chkT sB_0_13 tj = true := by decide +kernel
set_option maxRecDepth 100000 in
theorem dA_0_13 : chkT tA_0_13 tj = true ∧ chkT tB_0_13 tj = true := by decide +kernel
set_option maxRecDepth 100000 in
theorem cS_0_14 : chkT sS_0_14 tj = true := by decide +kernel
set_option maxRecDepth 100000 in
theorem cA_0_14 : chkT sA_0_14 tj = true ∧ chkT sB_0_14 tj = true := by decide +kernel
set_option maxRecDepth 100000 in
theorem dA_0_14 : chkT tA_0_14 tj = true ∧ chkT tB_0_14 tj = true := by decide +kernel
set_option maxRecDepth 100000 in
theorem cS_0_15 : chkT sS_0_15 tj = true := by decide +kernel
set_option maxRecDepth 100000 in
theorem cA_0_15 : chkT sA_0_15 tj = true ∧ chkT sB_0_15 tj = true := by decide +kernel
set_option maxRecDepth 100000 in
theorem dA_0_15 : chkT tA_0_15 tj = true ∧ chkT tB_0_15 tj = true := by decide +kernel
set_option maxRecDepth 100000 in
theorem cS_1_0 : chkT sS_1_0 tj = true := by decide +kernel
set_option maxRecDepth 100000 in
theorem cA_1_0 : chkT sA_1_0 tj = true ∧ chkT sB_1_0 tj = true := by decide +kernel
set_option maxRecDepth 100000 in
theorem dA_1_0 : chkT tA_1_0 tj = true ∧ chkT tB_1_0 tj = true := by decide +kernel
set_option maxRecDepth 100000 in
theorem cS_1_1 : chkT sS_1_1 tj = true := by decide +kernel
set_option maxRecDepth 100000 in
theorem cA_1_1 : chkT sA_1_1 tj = true ∧ chkT sB_1_1 tj = true := by decide +kernel
set_option maxRecDepth 100000 in
theorem dA_1_1 : chkT tA_1_1 tj = true ∧ chkT tB_1_1 tj = true := by decide +kernel
set_option maxRecDepth 100000 in
theorem cS_1_2 : chkT sS_1_2 tj = true := by decide +kernel
set_option maxRecDepth 100000 in
theorem cA_1_2 : chkT sA_1_2 tj = true ∧ chkT sB_1_2 tj = true := by decide +kernel
set_option maxRecDepth 100000 in
theorem dA_1_2 : chkT tA_1_2 tj = true ∧ chkT tB_1_2 tj = true := by decide +kernel
set_option maxRecDepth 100000 in
theorem cS_1_3 : chkT sS_1_3 tj = true := by decide +kernel
set_option maxRecDepth 100000 in
theorem cA_1_3 : chkT sA_1_3 tj = true ∧ chkT sB_1_3 tj = true := by decide +kernel
set_option maxRecDepth 100000 in
theorem dA_1_3 : chkT tA_1_3 tj = true ∧ chkT tB_1_3 tj = true := by decide +kernel
set_option maxRecDepth 100000 in
theorem cS_1_4 : chkT sS_1_4 tj = true := by decide +kernel
set_option maxRecDepth 100000 in
theorem cA_1_4 : chkT sA_1_4 tj = true ∧ chkT sB_1_4 tj = true := by decide +kernel
set_option maxRecDepth 100000 in
theorem dA_1_4 : chkT tA_1_4 tj = true ∧ chkT tB_1_4 tj = true := by decide +kernel
set_option maxRecDepth 100000 in
theorem cS_1_5 : chkT sS_1_5 tj = true := by decide +kernel
set_option maxRecDepth 100000 in
theorem cA_1_5 : chkT sA_1_5 tj = true ∧ chkT sB_1_5 tj = true := by decide +kernel
set_option maxRecDepth 100000 in
theorem dA_1_5 : chkT tA_1_5 tj = true ∧ chkT tB_1_5 tj = true := by decide +kernel
set_option maxRecDepth 100000 in
theorem cS_1_6 : chkT sS_1_6 tj = true := by decide +kernel
set_option maxRecDepth 100000 in
theorem cA_1_6 : chkT sA_1_6 tj = true ∧ chkT sB_1_6 tj = true := by decide +kernel
set_option maxRecDepth 100000 in
theorem dA_1_6 : chkT tA_1_6 tj = true ∧ chkT tB_1_6 tj = true := by decide +kernel
set_option maxRecDepth 100000 in
theorem cS_1_7 : chkT sS_1_7 tj = true := by decide +kernel
set_option maxRecDepth 100000 in
theorem cA_1_7 : chkT sA_1_7 tj = true ∧ chkT sB_1_7 tj = true := by decide +kernel
set_option maxRecDepth 100000 in
theorem dA_1_7 : chkT tA_1_7 tj = true ∧ chkT tB_1_7 tj = true := by decide +kernel
set_option maxRecDepth 100000 in
theorem cS_1_8 : chkT sS_1_8 tj = true := by decide +kernel
set_option maxRecDepth 100000 in
theorem cA_1_8 : chkT sA_1_8 tj = true ∧ chkT sB_1_8 tj = true := by decide +kernel
set_option maxRecDepth 100000 in
theorem dA_1_8 : chkT tA_1_8 tj = true ∧ chkT tB_1_8 tj = true := by decide +kernel
set_option maxRecDepth 100000 in
theorem cS_1_9 : chkT sS_1_9 tj = true := by decide +kernel
set_option maxRecDepth 100000 in
theorem cA_1_9 : chkT sA_1_9 tj = true ∧ chkT sB_1_9 tj = true := by decide +kernel
set_option maxRecDepth 100000 in
theorem dA_1_9 : chkT tA_1_9 tj = true ∧ chkT tB_1_9 tj = true := by decide +kernel
set_option maxRecDepth 100000 in
theorem cS_1_10 : chkT sS_1_10 tj = true := by decide +kernel
set_option maxRecDepth 100000 in
theorem cA_1_10 : chkT sA_1_10 tj = true ∧ chkT sB_1_10 tj = true := by decide +kernel
set_option maxRecDepth 100000 in
theorem dA_1_10 : chkT tA_1_10 tj = true ∧ chkT tB_1_10 tj = true := by decide +kernel
set_option maxRecDepth 100000 in
theorem cS_1_11 : chkT sS_1_11 tj = true := by decide +kernel
set_option maxRecDepth 100000 in
theorem cA_1_11 : chkT sA_1_11 tj = true ∧ chkT sB_1_11 tj = true := by decide +kernel
set_option maxRecDepth 100000 in
theorem dA_1_11 : chkT tA_1_11 tj = true ∧ chkT tB_1_11 tj = true := by decide +kernel
set_option maxRecDepth 100000 in
theorem cS_1_12 : chkT sS_1_12 tj = true := by decide +kernel
set_option maxRecDepth 100000 in
theorem cA_1_12 : chkT sA_1_12 tj = true ∧ chkT sB_1_12 tj = true := by decide +kernel
set_option maxRecDepth 100000 in
theorem dA_1_12 : chkT tA_1_12 tj = true ∧ chkT tB_1_12 tj = true := by decide +kernel
set_option maxRecDepth 100000 in
theorem cS_1_13 : chkT sS_1_13 tj = true := by decide +kernel
set_option maxRecDepth 100000 in
theorem cA_1_13 : chkT sA_1_13 tj = true ∧ chkT sB_1_13 tj = true := by decide +kernel
set_option maxRecDepth 100000 in
theorem dA_1_13 : chkT tA_1_13 tj = true ∧ chkT tB_1_13 tj = true := by decide +kernel
set_option maxRecDepth 100000 in
theorem cS_1_14 : chkT sS_1_14 tj = true := by decide +kernel
set_option maxRecDepth 100000 in
theorem cA_1_14 : chkT sA_1_14 tj = true ∧ chkT sB_1_14 tj = true := by decide +kernel
set_option maxRecDepth 100000 in
theorem dA_1_14 : chkT tA_1_14 tj = true ∧ chkT tB_1_14 tj = true := by decide +kernel
set_option maxRecDepth 100000 in
theorem cS_1_15 : chkT sS_1_15 tj = true := by decide +kernel
set_option maxRecDepth 100000 in
theorem cA_1_15 : chkT sA_1_15 tj = true ∧ chkT sB_1_15 tj = true := by decide +kernel
set_option maxRecDepth 100000 in
theorem dA_1_15 : chkT tA_1_15 tj = true ∧ chkT tB_1_15 tj = true := by decide +kernel
set_option maxRecDepth 100000 in
theorem cS_2_0 : chkT sS_2_0 tj = true := by decide +kernel
set_option maxRecDepth 100000 in
theorem cA_2_0 : chkT sA_2_0 tj = true ∧ chkT sB_2_0 tj = true := by decide +kernel
set_option maxRecDepth 100000 in
theorem dA_2_0 : chkT tA_2_0 tj = true ∧ chkT tB_2_0 tj = true := by decide +kernel
set_option maxRecDepth 100000 in
theorem cS_2_1 : chkT sS_2_1 tj = true := by decide +kernel
set_option maxRecDepth 100000 in
theorem cA_2_1 : chkT sA_2_1 tj = true ∧ chkT sB_2_1 tj = true := by decide +kernel
set_option maxRecDepth 100000 in
theorem dA_2_1 : chkT tA_2_1 tj = true ∧ chkT tB_2_1 tj = true := by decide +kernel
set_option maxRecDepth 100000 in
theorem cS_2_2 : chkT sS_2_2 tj = true := by decide +kernel
set_option maxRecDepth 100000 in
theorem cA_2_2 : chkT sA_2_2 tj = true ∧ chkT sB_2_2 tj = true := by decide +kernel
set_option maxRecDepth 100000 in
theorem dA_2_2 : chkT tA_2_2 tj = true ∧ chkT tB_2_2 tj = true := by decide +kernel
set_option maxRecDepth 100000 in
theorem cS_2_3 : chkT sS_2_3 tj = true := by decide +kernel
set_option maxRecDepth 100000 in
theorem cA_2_3 : chkT sA_2_3 tj = true ∧ chkT sB_2_3 tj = true := by decide +kernel
set_option maxRecDepth 100000 in
theorem dA_2_3 : chkT tA_2_3 tj = true ∧ chkT tB_2_3 tj = true := by decide +kernel
set_option maxRecDepth 100000 in
theorem cS_3_0 : chkT sS_3_0 tj = true := by decide +kernel
set_option maxRecDepth 100000 in
theorem cA_3_0 : chkT sA_3_0 tj = true ∧ chkT sB_3_0 tj = true := by decide +kernel
set_option maxRecDepth 100000 in
theorem dA_3_0 : chkT tA_3_0 tj = true ∧ chkT tB_3_0 tj = true := by decide +kernel
set_option maxRecDepth 100000 in
theorem cS_3_1 : chkT sS_3_1 tj = true := by decide +kernel
set_option maxRecDepth 100000 in
theorem cA_3_1 : chkT sA_3_1 tj = true ∧ chkT sB_3_1 tj = true := by decide +kernel
set_option maxRecDepth 100000 in
theorem dA_3_1 : chkT tA_3_1 tj = true ∧ chkT tB_3_1 tj = true := by decide +kernel
set_option maxRecDepth 100000 in
theorem cS_4_0 : chkT sS_4_0 tj = true := by decide +kernel
set_option maxRecDepth 100000 in
theorem cA_4_0 : chkT sA_4_0 tj = true ∧ chkT sB_4_0 tj = true := by decide +kernel
set_option maxRecDepth 100000 in
theorem dA_4_0 : chkT tA_4_0 tj = true ∧ chkT tB_4_0 tj = true := by decide +kernel
set_option maxRecDepth 100000 in
theorem cS_4_1 : chkT sS_4_1 tj = true := by decide +kernel
set_option maxRecDepth 100000 in
theorem cA_4_1 : chkT sA_4_1 tj = true ∧ chkT sB_4_1 tj = true := by decide +kernel
set_option maxRecDepth 100000 in
theorem dA_4_1 : chkT tA_4_1 tj = true ∧ chkT tB_4_1 tj = true := by decide +kernel
set_option maxRecDepth 100000 in
theorem cS_4_2 : chkT sS_4_2 tj = true := by decide +kernel
set_option maxRecDepth 100000 in
theorem cA_4_2 : chkT sA_4_2 tj = true ∧ chkT sB_4_2 tj = true := by decide +kernel
set_option maxRecDepth 100000 in
theorem dA_4_2 : chkT tA_4_2 tj = true ∧ chkT tB_4_2 tj = true := by decide +kernel
set_option maxRecDepth 100000 in
theorem cS_4_3 : chkT sS_4_3 tj = true := by decide +kernel
set_option maxRecDepth 100000 in
theorem cA_4_3 : chkT sA_4_3 tj = true ∧ chkT sB_4_3 tj = true := by decide +kernel
set_option maxRecDepth 100000 in
theorem dA_4_3 : chkT tA_4_3 tj = true ∧ chkT tB_4_3 tj = true := by decide +kernel
set_option maxRecDepth 100000 in
theorem cS_4_4 : chkT sS_4_4 tj = true := by decide +kernel
set_option maxRecDepth 100000 in
theorem cA_4_4 : chkT sA_4_4 tj = true ∧ chkT sB_4_4 tj = true := by decide +kernel
set_option maxRecDepth 100000 in
theorem dA_4_4 : chkT tA_4_4 tj = true ∧ chkT tB_4_4 tj = true := by decide +kernel
set_option maxRecDepth 100000 in
theorem cS_4_5 : chkT sS_4_5 tj = true := by decide +kernel
set_option maxRecDepth 100000 in
theorem cA_4_5 : chkT sA_4_5 tj = true ∧ chkT sB_4_5 tj = true := by decide +kernel
set_option maxRecDepth 100000 in
theorem dA_4_5 : chkT tA_4_5 tj = true ∧ chkT tB_4_5 tj = true := by decide +kernel
set_option maxRecDepth 100000 in
theorem cS_4_6 : chkT sS_4_6 tj = true := by decide +kernel
set_option maxRecDepth 100000 in
theorem cA_4_6 : chkT sA_4_6 tj = true ∧ chkT sB_4_6 tj = true := by decide +kernel
set_option maxRecDepth 100000 in
theorem dA_4_6 : chkT tA_4_6 tj = true ∧ chkT tB_4_6 tj = true := by decide +kernel
set_option maxRecDepth 100000 in
theorem cS_4_7 : chkT sS_4_7 tj = true := by decide +kernel
set_option maxRecDepth 100000 in
theorem cA_4_7 : chkT sA_4_7 tj = true ∧ chkT sB_4_7 tj = true := by decide +kernel
set_option maxRecDepth 100000 in
theorem dA_4_7 : chkT tA_4_7 tj = true ∧ chkT tB_4_7 tj = true := by decide +kernel
set_option maxRecDepth 100000 in
theorem cS_4_8 : chkT sS_4_8 tj = true := by decide +kernel
set_option maxRecDepth 100000 in
theorem cA_4_8 : chkT sA_4_8 tj = true ∧ chkT sB_4_8 tj = true := by decide +kernel
set_option maxRecDepth 100000 in
theorem dA_4_8 : chkT tA_4_8 tj = true ∧ chkT tB_4_8 tj = true := by decide +kernel
set_option maxRecDepth 100000 in
theorem cS_4_9 : chkT sS_4_9 tj = true := by decide +kernel
set_option maxRecDepth 100000 in
theorem cA_4_9 : chkT sA_4_9 tj = true ∧ chkT sB_4_9 tj = true := by decide +kernel
set_option maxRecDepth 100000 in
theorem dA_4_9 : chkT tA_4_9 tj = true ∧ chkT tB_4_9 tj = true := by decide +kernel
set_option maxRecDepth 100000 in
theorem cS_4_10 : chkT sS_4_10 tj = true := by decide +kernel
set_option maxRecDepth 100000 in
theorem cA_4_10 : chkT sA_4_10 tj = true ∧ chkT sB_4_10 tj = true := by decide +kernel
set_option maxRecDepth 100000 in
theorem dA_4_10 : chkT tA_4_10 tj = true ∧ chkT tB_4_10 tj = true := by decide +kernel
set_option maxRecDepth 100000 in
theorem cS_4_11 : chkT sS_4_11 tj = true := by decide +kernel
set_option maxRecDepth 100000 in
theorem cA_4_11 : chkT sA_4_11 tj = true ∧ chkT sB_4_11 tj = true := by decide +kernel
set_option maxRecDepth 100000 in
theorem dA_4_11 : chkT tA_4_11 tj = true ∧ chkT tB_4_11 tj = true := by decide +kernel
set_option maxRecDepth 100000 in
theorem cS_4_12 : chkT sS_4_12 tj = true := by decide +kernel
set_option maxRecDepth 100000 in
theorem cA_4_12 : chkT sA_4_12 tj = true ∧ chkT sB_4_12 tj = true := by decide +kernel
set_option maxRecDepth 100000 in
theorem dA_4_12 : chkT tA_4_12 tj = true ∧ chkT tB_4_12 tj = true := by decide +kernel
set_option maxRecDepth 100000 in
theorem cS_4_13 : chkT sS_4_13 tj = true := by decide +kernel
set_option maxRecDepth 100000 in
theorem cA_4_13 : chkT sA_4_13 tj = true ∧ chkT sB_4_13 tj = true := by decide +kernel
set_option maxRecDepth 100000 in
theorem dA_4_13 : chkT tA_4_13 tj = true ∧ chkT tB_4_13 tj = true := by decide +kernel
set_option maxRecDepth 100000 in
theorem cS_4_14 : chkT sS_4_14 tj = true := by decide +kernel
set_option maxRecDepth 100000 in
theorem cA_4_14 : chkT sA_4_14 tj = true ∧ chkT sB_4_14 tj = true := by decide +kernel
set_option maxRecDepth 100000 in
theorem dA_4_14 : chkT tA_4_14 tj = true ∧ chkT tB_4_14 tj = true := by decide +kernel
set_option maxRecDepth 100000 in
theorem cS_4_15 : chkT sS_4_15 tj = true := by decide +kernel
set_option maxRecDepth 100000 in
theorem cA_4_15 : chkT sA_4_15 tj = true ∧ chkT sB_4_15 tj = true := by decide +kernel
set_option maxRecDepth 100000 in
theorem dA_4_15 : chkT tA_4_15 tj = true ∧ chkT tB_4_15 tj = true := by decide +kernel
theorem wJ_0_0_0 : OKJ 0 0 0 := ⟨[], sS_0_0, j_0_0_0, (by decide +kernel), cS_0_0, rfl⟩
theorem wJ_1_0_0 : OKJ 1 0 0 := ⟨[], sS_0_0, j_1_0_0, (by decide +kernel), cS_0_0, rfl⟩
theorem wJ_2_0_0 : OKJ 2 0 0 := ⟨[], sS_0_0, j_2_0_0, (by decide +kernel), cS_0_0, rfl⟩
theorem wJ_3_0_0 : OKJ 3 0 0 := ⟨[], sS_0_0, j_3_0_0, (by decide +kernel), cS_0_0, rfl⟩
theorem wJ_4_0_0 : OKJ 4 0 0 := ⟨[((169869312, [1]), (1, []))], sS_0_0, j_4_0_0, (by decide +kernel), cS_0_0, rfl⟩
theorem wJ_5_0_0 : OKJ 5 0 0 := ⟨[], sS_0_0, j_5_0_0, (by decide +kernel), cS_0_0, rfl⟩
theorem w5_0_0 : OK5 0 0 := ⟨[((169869312, [1]), (1, [])), ((190840832, [1]), (1, []))], sA_0_0, sB_0_0, a_0_0, (by decide +kernel), cA_0_0.1, cA_0_0.2, rfl, rfl⟩
theorem w7_0_0 : OK7 0 0 := ⟨[], tA_0_0, tB_0_0, s_0_0, (by decide +kernel), dA_0_0.1, dA_0_0.2, rfl, rfl⟩
theorem wJ_0_0_1 : OKJ 0 0 1 := ⟨[], sS_0_1, j_0_0_1, (by decide +kernel), cS_0_1, rfl⟩
theorem wJ_1_0_1 : OKJ 1 0 1 := ⟨[], sS_0_1, j_1_0_1, (by decide +kernel), cS_0_1, rfl⟩
theorem wJ_2_0_1 : OKJ 2 0 1 := ⟨[], sS_0_1, j_2_0_1, (by decide +kernel), cS_0_1, rfl⟩
theorem wJ_3_0_1 : OKJ 3 0 1 := ⟨[], sS_0_1, j_3_0_1, (by decide +kernel), cS_0_1, rfl⟩
theorem wJ_4_0_1 : OKJ 4 0 1 := ⟨[((169869312, [1]), (1, []))], sS_0_1, j_4_0_1, (by decide +kernel), cS_0_1, rfl⟩
theorem wJ_5_0_1 : OKJ 5 0 1 := ⟨[], sS_0_1, j_5_0_1, (by decide +kernel), cS_0_1, rfl⟩
theorem w5_0_1 : OK5 0 1 := ⟨[((169869312, [1]), (1, [])), ((190840832, [1]), (1, []))], sA_0_1, sB_0_1, a_0_1, (by decide +kernel), cA_0_1.1, cA_0_1.2, rfl, rfl⟩
theorem w7_0_1 : OK7 0 1 := ⟨[], tA_0_1, tB_0_1, s_0_1, (by decide +kernel), dA_0_1.1, dA_0_1.2, rfl, rfl⟩
theorem wJ_0_0_2 : OKJ 0 0 2 := ⟨[], sS_0_2, j_0_0_2, (by decide +kernel), cS_0_2, rfl⟩
theorem wJ_1_0_2 : OKJ 1 0 2 := ⟨[], sS_0_2, j_1_0_2, (by decide +kernel), cS_0_2, rfl⟩
theorem wJ_2_0_2 : OKJ 2 0 2 := ⟨[], sS_0_2, j_2_0_2, (by decide +kernel), cS_0_2, rfl⟩
theorem wJ_3_0_2 : OKJ 3 0 2 := ⟨[], sS_0_2, j_3_0_2, (by decide +kernel), cS_0_2, rfl⟩
theorem wJ_4_0_2 : OKJ 4 0 2 := ⟨[((169869312, [1]), (1, []))], sS_0_2, j_4_0_2, (by decide +kernel), cS_0_2, rfl⟩
theorem wJ_5_0_2 : OKJ 5 0 2 := ⟨[], sS_0_2, j_5_0_2, (by decide +kernel), cS_0_2, rfl⟩
theorem w5_0_2 : OK5 0 2 := ⟨[((169869312, [1]), (1, [])), ((190840832, [1]), (1, []))], sA_0_2, sB_0_2, a_0_2, (by decide +kernel), cA_0_2.1, cA_0_2.2, rfl, rfl⟩
theorem w7_0_2 : OK7 0 2 := ⟨[], tA_0_2, tB_0_2, s_0_2, (by decide +kernel), dA_0_2.1, dA_0_2.2, rfl, rfl⟩
theorem wJ_0_0_3 : OKJ 0 0 3 := ⟨[], sS_0_3, j_0_0_3, (by decide +kernel), cS_0_3, rfl⟩
theorem wJ_1_0_3 : OKJ 1 0 3 := ⟨[], sS_0_3, j_1_0_3, (by decide +kernel), cS_0_3, rfl⟩
theorem wJ_2_0_3 : OKJ 2 0 3 := ⟨[], sS_0_3, j_2_0_3, (by decide +kernel), cS_0_3, rfl⟩
theorem wJ_3_0_3 : OKJ 3 0 3 := ⟨[], sS_0_3, j_3_0_3, (by decide +kernel), cS_0_3, rfl⟩
theorem wJ_4_0_3 : OKJ 4 0 3 := ⟨[((169869312, [1]), (1, []))], sS_0_3, j_4_0_3, (by decide +kernel), cS_0_3, rfl⟩
theorem wJ_5_0_3 : OKJ 5 0 3 := ⟨[], sS_0_3, j_5_0_3, (by decide +kernel), cS_0_3, rfl⟩
theorem w5_0_3 : OK5 0 3 := ⟨[((169869312, [1]), (1, [])), ((190840832, [1]), (1, []))], sA_0_3, sB_0_3, a_0_3, (by decide +kernel), cA_0_3.1, cA_0_3.2, rfl, rfl⟩
theorem w7_0_3 : OK7 0 3 := ⟨[], tA_0_3, tB_0_3, s_0_3, (by decide +kernel), dA_0_3.1, dA_0_3.2, rfl, rfl⟩
theorem wJ_0_0_4 : OKJ 0 0 4 := ⟨[], sS_0_4, j_0_0_4, (by decide +kernel), cS_0_4, rfl⟩
theorem wJ_1_0_4 : OKJ 1 0 4 := ⟨[], sS_0_4, j_1_0_4, (by decide +kernel), cS_0_4, rfl⟩
theorem wJ_2_0_4 : OKJ 2 0 4 := ⟨[], sS_0_4, j_2_0_4, (by decide +kernel), cS_0_4, rfl⟩
theorem wJ_3_0_4 : OKJ 3 0 4 := ⟨[], sS_0_4, j_3_0_4, (by decide +kernel), cS_0_4, rfl⟩
theorem wJ_4_0_4 : OKJ 4 0 4 := ⟨[((169869312, [1]), (1, []))], sS_0_4, j_4_0_4, (by decide +kernel), cS_0_4, rfl⟩
theorem wJ_5_0_4 : OKJ 5 0 4 := ⟨[], sS_0_4, j_5_0_4, (by decide +kernel), cS_0_4, rfl⟩
theorem w5_0_4 : OK5 0 4 := ⟨[((169869312, [1]), (1, [])), ((190840832, [1]), (1, []))], sA_0_4, sB_0_4, a_0_4, (by decide +kernel), cA_0_4.1, cA_0_4.2, rfl, rfl⟩
theorem w7_0_4 : OK7 0 4 := ⟨[], tA_0_4, tB_0_4, s_0_4, (by decide +kernel), dA_0_4.1, dA_0_4.2, rfl, rfl⟩
theorem wJ_0_0_5 : OKJ 0 0 5 := ⟨[], sS_0_5, j_0_0_5, (by decide +kernel), cS_0_5, rfl⟩
theorem wJ_1_0_5 : OKJ 1 0 5 := ⟨[], sS_0_5, j_1_0_5, (by decide +kernel), cS_0_5, rfl⟩
theorem wJ_2_0_5 : OKJ 2 0 5 := ⟨[], sS_0_5, j_2_0_5, (by decide +kernel), cS_0_5, rfl⟩
theorem wJ_3_0_5 : OKJ 3 0 5 := ⟨[], sS_0_5, j_3_0_5, (by decide +kernel), cS_0_5, rfl⟩
theorem wJ_4_0_5 : OKJ 4 0 5 := ⟨[((169869312, [1]), (1, []))], sS_0_5, j_4_0_5, (by decide +kernel), cS_0_5, rfl⟩
theorem wJ_5_0_5 : OKJ 5 0 5 := ⟨[], sS_0_5, j_5_0_5, (by decide +kernel), cS_0_5, rfl⟩
theorem w5_0_5 : OK5 0 5 := ⟨[((169869312, [1]), (1, [])), ((190840832, [1]), (1, []))], sA_0_5, sB_0_5, a_0_5, (by decide +kernel), cA_0_5.1, cA_0_5.2, rfl, rfl⟩
theorem w7_0_5 : OK7 0 5 := ⟨[], tA_0_5, tB_0_5, s_0_5, (by decide +kernel), dA_0_5.1, dA_0_5.2, rfl, rfl⟩
theorem wJ_0_0_6 : OKJ 0 0 6 := ⟨[], sS_0_6, j_0_0_6, (by decide +kernel), cS_0_6, rfl⟩
theorem wJ_1_0_6 : OKJ 1 0 6 := ⟨[], sS_0_6, j_1_0_6, (by decide +kernel), cS_0_6, rfl⟩
theorem wJ_2_0_6 : OKJ 2 0 6 := ⟨[], sS_0_6, j_2_0_6, (by decide +kernel), cS_0_6, rfl⟩
theorem wJ_3_0_6 : OKJ 3 0 6 := ⟨[], sS_0_6, j_3_0_6, (by decide +kernel), cS_0_6, rfl⟩
theorem wJ_4_0_6 : OKJ 4 0 6 := ⟨[((169869312, [1]), (0, [])), ((175112192, [1]), (0, [])), ((181403648, [1]), (0, [])), ((184549376, [1]), (0, []))], sS_0_6, j_4_0_6, (by decide +kernel), cS_0_6, rfl⟩
theorem wJ_5_0_6 : OKJ 5 0 6 := ⟨[], sS_0_6, j_5_0_6, (by decide +kernel), cS_0_6, rfl⟩
theorem w5_0_6 : OK5 0 6 := ⟨[((169869312, [1]), (0, [])), ((175112192, [1]), (0, [])), ((181403648, [1]), (0, [])), ((184549376, [1]), (0, [])), ((190840832, [1]), (0, []))], sA_0_6, sB_0_6, a_0_6, (by decide +kernel), cA_0_6.1, cA_0_6.2, rfl, rfl⟩
theorem w7_0_6 : OK7 0 6 := ⟨[], tA_0_6, tB_0_6, s_0_6, (by decide +kernel), dA_0_6.1, dA_0_6.2, rfl, rfl⟩
theorem wJ_0_0_7 : OKJ 0 0 7 := ⟨[], sS_0_7, j_0_0_7, (by decide +kernel), cS_0_7, rfl⟩
theorem wJ_1_0_7 : OKJ 1 0 7 := ⟨[], sS_0_7, j_1_0_7, (by decide +kernel), cS_0_7, rfl⟩
theorem wJ_2_0_7 : OKJ 2 0 7 := ⟨[], sS_0_7, j_2_0_7, (by decide +kernel), cS_0_7, rfl⟩
theorem wJ_3_0_7 : OKJ 3 0 7 := ⟨[], sS_0_7, j_3_0_7, (by decide +kernel), cS_0_7, rfl⟩
theorem wJ_4_0_7 : OKJ 4 0 7 := ⟨[((169869312, [1]), (0, [])), ((175112192, [1]), (0, [])), ((181403648, [1]), (0, [])), ((184549376, [1]), (0, []))], sS_0_7, j_4_0_7, (by decide +kernel), cS_0_7, rfl⟩
theorem wJ_5_0_7 : OKJ 5 0 7 := ⟨[], sS_0_7, j_5_0_7, (by decide +kernel), cS_0_7, rfl⟩
theorem w5_0_7 : OK5 0 7 := ⟨[((169869312, [1]), (0, [])), ((175112192, [1]), (0, [])), ((181403648, [1]), (0, [])), ((184549376, [1]), (0, [])), ((190840832, [1]), (0, []))], sA_0_7, sB_0_7, a_0_7, (by decide +kernel), cA_0_7.1, cA_0_7.2, rfl, rfl⟩
theorem w7_0_7 : OK7 0 7 := ⟨[], tA_0_7, tB_0_7, s_0_7, (by decide +kernel), dA_0_7.1, dA_0_7.2, rfl, rfl⟩
theorem wJ_0_0_8 : OKJ 0 0 8 := ⟨[], sS_0_8, j_0_0_8, (by decide +kernel), cS_0_8, rfl⟩
theorem wJ_1_0_8 : OKJ 1 0 8 := ⟨[], sS_0_8, j_1_0_8, (by decide +kernel), cS_0_8, rfl⟩
theorem wJ_2_0_8 : OKJ 2 0 8 := ⟨[], sS_0_8, j_2_0_8, (by decide +kernel), cS_0_8, rfl⟩
theorem wJ_3_0_8 : OKJ 3 0 8 := ⟨[], sS_0_8, j_3_0_8, (by decide +kernel), cS_0_8, rfl⟩
theorem wJ_4_0_8 : OKJ 4 0 8 := ⟨[((169869312, [1]), (0, [])), ((175112192, [1]), (0, [])), ((181403648, [1]), (0, [])), ((184549376, [1]), (0, []))], sS_0_8, j_4_0_8, (by decide +kernel), cS_0_8, rfl⟩
theorem wJ_5_0_8 : OKJ 5 0 8 := ⟨[], sS_0_8, j_5_0_8, (by decide +kernel), cS_0_8, rfl⟩
theorem w5_0_8 : OK5 0 8 := ⟨[((169869312, [1]), (0, [])), ((175112192, [1]), (0, [])), ((181403648, [1]), (0, [])), ((184549376, [1]), (0, [])), ((190840832, [1]), (0, []))], sA_0_8, sB_0_8, a_0_8, (by decide +kernel), cA_0_8.1, cA_0_8.2, rfl, rfl⟩
theorem w7_0_8 : OK7 0 8 := ⟨[], tA_0_8, tB_0_8, s_0_8, (by decide +kernel), dA_0_8.1, dA_0_8.2, rfl, rfl⟩
theorem wJ_0_0_9 : OKJ 0 0 9 := ⟨[], sS_0_9, j_0_0_9, (by decide +kernel), cS_0_9, rfl⟩
theorem wJ_1_0_9 : OKJ 1 0 9 := ⟨[], sS_0_9, j_1_0_9, (by decide +kernel), cS_0_9, rfl⟩
theorem wJ_2_0_9 : OKJ 2 0 9 := ⟨[], sS_0_9, j_2_0_9, (by decide +kernel), cS_0_9, rfl⟩
theorem wJ_3_0_9 : OKJ 3 0 9 := ⟨[], sS_0_9, j_3_0_9, (by decide +kernel), cS_0_9, rfl⟩
theorem wJ_4_0_9 : OKJ 4 0 9 := ⟨[((169869312, [1]), (0, [])), ((175112192, [1]), (0, [])), ((181403648, [1]), (0, [])), ((184549376, [1]), (0, []))], sS_0_9, j_4_0_9, (by decide +kernel), cS_0_9, rfl⟩
theorem wJ_5_0_9 : OKJ 5 0 9 := ⟨[], sS_0_9, j_5_0_9, (by decide +kernel), cS_0_9, rfl⟩
theorem w5_0_9 : OK5 0 9 := ⟨[((169869312, [1]), (0, [])), ((175112192, [1]), (0, [])), ((181403648, [1]), (0, [])), ((184549376, [1]), (0, [])), ((190840832, [1]), (0, []))], sA_0_9, sB_0_9, a_0_9, (by decide +kernel), cA_0_9.1, cA_0_9.2, rfl, rfl⟩
theorem w7_0_9 : OK7 0 9 := ⟨[], tA_0_9, tB_0_9, s_0_9, (by decide +kernel), dA_0_9.1, dA_0_9.2, rfl, rfl⟩
theorem wJ_0_0_10 : OKJ 0 0 10 := ⟨[], sS_0_10, j_0_0_10, (by decide +kernel), cS_0_10, rfl⟩
theorem wJ_1_0_10 : OKJ 1 0 10 := ⟨[], sS_0_10, j_1_0_10, (by decide +kernel), cS_0_10, rfl⟩
theorem wJ_2_0_10 : OKJ 2 0 10 := ⟨[], sS_0_10, j_2_0_10, (by decide +kernel), cS_0_10, rfl⟩
theorem wJ_3_0_10 : OKJ 3 0 10 := ⟨[], sS_0_10, j_3_0_10, (by decide +kernel), cS_0_10, rfl⟩
theorem wJ_4_0_10 : OKJ 4 0 10 := ⟨[((169869312, [1]), (0, [])), ((175112192, [1]), (0, [])), ((181403648, [1]), (0, [])), ((184549376, [1]), (0, []))], sS_0_10, j_4_0_10, (by decide +kernel), cS_0_10, rfl⟩
theorem wJ_5_0_10 : OKJ 5 0 10 := ⟨[], sS_0_10, j_5_0_10, (by decide +kernel), cS_0_10, rfl⟩
theorem w5_0_10 : OK5 0 10 := ⟨[((169869312, [1]), (0, [])), ((175112192, [1]), (0, [])), ((181403648, [1]), (0, [])), ((184549376, [1]), (0, [])), ((190840832, [1]), (0, []))], sA_0_10, sB_0_10, a_0_10, (by decide +kernel), cA_0_10.1, cA_0_10.2, rfl, rfl⟩
theorem w7_0_10 : OK7 0 10 := ⟨[], tA_0_10, tB_0_10, s_0_10, (by decide +kernel), dA_0_10.1, dA_0_10.2, rfl, rfl⟩
theorem wJ_0_0_11 : OKJ 0 0 11 := ⟨[], sS_0_11, j_0_0_11, (by decide +kernel), cS_0_11, rfl⟩
theorem wJ_1_0_11 : OKJ 1 0 11 := ⟨[], sS_0_11, j_1_0_11, (by decide +kernel), cS_0_11, rfl⟩
theorem wJ_2_0_11 : OKJ 2 0 11 := ⟨[], sS_0_11, j_2_0_11, (by decide +kernel), cS_0_11, rfl⟩
theorem wJ_3_0_11 : OKJ 3 0 11 := ⟨[], sS_0_11, j_3_0_11, (by decide +kernel), cS_0_11, rfl⟩
theorem wJ_4_0_11 : OKJ 4 0 11 := ⟨[((169869312, [1]), (0, [])), ((175112192, [1]), (0, [])), ((181403648, [1]), (0, [])), ((184549376, [1]), (0, []))], sS_0_11, j_4_0_11, (by decide +kernel), cS_0_11, rfl⟩
theorem wJ_5_0_11 : OKJ 5 0 11 := ⟨[], sS_0_11, j_5_0_11, (by decide +kernel), cS_0_11, rfl⟩
theorem w5_0_11 : OK5 0 11 := ⟨[((169869312, [1]), (0, [])), ((175112192, [1]), (0, [])), ((181403648, [1]), (0, [])), ((184549376, [1]), (0, [])), ((190840832, [1]), (0, []))], sA_0_11, sB_0_11, a_0_11, (by decide +kernel), cA_0_11.1, cA_0_11.2, rfl, rfl⟩
theorem w7_0_11 : OK7 0 11 := ⟨[], tA_0_11, tB_0_11, s_0_11, (by decide +kernel), dA_0_11.1, dA_0_11.2, rfl, rfl⟩
theorem wJ_0_0_12 : OKJ 0 0 12 := ⟨[], sS_0_12, j_0_0_12, (by decide +kernel), cS_0_12, rfl⟩
theorem wJ_1_0_12 : OKJ 1 0 12 := ⟨[], sS_0_12, j_1_0_12, (by decide +kernel), cS_0_12, rfl⟩
theorem wJ_2_0_12 : OKJ 2 0 12 := ⟨[], sS_0_12, j_2_0_12, (by decide +kernel), cS_0_12, rfl⟩
theorem wJ_3_0_12 : OKJ 3 0 12 := ⟨[], sS_0_12, j_3_0_12, (by decide +kernel), cS_0_12, rfl⟩
theorem wJ_4_0_12 : OKJ 4 0 12 := ⟨[((169869312, [1]), (0, [])), ((175112192, [1]), (0, [])), ((181403648, [1]), (0, [])), ((184549376, [1]), (0, []))], sS_0_12, j_4_0_12, (by decide +kernel), cS_0_12, rfl⟩
theorem wJ_5_0_12 : OKJ 5 0 12 := ⟨[], sS_0_12, j_5_0_12, (by decide +kernel), cS_0_12, rfl⟩
theorem w5_0_12 : OK5 0 12 := ⟨[((169869312, [1]), (0, [])), ((175112192, [1]), (0, [])), ((181403648, [1]), (0, [])), ((184549376, [1]), (0, [])), ((190840832, [1]), (0, []))], sA_0_12, sB_0_12, a_0_12, (by decide +kernel), cA_0_12.1, cA_0_12.2, rfl, rfl⟩
theorem w7_0_12 : OK7 0 12 := ⟨[], tA_0_12, tB_0_12, s_0_12, (by decide +kernel), dA_0_12.1, dA_0_12.2, rfl, rfl⟩
theorem wJ_0_0_13 : OKJ 0 0 13 := ⟨[], sS_0_13, j_0_0_13, (by decide +kernel), cS_0_13, rfl⟩
theorem wJ_1_0_13 : OKJ 1 0 13 := ⟨[], sS_0_13, j_1_0_13, (by decide +kernel), cS_0_13, rfl⟩
theorem wJ_2_0_13 : OKJ 2 0 13 := ⟨[], sS_0_13, j_2_0_13, (by decide +kernel), cS_0_13, rfl⟩
theorem wJ_3_0_13 : OKJ 3 0 13 := ⟨[], sS_0_13, j_3_0_13, (by decide +kernel), cS_0_13, rfl⟩
theorem wJ_4_0_13 : OKJ 4 0 13 := ⟨[((169869312, [1]), (0, [])), ((175112192, [1]), (0, [])), ((181403648, [1]), (0, [])), ((184549376, [1]), (0, []))], sS_0_13, j_4_0_13, (by decide +kernel), cS_0_13, rfl⟩
theorem wJ_5_0_13 : OKJ 5 0 13 := ⟨[], sS_0_13, j_5_0_13, (by decide +kernel), cS_0_13, rfl⟩
theorem w5_0_13 : OK5 0 13 := ⟨[((169869312, [1]), (0, [])), ((175112192, [1]), (0, [])), ((181403648, [1]), (0, [])), ((184549376, [1]), (0, [])), ((190840832, [1]), (0, []))], sA_0_13, sB_0_13, a_0_13, (by decide +kernel), cA_0_13.1, cA_0_13.2, rfl, rfl⟩
theorem w7_0_13 : OK7 0 13 := ⟨[], tA_0_13, tB_0_13, s_0_13, (by decide +kernel), dA_0_13.1, dA_0_13.2, rfl, rfl⟩
theorem wJ_0_0_14 : OKJ 0 0 14 := ⟨[], sS_0_14, j_0_0_14, (by decide +kernel), cS_0_14, rfl⟩
theorem wJ_1_0_14 : OKJ 1 0 14 := ⟨[], sS_0_14, j_1_0_14, (by decide +kernel), cS_0_14, rfl⟩
theorem wJ_2_0_14 : OKJ 2 0 14 := ⟨[], sS_0_14, j_2_0_14, (by decide +kernel), cS_0_14, rfl⟩
theorem wJ_3_0_14 : OKJ 3 0 14 := ⟨[], sS_0_14, j_3_0_14, (by decide +kernel), cS_0_14, rfl⟩
theorem wJ_4_0_14 : OKJ 4 0 14 := ⟨[((169869312, [1]), (0, [])), ((175112192, [1]), (0, [])), ((181403648, [1]), (0, [])), ((184549376, [1]), (0, []))], sS_0_14, j_4_0_14, (by decide +kernel), cS_0_14, rfl⟩
theorem wJ_5_0_14 : OKJ 5 0 14 := ⟨[], sS_0_14, j_5_0_14, (by decide +kernel), cS_0_14, rfl⟩
theorem w5_0_14 : OK5 0 14 := ⟨[((169869312, [1]), (0, [])), ((175112192, [1]), (0, [])), ((181403648, [1]), (0, [])), ((184549376, [1]), (0, [])), ((190840832, [1]), (0, []))], sA_0_14, sB_0_14, a_0_14, (by decide +kernel), cA_0_14.1, cA_0_14.2, rfl, rfl⟩
theorem w7_0_14 : OK7 0 14 := ⟨[], tA_0_14, tB_0_14, s_0_14, (by decide +kernel), dA_0_14.1, dA_0_14.2, rfl, rfl⟩
theorem wJ_0_0_15 : OKJ 0 0 15 := ⟨[], sS_0_15, j_0_0_15, (by decide +kernel), cS_0_15, rfl⟩
theorem wJ_1_0_15 : OKJ 1 0 15 := ⟨[], sS_0_15, j_1_0_15, (by decide +kernel), cS_0_15, rfl⟩
theorem wJ_2_0_15 : OKJ 2 0 15 := ⟨[], sS_0_15, j_2_0_15, (by decide +kernel), cS_0_15, rfl⟩
theorem wJ_3_0_15 : OKJ 3 0 15 := ⟨[], sS_0_15, j_3_0_15, (by decide +kernel), cS_0_15, rfl⟩
theorem wJ_4_0_15 : OKJ 4 0 15 := ⟨[((169869312, [1]), (0, [])), ((175112192, [1]), (0, [])), ((181403648, [1]), (0, [])), ((184549376, [1]), (0, []))], sS_0_15, j_4_0_15, (by decide +kernel), cS_0_15, rfl⟩
theorem wJ_5_0_15 : OKJ 5 0 15 := ⟨[], sS_0_15, j_5_0_15, (by decide +kernel), cS_0_15, rfl⟩
theorem w5_0_15 : OK5 0 15 := ⟨[((169869312, [1]), (0, [])), ((175112192, [1]), (0, [])), ((181403648, [1]), (0, [])), ((184549376, [1]), (0, [])), ((190840832, [1]), (0, []))], sA_0_15, sB_0_15, a_0_15, (by decide +kernel), cA_0_15.1, cA_0_15.2, rfl, rfl⟩
theorem w7_0_15 : OK7 0 15 := ⟨[], tA_0_15, tB_0_15, s_0_15, (by decide +kernel), dA_0_15.1, dA_0_15.2, rfl, rfl⟩
theorem wJ_0_1_0 : OKJ 0 1 0 := ⟨[], sS_1_0, j_0_1_0, (by decide +kernel), cS_1_0, rfl⟩
theorem wJ_1_1_0 : OKJ 1 1 0 := ⟨[], sS_1_0, j_1_1_0, (by decide +kernel), cS_1_0, rfl⟩
theorem wJ_2_1_0 : OKJ 2 1 0 := ⟨[], sS_1_0, j_2_1_0, (by decide +kernel), cS_1_0, rfl⟩
theorem wJ_3_1_0 : OKJ 3 1 0 := ⟨[], sS_1_0, j_3_1_0, (by decide +kernel), cS_1_0, rfl⟩
theorem wJ_4_1_0 : OKJ 4 1 0 := ⟨[((169869312, [1]), (1, []))], sS_1_0, j_4_1_0, (by decide +kernel), cS_1_0, rfl⟩
theorem wJ_5_1_0 : OKJ 5 1 0 := ⟨[], sS_1_0, j_5_1_0, (by decide +kernel), cS_1_0, rfl⟩
theorem w5_1_0 : OK5 1 0 := ⟨[((169869312, [1]), (1, [])), ((190840832, [1]), (1, []))], sA_1_0, sB_1_0, a_1_0, (by decide +kernel), cA_1_0.1, cA_1_0.2, rfl, rfl⟩
theorem w7_1_0 : OK7 1 0 := ⟨[], tA_1_0, tB_1_0, s_1_0, (by decide +kernel), dA_1_0.1, dA_1_0.2, rfl, rfl⟩
theorem wJ_0_1_1 : OKJ 0 1 1 := ⟨[], sS_1_1, j_0_1_1, (by decide +kernel), cS_1_1, rfl⟩
theorem wJ_1_1_1 : OKJ 1 1 1 := ⟨[], sS_1_1, j_1_1_1, (by decide +kernel), cS_1_1, rfl⟩
theorem wJ_2_1_1 : OKJ 2 1 1 := ⟨[], sS_1_1, j_2_1_1, (by decide +kernel), cS_1_1, rfl⟩
theorem wJ_3_1_1 : OKJ 3 1 1 := ⟨[], sS_1_1, j_3_1_1, (by decide +kernel), cS_1_1, rfl⟩
theorem wJ_4_1_1 : OKJ 4 1 1 := ⟨[((169869312, [1]), (1, []))], sS_1_1, j_4_1_1, (by decide +kernel), cS_1_1, rfl⟩
theorem wJ_5_1_1 : OKJ 5 1 1 := ⟨[], sS_1_1, j_5_1_1, (by decide +kernel), cS_1_1, rfl⟩
theorem w5_1_1 : OK5 1 1 := ⟨[((169869312, [1]), (1, [])), ((190840832, [1]), (1, []))], sA_1_1, sB_1_1, a_1_1, (by decide +kernel), cA_1_1.1, cA_1_1.2, rfl, rfl⟩
theorem w7_1_1 : OK7 1 1 := ⟨[], tA_1_1, tB_1_1, s_1_1, (by decide +kernel), dA_1_1.1, dA_1_1.2, rfl, rfl⟩
theorem wJ_0_1_2 : OKJ 0 1 2 := ⟨[], sS_1_2, j_0_1_2, (by decide +kernel), cS_1_2, rfl⟩
theorem wJ_1_1_2 : OKJ 1 1 2 := ⟨[], sS_1_2, j_1_1_2, (by decide +kernel), cS_1_2, rfl⟩
theorem wJ_2_1_2 : OKJ 2 1 2 := ⟨[], sS_1_2, j_2_1_2, (by decide +kernel), cS_1_2, rfl⟩
theorem wJ_3_1_2 : OKJ 3 1 2 := ⟨[], sS_1_2, j_3_1_2, (by decide +kernel), cS_1_2, rfl⟩
theorem wJ_4_1_2 : OKJ 4 1 2 := ⟨[((169869312, [1]), (1, []))], sS_1_2, j_4_1_2, (by decide +kernel), cS_1_2, rfl⟩
theorem wJ_5_1_2 : OKJ 5 1 2 := ⟨[], sS_1_2, j_5_1_2, (by decide +kernel), cS_1_2, rfl⟩
theorem w5_1_2 : OK5 1 2 := ⟨[((169869312, [1]), (1, [])), ((190840832, [1]), (1, []))], sA_1_2, sB_1_2, a_1_2, (by decide +kernel), cA_1_2.1, cA_1_2.2, rfl, rfl⟩
theorem w7_1_2 : OK7 1 2 := ⟨[], tA_1_2, tB_1_2, s_1_2, (by decide +kernel), dA_1_2.1, dA_1_2.2, rfl, rfl⟩
theorem wJ_0_1_3 : OKJ 0 1 3 := ⟨[], sS_1_3, j_0_1_3, (by decide +kernel), cS_1_3, rfl⟩
theorem wJ_1_1_3 : OKJ 1 1 3 := ⟨[], sS_1_3, j_1_1_3, (by decide +kernel), cS_1_3, rfl⟩
theorem wJ_2_1_3 : OKJ 2 1 3 := ⟨[], sS_1_3, j_2_1_3, (by decide +kernel), cS_1_3, rfl⟩
theorem wJ_3_1_3 : OKJ 3 1 3 := ⟨[], sS_1_3, j_3_1_3, (by decide +kernel), cS_1_3, rfl⟩
theorem wJ_4_1_3 : OKJ 4 1 3 := ⟨[((169869312, [1]), (1, []))], sS_1_3, j_4_1_3, (by decide +kernel), cS_1_3, rfl⟩
theorem wJ_5_1_3 : OKJ 5 1 3 := ⟨[], sS_1_3, j_5_1_3, (by decide +kernel), cS_1_3, rfl⟩
theorem w5_1_3 : OK5 1 3 := ⟨[((169869312, [1]), (1, [])), ((190840832, [1]), (1, []))], sA_1_3, sB_1_3, a_1_3, (by decide +kernel), cA_1_3.1, cA_1_3.2, rfl, rfl⟩
theorem w7_1_3 : OK7 1 3 := ⟨[], tA_1_3, tB_1_3, s_1_3, (by decide +kernel), dA_1_3.1, dA_1_3.2, rfl, rfl⟩
theorem wJ_0_1_4 : OKJ 0 1 4 := ⟨[], sS_1_4, j_0_1_4, (by decide +kernel), cS_1_4, rfl⟩
theorem wJ_1_1_4 : OKJ 1 1 4 := ⟨[], sS_1_4, j_1_1_4, (by decide +kernel), cS_1_4, rfl⟩
theorem wJ_2_1_4 : OKJ 2 1 4 := ⟨[], sS_1_4, j_2_1_4, (by decide +kernel), cS_1_4, rfl⟩
theorem wJ_3_1_4 : OKJ 3 1 4 := ⟨[], sS_1_4, j_3_1_4, (by decide +kernel), cS_1_4, rfl⟩
theorem wJ_4_1_4 : OKJ 4 1 4 := ⟨[((169869312, [1]), (1, []))], sS_1_4, j_4_1_4, (by decide +kernel), cS_1_4, rfl⟩
theorem wJ_5_1_4 : OKJ 5 1 4 := ⟨[], sS_1_4, j_5_1_4, (by decide +kernel), cS_1_4, rfl⟩
theorem w5_1_4 : OK5 1 4 := ⟨[((169869312, [1]), (1, [])), ((190840832, [1]), (1, []))], sA_1_4, sB_1_4, a_1_4, (by decide +kernel), cA_1_4.1, cA_1_4.2, rfl, rfl⟩
theorem w7_1_4 : OK7 1 4 := ⟨[], tA_1_4, tB_1_4, s_1_4, (by decide +kernel), dA_1_4.1, dA_1_4.2, rfl, rfl⟩
theorem wJ_0_1_5 : OKJ 0 1 5 := ⟨[], sS_1_5, j_0_1_5, (by decide +kernel), cS_1_5, rfl⟩
theorem wJ_1_1_5 : OKJ 1 1 5 := ⟨[], sS_1_5, j_1_1_5, (by decide +kernel), cS_1_5, rfl⟩
theorem wJ_2_1_5 : OKJ 2 1 5 := ⟨[], sS_1_5, j_2_1_5, (by decide +kernel), cS_1_5, rfl⟩
theorem wJ_3_1_5 : OKJ 3 1 5 := ⟨[], sS_1_5, j_3_1_5, (by decide +kernel), cS_1_5, rfl⟩
theorem wJ_4_1_5 : OKJ 4 1 5 := ⟨[((169869312, [1]), (0, [])), ((175112192, [1]), (0, [])), ((181403648, [1]), (0, [])), ((184549376, [1]), (0, []))], sS_1_5, j_4_1_5, (by decide +kernel), cS_1_5, rfl⟩
theorem wJ_5_1_5 : OKJ 5 1 5 := ⟨[], sS_1_5, j_5_1_5, (by decide +kernel), cS_1_5, rfl⟩
theorem w5_1_5 : OK5 1 5 := ⟨[((169869312, [1]), (0, [])), ((175112192, [1]), (0, [])), ((181403648, [1]), (0, [])), ((184549376, [1]), (0, [])), ((190840832, [1]), (0, []))], sA_1_5, sB_1_5, a_1_5, (by decide +kernel), cA_1_5.1, cA_1_5.2, rfl, rfl⟩
theorem w7_1_5 : OK7 1 5 := ⟨[], tA_1_5, tB_1_5, s_1_5, (by decide +kernel), dA_1_5.1, dA_1_5.2, rfl, rfl⟩
theorem wJ_0_1_6 : OKJ 0 1 6 := ⟨[], sS_1_6, j_0_1_6, (by decide +kernel), cS_1_6, rfl⟩
theorem wJ_1_1_6 : OKJ 1 1 6 := ⟨[], sS_1_6, j_1_1_6, (by decide +kernel), cS_1_6, rfl⟩
theorem wJ_2_1_6 : OKJ 2 1 6 := ⟨[], sS_1_6, j_2_1_6, (by decide +kernel), cS_1_6, rfl⟩
theorem wJ_3_1_6 : OKJ 3 1 6 := ⟨[], sS_1_6, j_3_1_6, (by decide +kernel), cS_1_6, rfl⟩
theorem wJ_4_1_6 : OKJ 4 1 6 := ⟨[((169869312, [1]), (0, [])), ((175112192, [1]), (0, [])), ((181403648, [1]), (0, [])), ((184549376, [1]), (0, []))], sS_1_6, j_4_1_6, (by decide +kernel), cS_1_6, rfl⟩
theorem wJ_5_1_6 : OKJ 5 1 6 := ⟨[], sS_1_6, j_5_1_6, (by decide +kernel), cS_1_6, rfl⟩
theorem w5_1_6 : OK5 1 6 := ⟨[((169869312, [1]), (0, [])), ((175112192, [1]), (0, [])), ((181403648, [1]), (0, [])), ((184549376, [1]), (0, [])), ((190840832, [1]), (0, []))], sA_1_6, sB_1_6, a_1_6, (by decide +kernel), cA_1_6.1, cA_1_6.2, rfl, rfl⟩
theorem w7_1_6 : OK7 1 6 := ⟨[], tA_1_6, tB_1_6, s_1_6, (by decide +kernel), dA_1_6.1, dA_1_6.2, rfl, rfl⟩
theorem wJ_0_1_7 : OKJ 0 1 7 := ⟨[], sS_1_7, j_0_1_7, (by decide +kernel), cS_1_7, rfl⟩
theorem wJ_1_1_7 : OKJ 1 1 7 := ⟨[], sS_1_7, j_1_1_7, (by decide +kernel), cS_1_7, rfl⟩
theorem wJ_2_1_7 : OKJ 2 1 7 := ⟨[], sS_1_7, j_2_1_7, (by decide +kernel), cS_1_7, rfl⟩
theorem wJ_3_1_7 : OKJ 3 1 7 := ⟨[], sS_1_7, j_3_1_7, (by decide +kernel), cS_1_7, rfl⟩
theorem wJ_4_1_7 : OKJ 4 1 7 := ⟨[((169869312, [1]), (0, [])), ((175112192, [1]), (0, [])), ((181403648, [1]), (0, [])), ((184549376, [1]), (0, []))], sS_1_7, j_4_1_7, (by decide +kernel), cS_1_7, rfl⟩
theorem wJ_5_1_7 : OKJ 5 1 7 := ⟨[], sS_1_7, j_5_1_7, (by decide +kernel), cS_1_7, rfl⟩
theorem w5_1_7 : OK5 1 7 := ⟨[((169869312, [1]), (0, [])), ((175112192, [1]), (0, [])), ((181403648, [1]), (0, [])), ((184549376, [1]), (0, [])), ((190840832, [1]), (0, []))], sA_1_7, sB_1_7, a_1_7, (by decide +kernel), cA_1_7.1, cA_1_7.2, rfl, rfl⟩
theorem w7_1_7 : OK7 1 7 := ⟨[], tA_1_7, tB_1_7, s_1_7, (by decide +kernel), dA_1_7.1, dA_1_7.2, rfl, rfl⟩
theorem wJ_0_1_8 : OKJ 0 1 8 := ⟨[], sS_1_8, j_0_1_8, (by decide +kernel), cS_1_8, rfl⟩
theorem wJ_1_1_8 : OKJ 1 1 8 := ⟨[], sS_1_8, j_1_1_8, (by decide +kernel), cS_1_8, rfl⟩
theorem wJ_2_1_8 : OKJ 2 1 8 := ⟨[], sS_1_8, j_2_1_8, (by decide +kernel), cS_1_8, rfl⟩
theorem wJ_3_1_8 : OKJ 3 1 8 := ⟨[], sS_1_8, j_3_1_8, (by decide +kernel), cS_1_8, rfl⟩
theorem wJ_4_1_8 : OKJ 4 1 8 := ⟨[((169869312, [1]), (0, [])), ((175112192, [1]), (0, [])), ((181403648, [1]), (0, [])), ((184549376, [1]), (0, []))], sS_1_8, j_4_1_8, (by decide +kernel), cS_1_8, rfl⟩
theorem wJ_5_1_8 : OKJ 5 1 8 := ⟨[], sS_1_8, j_5_1_8, (by decide +kernel), cS_1_8, rfl⟩
theorem w5_1_8 : OK5 1 8 := ⟨[((169869312, [1]), (0, [])), ((175112192, [1]), (0, [])), ((181403648, [1]), (0, [])), ((184549376, [1]), (0, [])), ((190840832, [1]), (0, []))], sA_1_8, sB_1_8, a_1_8, (by decide +kernel), cA_1_8.1, cA_1_8.2, rfl, rfl⟩
theorem w7_1_8 : OK7 1 8 := ⟨[], tA_1_8, tB_1_8, s_1_8, (by decide +kernel), dA_1_8.1, dA_1_8.2, rfl, rfl⟩
theorem wJ_0_1_9 : OKJ 0 1 9 := ⟨[], sS_1_9, j_0_1_9, (by decide +kernel), cS_1_9, rfl⟩
theorem wJ_1_1_9 : OKJ 1 1 9 := ⟨[], sS_1_9, j_1_1_9, (by decide +kernel), cS_1_9, rfl⟩
theorem wJ_2_1_9 : OKJ 2 1 9 := ⟨[], sS_1_9, j_2_1_9, (by decide +kernel), cS_1_9, rfl⟩
theorem wJ_3_1_9 : OKJ 3 1 9 := ⟨[], sS_1_9, j_3_1_9, (by decide +kernel), cS_1_9, rfl⟩
theorem wJ_4_1_9 : OKJ 4 1 9 := ⟨[((169869312, [1]), (0, [])), ((175112192, [1]), (0, [])), ((181403648, [1]), (0, [])), ((184549376, [1]), (0, []))], sS_1_9, j_4_1_9, (by decide +kernel), cS_1_9, rfl⟩
theorem wJ_5_1_9 : OKJ 5 1 9 := ⟨[], sS_1_9, j_5_1_9, (by decide +kernel), cS_1_9, rfl⟩
theorem w5_1_9 : OK5 1 9 := ⟨[((169869312, [1]), (0, [])), ((175112192, [1]), (0, [])), ((181403648, [1]), (0, [])), ((184549376, [1]), (0, [])), ((190840832, [1]), (0, []))], sA_1_9, sB_1_9, a_1_9, (by decide +kernel), cA_1_9.1, cA_1_9.2, rfl, rfl⟩
theorem w7_1_9 : OK7 1 9 := ⟨[], tA_1_9, tB_1_9, s_1_9, (by decide +kernel), dA_1_9.1, dA_1_9.2, rfl, rfl⟩
theorem wJ_0_1_10 : OKJ 0 1 10 := ⟨[], sS_1_10, j_0_1_10, (by decide +kernel), cS_1_10, rfl⟩
theorem wJ_1_1_10 : OKJ 1 1 10 := ⟨[], sS_1_10, j_1_1_10, (by decide +kernel), cS_1_10, rfl⟩
theorem wJ_2_1_10 : OKJ 2 1 10 := ⟨[], sS_1_10, j_2_1_10, (by decide +kernel), cS_1_10, rfl⟩
theorem wJ_3_1_10 : OKJ 3 1 10 := ⟨[], sS_1_10, j_3_1_10, (by decide +kernel), cS_1_10, rfl⟩
theorem wJ_4_1_10 : OKJ 4 1 10 := ⟨[((169869312, [1]), (0, [])), ((175112192, [1]), (0, [])), ((181403648, [1]), (0, [])), ((184549376, [1]), (0, []))], sS_1_10, j_4_1_10, (by decide +kernel), cS_1_10, rfl⟩
theorem wJ_5_1_10 : OKJ 5 1 10 := ⟨[], sS_1_10, j_5_1_10, (by decide +kernel), cS_1_10, rfl⟩
theorem w5_1_10 : OK5 1 10 := ⟨[((169869312, [1]), (0, [])), ((175112192, [1]), (0, [])), ((181403648, [1]), (0, [])), ((184549376, [1]), (0, [])), ((190840832, [1]), (0, []))], sA_1_10, sB_1_10, a_1_10, (by decide +kernel), cA_1_10.1, cA_1_10.2, rfl, rfl⟩
theorem w7_1_10 : OK7 1 10 := ⟨[], tA_1_10, tB_1_10, s_1_10, (by decide +kernel), dA_1_10.1, dA_1_10.2, rfl, rfl⟩
theorem wJ_0_1_11 : OKJ 0 1 11 := ⟨[], sS_1_11, j_0_1_11, (by decide +kernel), cS_1_11, rfl⟩
theorem wJ_1_1_11 : OKJ 1 1 11 := ⟨[], sS_1_11, j_1_1_11, (by decide +kernel), cS_1_11, rfl⟩
theorem wJ_2_1_11 : OKJ 2 1 11 := ⟨[], sS_1_11, j_2_1_11, (by decide +kernel), cS_1_11, rfl⟩
theorem wJ_3_1_11 : OKJ 3 1 11 := ⟨[], sS_1_11, j_3_1_11, (by decide +kernel), cS_1_11, rfl⟩
theorem wJ_4_1_11 : OKJ 4 1 11 := ⟨[((169869312, [1]), (0, [])), ((175112192, [1]), (0, [])), ((181403648, [1]), (0, [])), ((184549376, [1]), (0, []))], sS_1_11, j_4_1_11, (by decide +kernel), cS_1_11, rfl⟩
theorem wJ_5_1_11 : OKJ 5 1 11 := ⟨[], sS_1_11, j_5_1_11, (by decide +kernel), cS_1_11, rfl⟩
theorem w5_1_11 : OK5 1 11 := ⟨[((169869312, [1]), (0, [])), ((175112192, [1]), (0, [])), ((181403648, [1]), (0, [])), ((184549376, [1]), (0, [])), ((190840832, [1]), (0, []))], sA_1_11, sB_1_11, a_1_11, (by decide +kernel), cA_1_11.1, cA_1_11.2, rfl, rfl⟩
theorem w7_1_11 : OK7 1 11 := ⟨[], tA_1_11, tB_1_11, s_1_11, (by decide +kernel), dA_1_11.1, dA_1_11.2, rfl, rfl⟩
theorem wJ_0_1_12 : OKJ 0 1 12 := ⟨[], sS_1_12, j_0_1_12, (by decide +kernel), cS_1_12, rfl⟩
theorem wJ_1_1_12 : OKJ 1 1 12 := ⟨[], sS_1_12, j_1_1_12, (by decide +kernel), cS_1_12, rfl⟩
theorem wJ_2_1_12 : OKJ 2 1 12 := ⟨[], sS_1_12, j_2_1_12, (by decide +kernel), cS_1_12, rfl⟩
theorem wJ_3_1_12 : OKJ 3 1 12 := ⟨[], sS_1_12, j_3_1_12, (by decide +kernel), cS_1_12, rfl⟩
theorem wJ_4_1_12 : OKJ 4 1 12 := ⟨[((169869312, [1]), (0, [])), ((175112192, [1]), (0, [])), ((181403648, [1]), (0, [])), ((184549376, [1]), (0, []))], sS_1_12, j_4_1_12, (by decide +kernel), cS_1_12, rfl⟩
theorem wJ_5_1_12 : OKJ 5 1 12 := ⟨[], sS_1_12, j_5_1_12, (by decide +kernel), cS_1_12, rfl⟩
theorem w5_1_12 : OK5 1 12 := ⟨[((169869312, [1]), (0, [])), ((175112192, [1]), (0, [])), ((181403648, [1]), (0, [])), ((184549376, [1]), (0, [])), ((190840832, [1]), (0, []))], sA_1_12, sB_1_12, a_1_12, (by decide +kernel), cA_1_12.1, cA_1_12.2, rfl, rfl⟩
theorem w7_1_12 : OK7 1 12 := ⟨[], tA_1_12, tB_1_12, s_1_12, (by decide +kernel), dA_1_12.1, dA_1_12.2, rfl, rfl⟩
theorem wJ_0_1_13 : OKJ 0 1 13 := ⟨[], sS_1_13, j_0_1_13, (by decide +kernel), cS_1_13, rfl⟩
theorem wJ_1_1_13 : OKJ 1 1 13 := ⟨[], sS_1_13, j_1_1_13, (by decide +kernel), cS_1_13, rfl⟩
theorem wJ_2_1_13 : OKJ 2 1 13 := ⟨[], sS_1_13, j_2_1_13, (by decide +kernel), cS_1_13, rfl⟩
theorem wJ_3_1_13 : OKJ 3 1 13 := ⟨[], sS_1_13, j_3_1_13, (by decide +kernel), cS_1_13, rfl⟩
theorem wJ_4_1_13 : OKJ 4 1 13 := ⟨[((169869312, [1]), (0, [])), ((175112192, [1]), (0, [])), ((181403648, [1]), (0, [])), ((184549376, [1]), (0, []))], sS_1_13, j_4_1_13, (by decide +kernel), cS_1_13, rfl⟩
theorem wJ_5_1_13 : OKJ 5 1 13 := ⟨[], sS_1_13, j_5_1_13, (by decide +kernel), cS_1_13, rfl⟩
theorem w5_1_13 : OK5 1 13 := ⟨[((169869312, [1]), (0, [])), ((175112192, [1]), (0, [])), ((181403648, [1]), (0, [])), ((184549376, [1]), (0, [])), ((190840832, [1]), (0, []))], sA_1_13, sB_1_13, a_1_13, (by decide +kernel), cA_1_13.1, cA_1_13.2, rfl, rfl⟩
theorem w7_1_13 : OK7 1 13 := ⟨[], tA_1_13, tB_1_13, s_1_13, (by decide +kernel), dA_1_13.1, dA_1_13.2, rfl, rfl⟩
theorem wJ_0_1_14 : OKJ 0 1 14 := ⟨[], sS_1_14, j_0_1_14, (by decide +kernel), cS_1_14, rfl⟩
theorem wJ_1_1_14 : OKJ 1 1 14 := ⟨[], sS_1_14, j_1_1_14, (by decide +kernel), cS_1_14, rfl⟩
theorem wJ_2_1_14 : OKJ 2 1 14 := ⟨[], sS_1_14, j_2_1_14, (by decide +kernel), cS_1_14, rfl⟩
theorem wJ_3_1_14 : OKJ 3 1 14 := ⟨[], sS_1_14, j_3_1_14, (by decide +kernel), cS_1_14, rfl⟩
theorem wJ_4_1_14 : OKJ 4 1 14 := ⟨[((169869312, [1]), (0, [])), ((175112192, [1]), (0, [])), ((181403648, [1]), (0, [])), ((184549376, [1]), (0, []))], sS_1_14, j_4_1_14, (by decide +kernel), cS_1_14, rfl⟩
theorem wJ_5_1_14 : OKJ 5 1 14 := ⟨[], sS_1_14, j_5_1_14, (by decide +kernel), cS_1_14, rfl⟩
theorem w5_1_14 : OK5 1 14 := ⟨[((169869312, [1]), (0, [])), ((175112192, [1]), (0, [])), ((181403648, [1]), (0, [])), ((184549376, [1]), (0, [])), ((190840832, [1]), (0, []))], sA_1_14, sB_1_14, a_1_14, (by decide +kernel), cA_1_14.1, cA_1_14.2, rfl, rfl⟩
theorem w7_1_14 : OK7 1 14 := ⟨[], tA_1_14, tB_1_14, s_1_14, (by decide +kernel), dA_1_14.1, dA_1_14.2, rfl, rfl⟩
theorem wJ_0_1_15 : OKJ 0 1 15 := ⟨[], sS_1_15, j_0_1_15, (by decide +kernel), cS_1_15, rfl⟩
theorem wJ_1_1_15 : OKJ 1 1 15 := ⟨[], sS_1_15, j_1_1_15, (by decide +kernel), cS_1_15, rfl⟩
theorem wJ_2_1_15 : OKJ 2 1 15 := ⟨[], sS_1_15, j_2_1_15, (by decide +kernel), cS_1_15, rfl⟩
theorem wJ_3_1_15 : OKJ 3 1 15 := ⟨[], sS_1_15, j_3_1_15, (by decide +kernel), cS_1_15, rfl⟩
theorem wJ_4_1_15 : OKJ 4 1 15 := ⟨[((169869312, [1]), (0, [])), ((175112192, [1]), (0, [])), ((181403648, [1]), (0, [])), ((184549376, [1]), (0, []))], sS_1_15, j_4_1_15, (by decide +kernel), cS_1_15, rfl⟩
theorem wJ_5_1_15 : OKJ 5 1 15 := ⟨[], sS_1_15, j_5_1_15, (by decide +kernel), cS_1_15, rfl⟩
theorem w5_1_15 : OK5 1 15 := ⟨[((169869312, [1]), (0, [])), ((175112192, [1]), (0, [])), ((181403648, [1]), (0, [])), ((184549376, [1]), (0, [])), ((190840832, [1]), (0, []))], sA_1_15, sB_1_15, a_1_15, (by decide +kernel), cA_1_15.1, cA_1_15.2, rfl, rfl⟩
theorem w7_1_15 : OK7 1 15 := ⟨[], tA_1_15, tB_1_15, s_1_15, (by decide +kernel), dA_1_15.1, dA_1_15.2, rfl, rfl⟩
theorem wJ_0_2_0 : OKJ 0 2 0 := ⟨[], sS_2_0, j_0_2_0, (by decide +kernel), cS_2_0, rfl⟩
theorem wJ_1_2_0 : OKJ 1 2 0 := ⟨[], sS_2_0, j_1_2_0, (by decide +kernel), cS_2_0, rfl⟩
theorem wJ_2_2_0 : OKJ 2 2 0 := ⟨[], sS_2_0, j_2_2_0, (by decide +kernel), cS_2_0, rfl⟩
theorem wJ_3_2_0 : OKJ 3 2 0 := ⟨[], sS_2_0, j_3_2_0, (by decide +kernel), cS_2_0, rfl⟩
theorem wJ_4_2_0 : OKJ 4 2 0 := ⟨[((169869312, [1]), (0, [])), ((175112192, [1]), (1, []))], sS_2_0, j_4_2_0, (by decide +kernel), cS_2_0, rfl⟩
theorem wJ_5_2_0 : OKJ 5 2 0 := ⟨[], sS_2_0, j_5_2_0, (by decide +kernel), cS_2_0, rfl⟩
theorem w5_2_0 : OK5 2 0 := ⟨[((169869312, [1]), (0, [])), ((175112192, [1]), (1, [])), ((190840832, [1]), (1, []))], sA_2_0, sB_2_0, a_2_0, (by decide +kernel), cA_2_0.1, cA_2_0.2, rfl, rfl⟩
theorem w7_2_0 : OK7 2 0 := ⟨[], tA_2_0, tB_2_0, s_2_0, (by decide +kernel), dA_2_0.1, dA_2_0.2, rfl, rfl⟩
theorem wJ_0_2_1 : OKJ 0 2 1 := ⟨[], sS_2_1, j_0_2_1, (by decide +kernel), cS_2_1, rfl⟩
theorem wJ_1_2_1 : OKJ 1 2 1 := ⟨[], sS_2_1, j_1_2_1, (by decide +kernel), cS_2_1, rfl⟩
theorem wJ_2_2_1 : OKJ 2 2 1 := ⟨[], sS_2_1, j_2_2_1, (by decide +kernel), cS_2_1, rfl⟩
theorem wJ_3_2_1 : OKJ 3 2 1 := ⟨[], sS_2_1, j_3_2_1, (by decide +kernel), cS_2_1, rfl⟩
theorem wJ_4_2_1 : OKJ 4 2 1 := ⟨[((169869312, [1]), (0, [])), ((175112192, [1]), (0, [])), ((181403648, [1]), (0, [])), ((184549376, [1]), (0, []))], sS_2_1, j_4_2_1, (by decide +kernel), cS_2_1, rfl⟩
theorem wJ_5_2_1 : OKJ 5 2 1 := ⟨[], sS_2_1, j_5_2_1, (by decide +kernel), cS_2_1, rfl⟩
theorem w5_2_1 : OK5 2 1 := ⟨[((169869312, [1]), (0, [])), ((175112192, [1]), (0, [])), ((181403648, [1]), (0, [])), ((184549376, [1]), (0, [])), ((190840832, [1]), (0, []))], sA_2_1, sB_2_1, a_2_1, (by decide +kernel), cA_2_1.1, cA_2_1.2, rfl, rfl⟩
theorem w7_2_1 : OK7 2 1 := ⟨[], tA_2_1, tB_2_1, s_2_1, (by decide +kernel), dA_2_1.1, dA_2_1.2, rfl, rfl⟩
theorem wJ_0_2_2 : OKJ 0 2 2 := ⟨[], sS_2_2, j_0_2_2, (by decide +kernel), cS_2_2, rfl⟩
theorem wJ_1_2_2 : OKJ 1 2 2 := ⟨[], sS_2_2, j_1_2_2, (by decide +kernel), cS_2_2, rfl⟩
theorem wJ_2_2_2 : OKJ 2 2 2 := ⟨[], sS_2_2, j_2_2_2, (by decide +kernel), cS_2_2, rfl⟩
theorem wJ_3_2_2 : OKJ 3 2 2 := ⟨[], sS_2_2, j_3_2_2, (by decide +kernel), cS_2_2, rfl⟩
theorem wJ_4_2_2 : OKJ 4 2 2 := ⟨[((169869312, [1]), (0, [])), ((175112192, [1]), (1, []))], sS_2_2, j_4_2_2, (by decide +kernel), cS_2_2, rfl⟩
theorem wJ_5_2_2 : OKJ 5 2 2 := ⟨[], sS_2_2, j_5_2_2, (by decide +kernel), cS_2_2, rfl⟩
theorem w5_2_2 : OK5 2 2 := ⟨[((169869312, [1]), (0, [])), ((175112192, [1]), (1, [])), ((190840832, [1]), (1, []))], sA_2_2, sB_2_2, a_2_2, (by decide +kernel), cA_2_2.1, cA_2_2.2, rfl, rfl⟩
theorem w7_2_2 : OK7 2 2 := ⟨[], tA_2_2, tB_2_2, s_2_2, (by decide +kernel), dA_2_2.1, dA_2_2.2, rfl, rfl⟩
theorem wJ_0_2_3 : OKJ 0 2 3 := ⟨[], sS_2_3, j_0_2_3, (by decide +kernel), cS_2_3, rfl⟩
theorem wJ_1_2_3 : OKJ 1 2 3 := ⟨[], sS_2_3, j_1_2_3, (by decide +kernel), cS_2_3, rfl⟩
theorem wJ_2_2_3 : OKJ 2 2 3 := ⟨[], sS_2_3, j_2_2_3, (by decide +kernel), cS_2_3, rfl⟩
theorem wJ_3_2_3 : OKJ 3 2 3 := ⟨[], sS_2_3, j_3_2_3, (by decide +kernel), cS_2_3, rfl⟩
theorem wJ_4_2_3 : OKJ 4 2 3 := ⟨[((169869312, [1]), (0, [])), ((175112192, [1]), (0, [])), ((181403648, [1]), (0, [])), ((184549376, [1]), (0, []))], sS_2_3, j_4_2_3, (by decide +kernel), cS_2_3, rfl⟩
theorem wJ_5_2_3 : OKJ 5 2 3 := ⟨[], sS_2_3, j_5_2_3, (by decide +kernel), cS_2_3, rfl⟩
theorem w5_2_3 : OK5 2 3 := ⟨[((169869312, [1]), (0, [])), ((175112192, [1]), (0, [])), ((181403648, [1]), (0, [])), ((184549376, [1]), (0, [])), ((190840832, [1]), (0, []))], sA_2_3, sB_2_3, a_2_3, (by decide +kernel), cA_2_3.1, cA_2_3.2, rfl, rfl⟩
theorem w7_2_3 : OK7 2 3 := ⟨[], tA_2_3, tB_2_3, s_2_3, (by decide +kernel), dA_2_3.1, dA_2_3.2, rfl, rfl⟩
theorem wJ_0_2_4 : OKJ 0 2 4 := ⟨[], sS_2_0, j_0_2_0, (by decide +kernel), cS_2_0, rfl⟩
theorem wJ_1_2_4 : OKJ 1 2 4 := ⟨[], sS_2_0, j_1_2_0, (by decide +kernel), cS_2_0, rfl⟩
theorem wJ_2_2_4 : OKJ 2 2 4 := ⟨[], sS_2_0, j_2_2_0, (by decide +kernel), cS_2_0, rfl⟩
theorem wJ_3_2_4 : OKJ 3 2 4 := ⟨[], sS_2_0, j_3_2_0, (by decide +kernel), cS_2_0, rfl⟩
theorem wJ_4_2_4 : OKJ 4 2 4 := ⟨[((169869312, [1]), (0, [])), ((175112192, [1]), (1, []))], sS_2_0, j_4_2_0, (by decide +kernel), cS_2_0, rfl⟩
theorem wJ_5_2_4 : OKJ 5 2 4 := ⟨[], sS_2_0, j_5_2_0, (by decide +kernel), cS_2_0, rfl⟩
theorem w5_2_4 : OK5 2 4 := ⟨[((169869312, [1]), (0, [])), ((175112192, [1]), (1, [])), ((190840832, [1]), (1, []))], sA_2_0, sB_2_0, a_2_0, (by decide +kernel), cA_2_0.1, cA_2_0.2, rfl, rfl⟩
theorem w7_2_4 : OK7 2 4 := ⟨[], tA_2_0, tB_2_0, s_2_0, (by decide +kernel), dA_2_0.1, dA_2_0.2, rfl, rfl⟩
theorem wJ_0_2_5 : OKJ 0 2 5 := ⟨[], sS_2_1, j_0_2_1, (by decide +kernel), cS_2_1, rfl⟩
theorem wJ_1_2_5 : OKJ 1 2 5 := ⟨[], sS_2_1, j_1_2_1, (by decide +kernel), cS_2_1, rfl⟩
theorem wJ_2_2_5 : OKJ 2 2 5 := ⟨[], sS_2_1, j_2_2_1, (by decide +kernel), cS_2_1, rfl⟩
theorem wJ_3_2_5 : OKJ 3 2 5 := ⟨[], sS_2_1, j_3_2_1, (by decide +kernel), cS_2_1, rfl⟩
theorem wJ_4_2_5 : OKJ 4 2 5 := ⟨[((169869312, [1]), (0, [])), ((175112192, [1]), (0, [])), ((181403648, [1]), (0, [])), ((184549376, [1]), (0, []))], sS_2_1, j_4_2_1, (by decide +kernel), cS_2_1, rfl⟩
theorem wJ_5_2_5 : OKJ 5 2 5 := ⟨[], sS_2_1, j_5_2_1, (by decide +kernel), cS_2_1, rfl⟩
theorem w5_2_5 : OK5 2 5 := ⟨[((169869312, [1]), (0, [])), ((175112192, [1]), (0, [])), ((181403648, [1]), (0, [])), ((184549376, [1]), (0, [])), ((190840832, [1]), (0, []))], sA_2_1, sB_2_1, a_2_1, (by decide +kernel), cA_2_1.1, cA_2_1.2, rfl, rfl⟩
theorem w7_2_5 : OK7 2 5 := ⟨[], tA_2_1, tB_2_1, s_2_1, (by decide +kernel), dA_2_1.1, dA_2_1.2, rfl, rfl⟩
theorem wJ_0_2_6 : OKJ 0 2 6 := ⟨[], sS_2_2, j_0_2_2, (by decide +kernel), cS_2_2, rfl⟩
theorem wJ_1_2_6 : OKJ 1 2 6 := ⟨[], sS_2_2, j_1_2_2, (by decide +kernel), cS_2_2, rfl⟩
theorem wJ_2_2_6 : OKJ 2 2 6 := ⟨[], sS_2_2, j_2_2_2, (by decide +kernel), cS_2_2, rfl⟩
theorem wJ_3_2_6 : OKJ 3 2 6 := ⟨[], sS_2_2, j_3_2_2, (by decide +kernel), cS_2_2, rfl⟩
theorem wJ_4_2_6 : OKJ 4 2 6 := ⟨[((169869312, [1]), (0, [])), ((175112192, [1]), (1, []))], sS_2_2, j_4_2_2, (by decide +kernel), cS_2_2, rfl⟩
theorem wJ_5_2_6 : OKJ 5 2 6 := ⟨[], sS_2_2, j_5_2_2, (by decide +kernel), cS_2_2, rfl⟩
theorem w5_2_6 : OK5 2 6 := ⟨[((169869312, [1]), (0, [])), ((175112192, [1]), (1, [])), ((190840832, [1]), (1, []))], sA_2_2, sB_2_2, a_2_2, (by decide +kernel), cA_2_2.1, cA_2_2.2, rfl, rfl⟩
theorem w7_2_6 : OK7 2 6 := ⟨[], tA_2_2, tB_2_2, s_2_2, (by decide +kernel), dA_2_2.1, dA_2_2.2, rfl, rfl⟩
theorem wJ_0_2_7 : OKJ 0 2 7 := ⟨[], sS_2_3, j_0_2_3, (by decide +kernel), cS_2_3, rfl⟩
theorem wJ_1_2_7 : OKJ 1 2 7 := ⟨[], sS_2_3, j_1_2_3, (by decide +kernel), cS_2_3, rfl⟩
theorem wJ_2_2_7 : OKJ 2 2 7 := ⟨[], sS_2_3, j_2_2_3, (by decide +kernel), cS_2_3, rfl⟩
theorem wJ_3_2_7 : OKJ 3 2 7 := ⟨[], sS_2_3, j_3_2_3, (by decide +kernel), cS_2_3, rfl⟩
theorem wJ_4_2_7 : OKJ 4 2 7 := ⟨[((169869312, [1]), (0, [])), ((175112192, [1]), (0, [])), ((181403648, [1]), (0, [])), ((184549376, [1]), (0, []))], sS_2_3, j_4_2_3, (by decide +kernel), cS_2_3, rfl⟩
theorem wJ_5_2_7 : OKJ 5 2 7 := ⟨[], sS_2_3, j_5_2_3, (by decide +kernel), cS_2_3, rfl⟩
theorem w5_2_7 : OK5 2 7 := ⟨[((169869312, [1]), (0, [])), ((175112192, [1]), (0, [])), ((181403648, [1]), (0, [])), ((184549376, [1]), (0, [])), ((190840832, [1]), (0, []))], sA_2_3, sB_2_3, a_2_3, (by decide +kernel), cA_2_3.1, cA_2_3.2, rfl, rfl⟩
theorem w7_2_7 : OK7 2 7 := ⟨[], tA_2_3, tB_2_3, s_2_3, (by decide +kernel), dA_2_3.1, dA_2_3.2, rfl, rfl⟩
theorem wJ_0_2_8 : OKJ 0 2 8 := ⟨[], sS_2_0, j_0_2_0, (by decide +kernel), cS_2_0, rfl⟩
theorem wJ_1_2_8 : OKJ 1 2 8 := ⟨[], sS_2_0, j_1_2_0, (by decide +kernel), cS_2_0, rfl⟩
theorem wJ_2_2_8 : OKJ 2 2 8 := ⟨[], sS_2_0, j_2_2_0, (by decide +kernel), cS_2_0, rfl⟩
theorem wJ_3_2_8 : OKJ 3 2 8 := ⟨[], sS_2_0, j_3_2_0, (by decide +kernel), cS_2_0, rfl⟩
theorem wJ_4_2_8 : OKJ 4 2 8 := ⟨[((169869312, [1]), (0, [])), ((175112192, [1]), (1, []))], sS_2_0, j_4_2_0, (by decide +kernel), cS_2_0, rfl⟩
theorem wJ_5_2_8 : OKJ 5 2 8 := ⟨[], sS_2_0, j_5_2_0, (by decide +kernel), cS_2_0, rfl⟩
theorem w5_2_8 : OK5 2 8 := ⟨[((169869312, [1]), (0, [])), ((175112192, [1]), (1, [])), ((190840832, [1]), (1, []))], sA_2_0, sB_2_0, a_2_0, (by decide +kernel), cA_2_0.1, cA_2_0.2, rfl, rfl⟩
theorem w7_2_8 : OK7 2 8 := ⟨[], tA_2_0, tB_2_0, s_2_0, (by decide +kernel), dA_2_0.1, dA_2_0.2, rfl, rfl⟩
theorem wJ_0_2_9 : OKJ 0 2 9 := ⟨[], sS_2_1, j_0_2_1, (by decide +kernel), cS_2_1, rfl⟩
theorem wJ_1_2_9 : OKJ 1 2 9 := ⟨[], sS_2_1, j_1_2_1, (by decide +kernel), cS_2_1, rfl⟩
theorem wJ_2_2_9 : OKJ 2 2 9 := ⟨[], sS_2_1, j_2_2_1, (by decide +kernel), cS_2_1, rfl⟩
theorem wJ_3_2_9 : OKJ 3 2 9 := ⟨[], sS_2_1, j_3_2_1, (by decide +kernel), cS_2_1, rfl⟩
theorem wJ_4_2_9 : OKJ 4 2 9 := ⟨[((169869312, [1]), (0, [])), ((175112192, [1]), (0, [])), ((181403648, [1]), (0, [])), ((184549376, [1]), (0, []))], sS_2_1, j_4_2_1, (by decide +kernel), cS_2_1, rfl⟩
theorem wJ_5_2_9 : OKJ 5 2 9 := ⟨[], sS_2_1, j_5_2_1, (by decide +kernel), cS_2_1, rfl⟩
theorem w5_2_9 : OK5 2 9 := ⟨[((169869312, [1]), (0, [])), ((175112192, [1]), (0, [])), ((181403648, [1]), (0, [])), ((184549376, [1]), (0, [])), ((190840832, [1]), (0, []))], sA_2_1, sB_2_1, a_2_1, (by decide +kernel), cA_2_1.1, cA_2_1.2, rfl, rfl⟩
theorem w7_2_9 : OK7 2 9 := ⟨[], tA_2_1, tB_2_1, s_2_1, (by decide +kernel), dA_2_1.1, dA_2_1.2, rfl, rfl⟩
theorem wJ_0_2_10 : OKJ 0 2 10 := ⟨[], sS_2_2, j_0_2_2, (by decide +kernel), cS_2_2, rfl⟩
theorem wJ_1_2_10 : OKJ 1 2 10 := ⟨[], sS_2_2, j_1_2_2, (by decide +kernel), cS_2_2, rfl⟩
theorem wJ_2_2_10 : OKJ 2 2 10 := ⟨[], sS_2_2, j_2_2_2, (by decide +kernel), cS_2_2, rfl⟩
theorem wJ_3_2_10 : OKJ 3 2 10 := ⟨[], sS_2_2, j_3_2_2, (by decide +kernel), cS_2_2, rfl⟩
theorem wJ_4_2_10 : OKJ 4 2 10 := ⟨[((169869312, [1]), (0, [])), ((175112192, [1]), (1, []))], sS_2_2, j_4_2_2, (by decide +kernel), cS_2_2, rfl⟩
theorem wJ_5_2_10 : OKJ 5 2 10 := ⟨[], sS_2_2, j_5_2_2, (by decide +kernel), cS_2_2, rfl⟩
theorem w5_2_10 : OK5 2 10 := ⟨[((169869312, [1]), (0, [])), ((175112192, [1]), (1, [])), ((190840832, [1]), (1, []))], sA_2_2, sB_2_2, a_2_2, (by decide +kernel), cA_2_2.1, cA_2_2.2, rfl, rfl⟩
theorem w7_2_10 : OK7 2 10 := ⟨[], tA_2_2, tB_2_2, s_2_2, (by decide +kernel), dA_2_2.1, dA_2_2.2, rfl, rfl⟩
theorem wJ_0_2_11 : OKJ 0 2 11 := ⟨[], sS_2_3, j_0_2_3, (by decide +kernel), cS_2_3, rfl⟩
theorem wJ_1_2_11 : OKJ 1 2 11 := ⟨[], sS_2_3, j_1_2_3, (by decide +kernel), cS_2_3, rfl⟩
theorem wJ_2_2_11 : OKJ 2 2 11 := ⟨[], sS_2_3, j_2_2_3, (by decide +kernel), cS_2_3, rfl⟩
theorem wJ_3_2_11 : OKJ 3 2 11 := ⟨[], sS_2_3, j_3_2_3, (by decide +kernel), cS_2_3, rfl⟩
theorem wJ_4_2_11 : OKJ 4 2 11 := ⟨[((169869312, [1]), (0, [])), ((175112192, [1]), (0, [])), ((181403648, [1]), (0, [])), ((184549376, [1]), (0, []))], sS_2_3, j_4_2_3, (by decide +kernel), cS_2_3, rfl⟩
theorem wJ_5_2_11 : OKJ 5 2 11 := ⟨[], sS_2_3, j_5_2_3, (by decide +kernel), cS_2_3, rfl⟩
theorem w5_2_11 : OK5 2 11 := ⟨[((169869312, [1]), (0, [])), ((175112192, [1]), (0, [])), ((181403648, [1]), (0, [])), ((184549376, [1]), (0, [])), ((190840832, [1]), (0, []))], sA_2_3, sB_2_3, a_2_3, (by decide +kernel), cA_2_3.1, cA_2_3.2, rfl, rfl⟩
theorem w7_2_11 : OK7 2 11 := ⟨[], tA_2_3, tB_2_3, s_2_3, (by decide +kernel), dA_2_3.1, dA_2_3.2, rfl, rfl⟩
theorem wJ_0_2_12 : OKJ 0 2 12 := ⟨[], sS_2_0, j_0_2_0, (by decide +kernel), cS_2_0, rfl⟩
theorem wJ_1_2_12 : OKJ 1 2 12 := ⟨[], sS_2_0, j_1_2_0, (by decide +kernel), cS_2_0, rfl⟩
theorem wJ_2_2_12 : OKJ 2 2 12 := ⟨[], sS_2_0, j_2_2_0, (by decide +kernel), cS_2_0, rfl⟩
theorem wJ_3_2_12 : OKJ 3 2 12 := ⟨[], sS_2_0, j_3_2_0, (by decide +kernel), cS_2_0, rfl⟩
theorem wJ_4_2_12 : OKJ 4 2 12 := ⟨[((169869312, [1]), (0, [])), ((175112192, [1]), (1, []))], sS_2_0, j_4_2_0, (by decide +kernel), cS_2_0, rfl⟩
theorem wJ_5_2_12 : OKJ 5 2 12 := ⟨[], sS_2_0, j_5_2_0, (by decide +kernel), cS_2_0, rfl⟩
theorem w5_2_12 : OK5 2 12 := ⟨[((169869312, [1]), (0, [])), ((175112192, [1]), (1, [])), ((190840832, [1]), (1, []))], sA_2_0, sB_2_0, a_2_0, (by decide +kernel), cA_2_0.1, cA_2_0.2, rfl, rfl⟩
theorem w7_2_12 : OK7 2 12 := ⟨[], tA_2_0, tB_2_0, s_2_0, (by decide +kernel), dA_2_0.1, dA_2_0.2, rfl, rfl⟩
theorem wJ_0_2_13 : OKJ 0 2 13 := ⟨[], sS_2_1, j_0_2_1, (by decide +kernel), cS_2_1, rfl⟩
theorem wJ_1_2_13 : OKJ 1 2 13 := ⟨[], sS_2_1, j_1_2_1, (by decide +kernel), cS_2_1, rfl⟩
theorem wJ_2_2_13 : OKJ 2 2 13 := ⟨[], sS_2_1, j_2_2_1, (by decide +kernel), cS_2_1, rfl⟩
theorem wJ_3_2_13 : OKJ 3 2 13 := ⟨[], sS_2_1, j_3_2_1, (by decide +kernel), cS_2_1, rfl⟩
theorem wJ_4_2_13 : OKJ 4 2 13 := ⟨[((169869312, [1]), (0, [])), ((175112192, [1]), (0, [])), ((181403648, [1]), (0, [])), ((184549376, [1]), (0, []))], sS_2_1, j_4_2_1, (by decide +kernel), cS_2_1, rfl⟩
theorem wJ_5_2_13 : OKJ 5 2 13 := ⟨[], sS_2_1, j_5_2_1, (by decide +kernel), cS_2_1, rfl⟩
theorem w5_2_13 : OK5 2 13 := ⟨[((169869312, [1]), (0, [])), ((175112192, [1]), (0, [])), ((181403648, [1]), (0, [])), ((184549376, [1]), (0, [])), ((190840832, [1]), (0, []))], sA_2_1, sB_2_1, a_2_1, (by decide +kernel), cA_2_1.1, cA_2_1.2, rfl, rfl⟩
theorem w7_2_13 : OK7 2 13 := ⟨[], tA_2_1, tB_2_1, s_2_1, (by decide +kernel), dA_2_1.1, dA_2_1.2, rfl, rfl⟩
theorem wJ_0_2_14 : OKJ 0 2 14 := ⟨[], sS_2_2, j_0_2_2, (by decide +kernel), cS_2_2, rfl⟩
theorem wJ_1_2_14 : OKJ 1 2 14 := ⟨[], sS_2_2, j_1_2_2, (by decide +kernel), cS_2_2, rfl⟩
theorem wJ_2_2_14 : OKJ 2 2 14 := ⟨[], sS_2_2, j_2_2_2, (by decide +kernel), cS_2_2, rfl⟩
theorem wJ_3_2_14 : OKJ 3 2 14 := ⟨[], sS_2_2, j_3_2_2, (by decide +kernel), cS_2_2, rfl⟩
theorem wJ_4_2_14 : OKJ 4 2 14 := ⟨[((169869312, [1]), (0, [])), ((175112192, [1]), (1, []))], sS_2_2, j_4_2_2, (by decide +kernel), cS_2_2, rfl⟩
theorem wJ_5_2_14 : OKJ 5 2 14 := ⟨[], sS_2_2, j_5_2_2, (by decide +kernel), cS_2_2, rfl⟩
theorem w5_2_14 : OK5 2 14 := ⟨[((169869312, [1]), (0, [])), ((175112192, [1]), (1, [])), ((190840832, [1]), (1, []))], sA_2_2, sB_2_2, a_2_2, (by decide +kernel), cA_2_2.1, cA_2_2.2, rfl, rfl⟩
theorem w7_2_14 : OK7 2 14 := ⟨[], tA_2_2, tB_2_2, s_2_2, (by decide +kernel), dA_2_2.1, dA_2_2.2, rfl, rfl⟩
theorem wJ_0_2_15 : OKJ 0 2 15 := ⟨[], sS_2_3, j_0_2_3, (by decide +kernel), cS_2_3, rfl⟩
theorem wJ_1_2_15 : OKJ 1 2 15 := ⟨[], sS_2_3, j_1_2_3, (by decide +kernel), cS_2_3, rfl⟩
theorem wJ_2_2_15 : OKJ 2 2 15 := ⟨[], sS_2_3, j_2_2_3, (by decide +kernel), cS_2_3, rfl⟩
theorem wJ_3_2_15 : OKJ 3 2 15 := ⟨[], sS_2_3, j_3_2_3, (by decide +kernel), cS_2_3, rfl⟩
theorem wJ_4_2_15 : OKJ 4 2 15 := ⟨[((169869312, [1]), (0, [])), ((175112192, [1]), (0, [])), ((181403648, [1]), (0, [])), ((184549376, [1]), (0, []))], sS_2_3, j_4_2_3, (by decide +kernel), cS_2_3, rfl⟩
theorem wJ_5_2_15 : OKJ 5 2 15 := ⟨[], sS_2_3, j_5_2_3, (by decide +kernel), cS_2_3, rfl⟩
theorem w5_2_15 : OK5 2 15 := ⟨[((169869312, [1]), (0, [])), ((175112192, [1]), (0, [])), ((181403648, [1]), (0, [])), ((184549376, [1]), (0, [])), ((190840832, [1]), (0, []))], sA_2_3, sB_2_3, a_2_3, (by decide +kernel), cA_2_3.1, cA_2_3.2, rfl, rfl⟩
theorem w7_2_15 : OK7 2 15 := ⟨[], tA_2_3, tB_2_3, s_2_3, (by decide +kernel), dA_2_3.1, dA_2_3.2, rfl, rfl⟩
theorem wJ_0_3_0 : OKJ 0 3 0 := ⟨[], sS_3_0, j_0_3_0, (by decide +kernel), cS_3_0, rfl⟩
theorem wJ_1_3_0 : OKJ 1 3 0 := ⟨[], sS_3_0, j_1_3_0, (by decide +kernel), cS_3_0, rfl⟩
theorem wJ_2_3_0 : OKJ 2 3 0 := ⟨[], sS_3_0, j_2_3_0, (by decide +kernel), cS_3_0, rfl⟩
theorem wJ_3_3_0 : OKJ 3 3 0 := ⟨[], sS_3_0, j_3_3_0, (by decide +kernel), cS_3_0, rfl⟩
theorem wJ_4_3_0 : OKJ 4 3 0 := ⟨[((169869312, [1]), (0, [])), ((175112192, [1]), (0, [])), ((181403648, [1]), (0, [])), ((184549376, [1]), (0, []))], sS_3_0, j_4_3_0, (by decide +kernel), cS_3_0, rfl⟩
theorem wJ_5_3_0 : OKJ 5 3 0 := ⟨[], sS_3_0, j_5_3_0, (by decide +kernel), cS_3_0, rfl⟩
theorem w5_3_0 : OK5 3 0 := ⟨[((169869312, [1]), (0, [])), ((175112192, [1]), (0, [])), ((181403648, [1]), (0, [])), ((184549376, [1]), (0, [])), ((190840832, [1]), (0, []))], sA_3_0, sB_3_0, a_3_0, (by decide +kernel), cA_3_0.1, cA_3_0.2, rfl, rfl⟩
theorem w7_3_0 : OK7 3 0 := ⟨[], tA_3_0, tB_3_0, s_3_0, (by decide +kernel), dA_3_0.1, dA_3_0.2, rfl, rfl⟩
theorem wJ_0_3_1 : OKJ 0 3 1 := ⟨[], sS_3_1, j_0_3_1, (by decide +kernel), cS_3_1, rfl⟩
theorem wJ_1_3_1 : OKJ 1 3 1 := ⟨[], sS_3_1, j_1_3_1, (by decide +kernel), cS_3_1, rfl⟩
theorem wJ_2_3_1 : OKJ 2 3 1 := ⟨[], sS_3_1, j_2_3_1, (by decide +kernel), cS_3_1, rfl⟩
theorem wJ_3_3_1 : OKJ 3 3 1 := ⟨[], sS_3_1, j_3_3_1, (by decide +kernel), cS_3_1, rfl⟩
theorem wJ_4_3_1 : OKJ 4 3 1 := ⟨[((169869312, [1]), (0, [])), ((175112192, [1]), (0, [])), ((181403648, [1]), (1, []))], sS_3_1, j_4_3_1, (by decide +kernel), cS_3_1, rfl⟩
theorem wJ_5_3_1 : OKJ 5 3 1 := ⟨[], sS_3_1, j_5_3_1, (by decide +kernel), cS_3_1, rfl⟩
theorem w5_3_1 : OK5 3 1 := ⟨[((169869312, [1]), (0, [])), ((175112192, [1]), (0, [])), ((181403648, [1]), (1, [])), ((190840832, [1]), (1, []))], sA_3_1, sB_3_1, a_3_1, (by decide +kernel), cA_3_1.1, cA_3_1.2, rfl, rfl⟩
theorem w7_3_1 : OK7 3 1 := ⟨[], tA_3_1, tB_3_1, s_3_1, (by decide +kernel), dA_3_1.1, dA_3_1.2, rfl, rfl⟩
theorem wJ_0_3_2 : OKJ 0 3 2 := ⟨[], sS_3_0, j_0_3_0, (by decide +kernel), cS_3_0, rfl⟩
theorem wJ_1_3_2 : OKJ 1 3 2 := ⟨[], sS_3_0, j_1_3_0, (by decide +kernel), cS_3_0, rfl⟩
theorem wJ_2_3_2 : OKJ 2 3 2 := ⟨[], sS_3_0, j_2_3_0, (by decide +kernel), cS_3_0, rfl⟩
theorem wJ_3_3_2 : OKJ 3 3 2 := ⟨[], sS_3_0, j_3_3_0, (by decide +kernel), cS_3_0, rfl⟩
theorem wJ_4_3_2 : OKJ 4 3 2 := ⟨[((169869312, [1]), (0, [])), ((175112192, [1]), (0, [])), ((181403648, [1]), (0, [])), ((184549376, [1]), (0, []))], sS_3_0, j_4_3_0, (by decide +kernel), cS_3_0, rfl⟩
theorem wJ_5_3_2 : OKJ 5 3 2 := ⟨[], sS_3_0, j_5_3_0, (by decide +kernel), cS_3_0, rfl⟩
theorem w5_3_2 : OK5 3 2 := ⟨[((169869312, [1]), (0, [])), ((175112192, [1]), (0, [])), ((181403648, [1]), (0, [])), ((184549376, [1]), (0, [])), ((190840832, [1]), (0, []))], sA_3_0, sB_3_0, a_3_0, (by decide +kernel), cA_3_0.1, cA_3_0.2, rfl, rfl⟩
theorem w7_3_2 : OK7 3 2 := ⟨[], tA_3_0, tB_3_0, s_3_0, (by decide +kernel), dA_3_0.1, dA_3_0.2, rfl, rfl⟩
theorem wJ_0_3_3 : OKJ 0 3 3 := ⟨[], sS_3_1, j_0_3_1, (by decide +kernel), cS_3_1, rfl⟩
theorem wJ_1_3_3 : OKJ 1 3 3 := ⟨[], sS_3_1, j_1_3_1, (by decide +kernel), cS_3_1, rfl⟩
theorem wJ_2_3_3 : OKJ 2 3 3 := ⟨[], sS_3_1, j_2_3_1, (by decide +kernel), cS_3_1, rfl⟩
theorem wJ_3_3_3 : OKJ 3 3 3 := ⟨[], sS_3_1, j_3_3_1, (by decide +kernel), cS_3_1, rfl⟩
theorem wJ_4_3_3 : OKJ 4 3 3 := ⟨[((169869312, [1]), (0, [])), ((175112192, [1]), (0, [])), ((181403648, [1]), (1, []))], sS_3_1, j_4_3_1, (by decide +kernel), cS_3_1, rfl⟩
theorem wJ_5_3_3 : OKJ 5 3 3 := ⟨[], sS_3_1, j_5_3_1, (by decide +kernel), cS_3_1, rfl⟩
theorem w5_3_3 : OK5 3 3 := ⟨[((169869312, [1]), (0, [])), ((175112192, [1]), (0, [])), ((181403648, [1]), (1, [])), ((190840832, [1]), (1, []))], sA_3_1, sB_3_1, a_3_1, (by decide +kernel), cA_3_1.1, cA_3_1.2, rfl, rfl⟩
theorem w7_3_3 : OK7 3 3 := ⟨[], tA_3_1, tB_3_1, s_3_1, (by decide +kernel), dA_3_1.1, dA_3_1.2, rfl, rfl⟩
theorem wJ_0_3_4 : OKJ 0 3 4 := ⟨[], sS_3_0, j_0_3_0, (by decide +kernel), cS_3_0, rfl⟩
theorem wJ_1_3_4 : OKJ 1 3 4 := ⟨[], sS_3_0, j_1_3_0, (by decide +kernel), cS_3_0, rfl⟩
theorem wJ_2_3_4 : OKJ 2 3 4 := ⟨[], sS_3_0, j_2_3_0, (by decide +kernel), cS_3_0, rfl⟩
theorem wJ_3_3_4 : OKJ 3 3 4 := ⟨[], sS_3_0, j_3_3_0, (by decide +kernel), cS_3_0, rfl⟩
theorem wJ_4_3_4 : OKJ 4 3 4 := ⟨[((169869312, [1]), (0, [])), ((175112192, [1]), (0, [])), ((181403648, [1]), (0, [])), ((184549376, [1]), (0, []))], sS_3_0, j_4_3_0, (by decide +kernel), cS_3_0, rfl⟩
theorem wJ_5_3_4 : OKJ 5 3 4 := ⟨[], sS_3_0, j_5_3_0, (by decide +kernel), cS_3_0, rfl⟩
theorem w5_3_4 : OK5 3 4 := ⟨[((169869312, [1]), (0, [])), ((175112192, [1]), (0, [])), ((181403648, [1]), (0, [])), ((184549376, [1]), (0, [])), ((190840832, [1]), (0, []))], sA_3_0, sB_3_0, a_3_0, (by decide +kernel), cA_3_0.1, cA_3_0.2, rfl, rfl⟩
theorem w7_3_4 : OK7 3 4 := ⟨[], tA_3_0, tB_3_0, s_3_0, (by decide +kernel), dA_3_0.1, dA_3_0.2, rfl, rfl⟩
theorem wJ_0_3_5 : OKJ 0 3 5 := ⟨[], sS_3_1, j_0_3_1, (by decide +kernel), cS_3_1, rfl⟩
theorem wJ_1_3_5 : OKJ 1 3 5 := ⟨[], sS_3_1, j_1_3_1, (by decide +kernel), cS_3_1, rfl⟩
theorem wJ_2_3_5 : OKJ 2 3 5 := ⟨[], sS_3_1, j_2_3_1, (by decide +kernel), cS_3_1, rfl⟩
theorem wJ_3_3_5 : OKJ 3 3 5 := ⟨[], sS_3_1, j_3_3_1, (by decide +kernel), cS_3_1, rfl⟩
theorem wJ_4_3_5 : OKJ 4 3 5 := ⟨[((169869312, [1]), (0, [])), ((175112192, [1]), (0, [])), ((181403648, [1]), (1, []))], sS_3_1, j_4_3_1, (by decide +kernel), cS_3_1, rfl⟩
theorem wJ_5_3_5 : OKJ 5 3 5 := ⟨[], sS_3_1, j_5_3_1, (by decide +kernel), cS_3_1, rfl⟩
theorem w5_3_5 : OK5 3 5 := ⟨[((169869312, [1]), (0, [])), ((175112192, [1]), (0, [])), ((181403648, [1]), (1, [])), ((190840832, [1]), (1, []))], sA_3_1, sB_3_1, a_3_1, (by decide +kernel), cA_3_1.1, cA_3_1.2, rfl, rfl⟩
theorem w7_3_5 : OK7 3 5 := ⟨[], tA_3_1, tB_3_1, s_3_1, (by decide +kernel), dA_3_1.1, dA_3_1.2, rfl, rfl⟩
theorem wJ_0_3_6 : OKJ 0 3 6 := ⟨[], sS_3_0, j_0_3_0, (by decide +kernel), cS_3_0, rfl⟩
theorem wJ_1_3_6 : OKJ 1 3 6 := ⟨[], sS_3_0, j_1_3_0, (by decide +kernel), cS_3_0, rfl⟩
theorem wJ_2_3_6 : OKJ 2 3 6 := ⟨[], sS_3_0, j_2_3_0, (by decide +kernel), cS_3_0, rfl⟩
theorem wJ_3_3_6 : OKJ 3 3 6 := ⟨[], sS_3_0, j_3_3_0, (by decide +kernel), cS_3_0, rfl⟩
theorem wJ_4_3_6 : OKJ 4 3 6 := ⟨[((169869312, [1]), (0, [])), ((175112192, [1]), (0, [])), ((181403648, [1]), (0, [])), ((184549376, [1]), (0, []))], sS_3_0, j_4_3_0, (by decide +kernel), cS_3_0, rfl⟩
theorem wJ_5_3_6 : OKJ 5 3 6 := ⟨[], sS_3_0, j_5_3_0, (by decide +kernel), cS_3_0, rfl⟩
theorem w5_3_6 : OK5 3 6 := ⟨[((169869312, [1]), (0, [])), ((175112192, [1]), (0, [])), ((181403648, [1]), (0, [])), ((184549376, [1]), (0, [])), ((190840832, [1]), (0, []))], sA_3_0, sB_3_0, a_3_0, (by decide +kernel), cA_3_0.1, cA_3_0.2, rfl, rfl⟩
theorem w7_3_6 : OK7 3 6 := ⟨[], tA_3_0, tB_3_0, s_3_0, (by decide +kernel), dA_3_0.1, dA_3_0.2, rfl, rfl⟩
theorem wJ_0_3_7 : OKJ 0 3 7 := ⟨[], sS_3_1, j_0_3_1, (by decide +kernel), cS_3_1, rfl⟩
theorem wJ_1_3_7 : OKJ 1 3 7 := ⟨[], sS_3_1, j_1_3_1, (by decide +kernel), cS_3_1, rfl⟩
theorem wJ_2_3_7 : OKJ 2 3 7 := ⟨[], sS_3_1, j_2_3_1, (by decide +kernel), cS_3_1, rfl⟩
theorem wJ_3_3_7 : OKJ 3 3 7 := ⟨[], sS_3_1, j_3_3_1, (by decide +kernel), cS_3_1, rfl⟩
theorem wJ_4_3_7 : OKJ 4 3 7 := ⟨[((169869312, [1]), (0, [])), ((175112192, [1]), (0, [])), ((181403648, [1]), (1, []))], sS_3_1, j_4_3_1, (by decide +kernel), cS_3_1, rfl⟩
theorem wJ_5_3_7 : OKJ 5 3 7 := ⟨[], sS_3_1, j_5_3_1, (by decide +kernel), cS_3_1, rfl⟩
theorem w5_3_7 : OK5 3 7 := ⟨[((169869312, [1]), (0, [])), ((175112192, [1]), (0, [])), ((181403648, [1]), (1, [])), ((190840832, [1]), (1, []))], sA_3_1, sB_3_1, a_3_1, (by decide +kernel), cA_3_1.1, cA_3_1.2, rfl, rfl⟩
theorem w7_3_7 : OK7 3 7 := ⟨[], tA_3_1, tB_3_1, s_3_1, (by decide +kernel), dA_3_1.1, dA_3_1.2, rfl, rfl⟩
theorem wJ_0_3_8 : OKJ 0 3 8 := ⟨[], sS_3_0, j_0_3_0, (by decide +kernel), cS_3_0, rfl⟩
theorem wJ_1_3_8 : OKJ 1 3 8 := ⟨[], sS_3_0, j_1_3_0, (by decide +kernel), cS_3_0, rfl⟩
theorem wJ_2_3_8 : OKJ 2 3 8 := ⟨[], sS_3_0, j_2_3_0, (by decide +kernel), cS_3_0, rfl⟩
theorem wJ_3_3_8 : OKJ 3 3 8 := ⟨[], sS_3_0, j_3_3_0, (by decide +kernel), cS_3_0, rfl⟩
theorem wJ_4_3_8 : OKJ 4 3 8 := ⟨[((169869312, [1]), (0, [])), ((175112192, [1]), (0, [])), ((181403648, [1]), (0, [])), ((184549376, [1]), (0, []))], sS_3_0, j_4_3_0, (by decide +kernel), cS_3_0, rfl⟩
theorem wJ_5_3_8 : OKJ 5 3 8 := ⟨[], sS_3_0, j_5_3_0, (by decide +kernel), cS_3_0, rfl⟩
theorem w5_3_8 : OK5 3 8 := ⟨[((169869312, [1]), (0, [])), ((175112192, [1]), (0, [])), ((181403648, [1]), (0, [])), ((184549376, [1]), (0, [])), ((190840832, [1]), (0, []))], sA_3_0, sB_3_0, a_3_0, (by decide +kernel), cA_3_0.1, cA_3_0.2, rfl, rfl⟩
theorem w7_3_8 : OK7 3 8 := ⟨[], tA_3_0, tB_3_0, s_3_0, (by decide +kernel), dA_3_0.1, dA_3_0.2, rfl, rfl⟩
theorem wJ_0_3_9 : OKJ 0 3 9 := ⟨[], sS_3_1, j_0_3_1, (by decide +kernel), cS_3_1, rfl⟩
theorem wJ_1_3_9 : OKJ 1 3 9 := ⟨[], sS_3_1, j_1_3_1, (by decide +kernel), cS_3_1, rfl⟩
theorem wJ_2_3_9 : OKJ 2 3 9 := ⟨[], sS_3_1, j_2_3_1, (by decide +kernel), cS_3_1, rfl⟩
theorem wJ_3_3_9 : OKJ 3 3 9 := ⟨[], sS_3_1, j_3_3_1, (by decide +kernel), cS_3_1, rfl⟩
theorem wJ_4_3_9 : OKJ 4 3 9 := ⟨[((169869312, [1]), (0, [])), ((175112192, [1]), (0, [])), ((181403648, [1]), (1, []))], sS_3_1, j_4_3_1, (by decide +kernel), cS_3_1, rfl⟩
theorem wJ_5_3_9 : OKJ 5 3 9 := ⟨[], sS_3_1, j_5_3_1, (by decide +kernel), cS_3_1, rfl⟩
theorem w5_3_9 : OK5 3 9 := ⟨[((169869312, [1]), (0, [])), ((175112192, [1]), (0, [])), ((181403648, [1]), (1, [])), ((190840832, [1]), (1, []))], sA_3_1, sB_3_1, a_3_1, (by decide +kernel), cA_3_1.1, cA_3_1.2, rfl, rfl⟩
theorem w7_3_9 : OK7 3 9 := ⟨[], tA_3_1, tB_3_1, s_3_1, (by decide +kernel), dA_3_1.1, dA_3_1.2, rfl, rfl⟩
theorem wJ_0_3_10 : OKJ 0 3 10 := ⟨[], sS_3_0, j_0_3_0, (by decide +kernel), cS_3_0, rfl⟩
theorem wJ_1_3_10 : OKJ 1 3 10 := ⟨[], sS_3_0, j_1_3_0, (by decide +kernel), cS_3_0, rfl⟩
theorem wJ_2_3_10 : OKJ 2 3 10 := ⟨[], sS_3_0, j_2_3_0, (by decide +kernel), cS_3_0, rfl⟩
theorem wJ_3_3_10 : OKJ 3 3 10 := ⟨[], sS_3_0, j_3_3_0, (by decide +kernel), cS_3_0, rfl⟩
theorem wJ_4_3_10 : OKJ 4 3 10 := ⟨[((169869312, [1]), (0, [])), ((175112192, [1]), (0, [])), ((181403648, [1]), (0, [])), ((184549376, [1]), (0, []))], sS_3_0, j_4_3_0, (by decide +kernel), cS_3_0, rfl⟩
theorem wJ_5_3_10 : OKJ 5 3 10 := ⟨[], sS_3_0, j_5_3_0, (by decide +kernel), cS_3_0, rfl⟩
theorem w5_3_10 : OK5 3 10 := ⟨[((169869312, [1]), (0, [])), ((175112192, [1]), (0, [])), ((181403648, [1]), (0, [])), ((184549376, [1]), (0, [])), ((190840832, [1]), (0, []))], sA_3_0, sB_3_0, a_3_0, (by decide +kernel), cA_3_0.1, cA_3_0.2, rfl, rfl⟩
theorem w7_3_10 : OK7 3 10 := ⟨[], tA_3_0, tB_3_0, s_3_0, (by decide +kernel), dA_3_0.1, dA_3_0.2, rfl, rfl⟩
theorem wJ_0_3_11 : OKJ 0 3 11 := ⟨[], sS_3_1, j_0_3_1, (by decide +kernel), cS_3_1, rfl⟩
theorem wJ_1_3_11 : OKJ 1 3 11 := ⟨[], sS_3_1, j_1_3_1, (by decide +kernel), cS_3_1, rfl⟩
theorem wJ_2_3_11 : OKJ 2 3 11 := ⟨[], sS_3_1, j_2_3_1, (by decide +kernel), cS_3_1, rfl⟩
theorem wJ_3_3_11 : OKJ 3 3 11 := ⟨[], sS_3_1, j_3_3_1, (by decide +kernel), cS_3_1, rfl⟩
theorem wJ_4_3_11 : OKJ 4 3 11 := ⟨[((169869312, [1]), (0, [])), ((175112192, [1]), (0, [])), ((181403648, [1]), (1, []))], sS_3_1, j_4_3_1, (by decide +kernel), cS_3_1, rfl⟩
theorem wJ_5_3_11 : OKJ 5 3 11 := ⟨[], sS_3_1, j_5_3_1, (by decide +kernel), cS_3_1, rfl⟩
theorem w5_3_11 : OK5 3 11 := ⟨[((169869312, [1]), (0, [])), ((175112192, [1]), (0, [])), ((181403648, [1]), (1, [])), ((190840832, [1]), (1, []))], sA_3_1, sB_3_1, a_3_1, (by decide +kernel), cA_3_1.1, cA_3_1.2, rfl, rfl⟩
theorem w7_3_11 : OK7 3 11 := ⟨[], tA_3_1, tB_3_1, s_3_1, (by decide +kernel), dA_3_1.1, dA_3_1.2, rfl, rfl⟩
theorem wJ_0_3_12 : OKJ 0 3 12 := ⟨[], sS_3_0, j_0_3_0, (by decide +kernel), cS_3_0, rfl⟩
theorem wJ_1_3_12 : OKJ 1 3 12 := ⟨[], sS_3_0, j_1_3_0, (by decide +kernel), cS_3_0, rfl⟩
theorem wJ_2_3_12 : OKJ 2 3 12 := ⟨[], sS_3_0, j_2_3_0, (by decide +kernel), cS_3_0, rfl⟩
theorem wJ_3_3_12 : OKJ 3 3 12 := ⟨[], sS_3_0, j_3_3_0, (by decide +kernel), cS_3_0, rfl⟩
theorem wJ_4_3_12 : OKJ 4 3 12 := ⟨[((169869312, [1]), (0, [])), ((175112192, [1]), (0, [])), ((181403648, [1]), (0, [])), ((184549376, [1]), (0, []))], sS_3_0, j_4_3_0, (by decide +kernel), cS_3_0, rfl⟩
theorem wJ_5_3_12 : OKJ 5 3 12 := ⟨[], sS_3_0, j_5_3_0, (by decide +kernel), cS_3_0, rfl⟩
theorem w5_3_12 : OK5 3 12 := ⟨[((169869312, [1]), (0, [])), ((175112192, [1]), (0, [])), ((181403648, [1]), (0, [])), ((184549376, [1]), (0, [])), ((190840832, [1]), (0, []))], sA_3_0, sB_3_0, a_3_0, (by decide +kernel), cA_3_0.1, cA_3_0.2, rfl, rfl⟩
theorem w7_3_12 : OK7 3 12 := ⟨[], tA_3_0, tB_3_0, s_3_0, (by decide +kernel), dA_3_0.1, dA_3_0.2, rfl, rfl⟩
theorem wJ_0_3_13 : OKJ 0 3 13 := ⟨[], sS_3_1, j_0_3_1, (by decide +kernel), cS_3_1, rfl⟩
theorem wJ_1_3_13 : OKJ 1 3 13 := ⟨[], sS_3_1, j_1_3_1, (by decide +kernel), cS_3_1, rfl⟩
theorem wJ_2_3_13 : OKJ 2 3 13 := ⟨[], sS_3_1, j_2_3_1, (by decide +kernel), cS_3_1, rfl⟩
theorem wJ_3_3_13 : OKJ 3 3 13 := ⟨[], sS_3_1, j_3_3_1, (by decide +kernel), cS_3_1, rfl⟩
theorem wJ_4_3_13 : OKJ 4 3 13 := ⟨[((169869312, [1]), (0, [])), ((175112192, [1]), (0, [])), ((181403648, [1]), (1, []))], sS_3_1, j_4_3_1, (by decide +kernel), cS_3_1, rfl⟩
theorem wJ_5_3_13 : OKJ 5 3 13 := ⟨[], sS_3_1, j_5_3_1, (by decide +kernel), cS_3_1, rfl⟩
theorem w5_3_13 : OK5 3 13 := ⟨[((169869312, [1]), (0, [])), ((175112192, [1]), (0, [])), ((181403648, [1]), (1, [])), ((190840832, [1]), (1, []))], sA_3_1, sB_3_1, a_3_1, (by decide +kernel), cA_3_1.1, cA_3_1.2, rfl, rfl⟩
theorem w7_3_13 : OK7 3 13 := ⟨[], tA_3_1, tB_3_1, s_3_1, (by decide +kernel), dA_3_1.1, dA_3_1.2, rfl, rfl⟩
theorem wJ_0_3_14 : OKJ 0 3 14 := ⟨[], sS_3_0, j_0_3_0, (by decide +kernel), cS_3_0, rfl⟩
theorem wJ_1_3_14 : OKJ 1 3 14 := ⟨[], sS_3_0, j_1_3_0, (by decide +kernel), cS_3_0, rfl⟩
theorem wJ_2_3_14 : OKJ 2 3 14 := ⟨[], sS_3_0, j_2_3_0, (by decide +kernel), cS_3_0, rfl⟩
theorem wJ_3_3_14 : OKJ 3 3 14 := ⟨[], sS_3_0, j_3_3_0, (by decide +kernel), cS_3_0, rfl⟩
theorem wJ_4_3_14 : OKJ 4 3 14 := ⟨[((169869312, [1]), (0, [])), ((175112192, [1]), (0, [])), ((181403648, [1]), (0, [])), ((184549376, [1]), (0, []))], sS_3_0, j_4_3_0, (by decide +kernel), cS_3_0, rfl⟩
theorem wJ_5_3_14 : OKJ 5 3 14 := ⟨[], sS_3_0, j_5_3_0, (by decide +kernel), cS_3_0, rfl⟩
theorem w5_3_14 : OK5 3 14 := ⟨[((169869312, [1]), (0, [])), ((175112192, [1]), (0, [])), ((181403648, [1]), (0, [])), ((184549376, [1]), (0, [])), ((190840832, [1]), (0, []))], sA_3_0, sB_3_0, a_3_0, (by decide +kernel), cA_3_0.1, cA_3_0.2, rfl, rfl⟩
theorem w7_3_14 : OK7 3 14 := ⟨[], tA_3_0, tB_3_0, s_3_0, (by decide +kernel), dA_3_0.1, dA_3_0.2, rfl, rfl⟩
theorem wJ_0_3_15 : OKJ 0 3 15 := ⟨[], sS_3_1, j_0_3_1, (by decide +kernel), cS_3_1, rfl⟩
theorem wJ_1_3_15 : OKJ 1 3 15 := ⟨[], sS_3_1, j_1_3_1, (by decide +kernel), cS_3_1, rfl⟩
theorem wJ_2_3_15 : OKJ 2 3 15 := ⟨[], sS_3_1, j_2_3_1, (by decide +kernel), cS_3_1, rfl⟩
theorem wJ_3_3_15 : OKJ 3 3 15 := ⟨[], sS_3_1, j_3_3_1, (by decide +kernel), cS_3_1, rfl⟩
theorem wJ_4_3_15 : OKJ 4 3 15 := ⟨[((169869312, [1]), (0, [])), ((175112192, [1]), (0, [])), ((181403648, [1]), (1, []))], sS_3_1, j_4_3_1, (by decide +kernel), cS_3_1, rfl⟩
theorem wJ_5_3_15 : OKJ 5 3 15 := ⟨[], sS_3_1, j_5_3_1, (by decide +kernel), cS_3_1, rfl⟩
theorem w5_3_15 : OK5 3 15 := ⟨[((169869312, [1]), (0, [])), ((175112192, [1]), (0, [])), ((181403648, [1]), (1, [])), ((190840832, [1]), (1, []))], sA_3_1, sB_3_1, a_3_1, (by decide +kernel), cA_3_1.1, cA_3_1.2, rfl, rfl⟩
theorem w7_3_15 : OK7 3 15 := ⟨[], tA_3_1, tB_3_1, s_3_1, (by decide +kernel), dA_3_1.1, dA_3_1.2, rfl, rfl⟩
theorem wJ_0_4_0 : OKJ 0 4 0 := ⟨[], sS_4_0, j_0_4_0, (by decide +kernel), cS_4_0, rfl⟩
theorem wJ_1_4_0 : OKJ 1 4 0 := ⟨[], sS_4_0, j_1_4_0, (by decide +kernel), cS_4_0, rfl⟩
theorem wJ_2_4_0 : OKJ 2 4 0 := ⟨[], sS_4_0, j_2_4_0, (by decide +kernel), cS_4_0, rfl⟩
theorem wJ_3_4_0 : OKJ 3 4 0 := ⟨[((169869313, [1]), (1, [])), ((2333081601, [1]), (2, [1])), ((1258291200, [1]), (1, []))], sS_4_0, j_3_4_0, (by decide +kernel), cS_4_0, rfl⟩
theorem wJ_4_4_0 : OKJ 4 4 0 := ⟨[((169869312, [1]), (0, [])), ((175112192, [1]), (0, [])), ((181403648, [1]), (0, [])), ((169869313, [1]), (1, [])), ((2333081601, [1]), (2, [1])), ((1258291200, [1]), (1, [])), ((184549376, [1]), (1, []))], sS_4_0, j_4_4_0, (by decide +kernel), cS_4_0, rfl⟩
theorem wJ_5_4_0 : OKJ 5 4 0 := ⟨[((169869313, [1]), (1, [])), ((190840833, [1]), (1, [])), ((2345664513, [1]), (2, [1])), ((1270874112, [1]), (1, []))], sS_4_0, j_5_4_0, (by decide +kernel), cS_4_0, rfl⟩
theorem w5_4_0 : OK5 4 0 := ⟨[((169869312, [1]), (0, [])), ((175112192, [1]), (0, [])), ((181403648, [1]), (0, [])), ((169869313, [1]), (1, [])), ((2333081601, [1]), (2, [1])), ((1258291200, [1]), (1, [])), ((184549376, [1]), (1, [])), ((190840832, [1]), (1, []))], sA_4_0, sB_4_0, a_4_0, (by decide +kernel), cA_4_0.1, cA_4_0.2, rfl, rfl⟩
theorem w7_4_0 : OK7 4 0 := ⟨[((217055233, [1]), (0, [])), ((2368733185, [1]), (4294967295, [])), ((1293942784, [1]), (0, [])), ((169869313, [1]), (1, [])), ((2333081601, [1]), (2, [1])), ((1258291200, [1]), (1, [])), ((184549376, [1]), (1, []))], tA_4_0, tB_4_0, s_4_0, (by decide +kernel), dA_4_0.1, dA_4_0.2, rfl, rfl⟩
theorem wJ_0_4_1 : OKJ 0 4 1 := ⟨[], sS_4_1, j_0_4_1, (by decide +kernel), cS_4_1, rfl⟩
theorem wJ_1_4_1 : OKJ 1 4 1 := ⟨[], sS_4_1, j_1_4_1, (by decide +kernel), cS_4_1, rfl⟩
theorem wJ_2_4_1 : OKJ 2 4 1 := ⟨[], sS_4_1, j_2_4_1, (by decide +kernel), cS_4_1, rfl⟩
theorem wJ_3_4_1 : OKJ 3 4 1 := ⟨[((169869313, [1]), (1, [])), ((2333081601, [1]), (2, [1])), ((1258291200, [1]), (1, []))], sS_4_1, j_3_4_1, (by decide +kernel), cS_4_1, rfl⟩
theorem wJ_4_4_1 : OKJ 4 4 1 := ⟨[((169869312, [1]), (0, [])), ((175112192, [1]), (0, [])), ((181403648, [1]), (0, [])), ((169869313, [1]), (1, [])), ((2333081601, [1]), (2, [1])), ((1258291200, [1]), (1, [])), ((184549376, [1]), (1, []))], sS_4_1, j_4_4_1, (by decide +kernel), cS_4_1, rfl⟩
theorem wJ_5_4_1 : OKJ 5 4 1 := ⟨[((169869313, [1]), (1, [])), ((190840833, [1]), (1, [])), ((2345664513, [1]), (2, [1])), ((1270874112, [1]), (1, []))], sS_4_1, j_5_4_1, (by decide +kernel), cS_4_1, rfl⟩
theorem w5_4_1 : OK5 4 1 := ⟨[((169869312, [1]), (0, [])), ((175112192, [1]), (0, [])), ((181403648, [1]), (0, [])), ((169869313, [1]), (1, [])), ((2333081601, [1]), (2, [1])), ((1258291200, [1]), (1, [])), ((184549376, [1]), (1, [])), ((190840832, [1]), (1, []))], sA_4_1, sB_4_1, a_4_1, (by decide +kernel), cA_4_1.1, cA_4_1.2, rfl, rfl⟩
theorem w7_4_1 : OK7 4 1 := ⟨[((217055233, [1]), (0, [])), ((2368733185, [1]), (4294967295, [])), ((1293942784, [1]), (0, [])), ((169869313, [1]), (1, [])), ((2333081601, [1]), (2, [1])), ((1258291200, [1]), (1, [])), ((184549376, [1]), (1, []))], tA_4_1, tB_4_1, s_4_1, (by decide +kernel), dA_4_1.1, dA_4_1.2, rfl, rfl⟩
theorem wJ_0_4_2 : OKJ 0 4 2 := ⟨[], sS_4_2, j_0_4_2, (by decide +kernel), cS_4_2, rfl⟩
theorem wJ_1_4_2 : OKJ 1 4 2 := ⟨[], sS_4_2, j_1_4_2, (by decide +kernel), cS_4_2, rfl⟩
theorem wJ_2_4_2 : OKJ 2 4 2 := ⟨[], sS_4_2, j_2_4_2, (by decide +kernel), cS_4_2, rfl⟩
theorem wJ_3_4_2 : OKJ 3 4 2 := ⟨[((169869313, [1]), (1, [])), ((2333081601, [1]), (2, [1])), ((1258291200, [1]), (1, []))], sS_4_2, j_3_4_2, (by decide +kernel), cS_4_2, rfl⟩
theorem wJ_4_4_2 : OKJ 4 4 2 := ⟨[((169869312, [1]), (0, [])), ((175112192, [1]), (0, [])), ((181403648, [1]), (0, [])), ((169869313, [1]), (1, [])), ((2333081601, [1]), (2, [1])), ((1258291200, [1]), (1, [])), ((184549376, [1]), (1, []))], sS_4_2, j_4_4_2, (by decide +kernel), cS_4_2, rfl⟩
theorem wJ_5_4_2 : OKJ 5 4 2 := ⟨[((169869313, [1]), (1, [])), ((190840833, [1]), (1, [])), ((2345664513, [1]), (2, [1])), ((1270874112, [1]), (1, []))], sS_4_2, j_5_4_2, (by decide +kernel), cS_4_2, rfl⟩
theorem w5_4_2 : OK5 4 2 := ⟨[((169869312, [1]), (0, [])), ((175112192, [1]), (0, [])), ((181403648, [1]), (0, [])), ((169869313, [1]), (1, [])), ((2333081601, [1]), (2, [1])), ((1258291200, [1]), (1, [])), ((184549376, [1]), (1, [])), ((190840832, [1]), (1, []))], sA_4_2, sB_4_2, a_4_2, (by decide +kernel), cA_4_2.1, cA_4_2.2, rfl, rfl⟩
theorem w7_4_2 : OK7 4 2 := ⟨[((217055233, [1]), (0, [])), ((2368733185, [1]), (4294967295, [])), ((1293942784, [1]), (0, [])), ((169869313, [1]), (1, [])), ((2333081601, [1]), (2, [1])), ((1258291200, [1]), (1, [])), ((184549376, [1]), (1, []))], tA_4_2, tB_4_2, s_4_2, (by decide +kernel), dA_4_2.1, dA_4_2.2, rfl, rfl⟩
theorem wJ_0_4_3 : OKJ 0 4 3 := ⟨[], sS_4_3, j_0_4_3, (by decide +kernel), cS_4_3, rfl⟩
theorem wJ_1_4_3 : OKJ 1 4 3 := ⟨[], sS_4_3, j_1_4_3, (by decide +kernel), cS_4_3, rfl⟩
theorem wJ_2_4_3 : OKJ 2 4 3 := ⟨[], sS_4_3, j_2_4_3, (by decide +kernel), cS_4_3, rfl⟩
theorem wJ_3_4_3 : OKJ 3 4 3 := ⟨[((169869313, [1]), (1, [])), ((2333081601, [1]), (2, [1])), ((1258291200, [1]), (1, []))], sS_4_3, j_3_4_3, (by decide +kernel), cS_4_3, rfl⟩
theorem wJ_4_4_3 : OKJ 4 4 3 := ⟨[((169869312, [1]), (0, [])), ((175112192, [1]), (0, [])), ((181403648, [1]), (0, [])), ((169869313, [1]), (1, [])), ((2333081601, [1]), (2, [1])), ((1258291200, [1]), (1, [])), ((184549376, [1]), (1, []))], sS_4_3, j_4_4_3, (by decide +kernel), cS_4_3, rfl⟩
theorem wJ_5_4_3 : OKJ 5 4 3 := ⟨[((169869313, [1]), (1, [])), ((190840833, [1]), (1, [])), ((2345664513, [1]), (2, [1])), ((1270874112, [1]), (1, []))], sS_4_3, j_5_4_3, (by decide +kernel), cS_4_3, rfl⟩
theorem w5_4_3 : OK5 4 3 := ⟨[((169869312, [1]), (0, [])), ((175112192, [1]), (0, [])), ((181403648, [1]), (0, [])), ((169869313, [1]), (1, [])), ((2333081601, [1]), (2, [1])), ((1258291200, [1]), (1, [])), ((184549376, [1]), (1, [])), ((190840832, [1]), (1, []))], sA_4_3, sB_4_3, a_4_3, (by decide +kernel), cA_4_3.1, cA_4_3.2, rfl, rfl⟩
theorem w7_4_3 : OK7 4 3 := ⟨[((217055233, [1]), (0, [])), ((2368733185, [1]), (4294967295, [])), ((1293942784, [1]), (0, [])), ((169869313, [1]), (1, [])), ((2333081601, [1]), (2, [1])), ((1258291200, [1]), (1, [])), ((184549376, [1]), (1, []))], tA_4_3, tB_4_3, s_4_3, (by decide +kernel), dA_4_3.1, dA_4_3.2, rfl, rfl⟩
theorem wJ_0_4_4 : OKJ 0 4 4 := ⟨[], sS_4_4, j_0_4_4, (by decide +kernel), cS_4_4, rfl⟩
theorem wJ_1_4_4 : OKJ 1 4 4 := ⟨[], sS_4_4, j_1_4_4, (by decide +kernel), cS_4_4, rfl⟩
theorem wJ_2_4_4 : OKJ 2 4 4 := ⟨[], sS_4_4, j_2_4_4, (by decide +kernel), cS_4_4, rfl⟩
theorem wJ_3_4_4 : OKJ 3 4 4 := ⟨[((169869313, [1]), (1, [])), ((2333081601, [1]), (2, [1])), ((1258291200, [1]), (1, []))], sS_4_4, j_3_4_4, (by decide +kernel), cS_4_4, rfl⟩
theorem wJ_4_4_4 : OKJ 4 4 4 := ⟨[((169869312, [1]), (0, [])), ((175112192, [1]), (0, [])), ((181403648, [1]), (0, [])), ((169869313, [1]), (1, [])), ((2333081601, [1]), (2, [1])), ((1258291200, [1]), (1, [])), ((184549376, [1]), (1, []))], sS_4_4, j_4_4_4, (by decide +kernel), cS_4_4, rfl⟩
theorem wJ_5_4_4 : OKJ 5 4 4 := ⟨[((169869313, [1]), (1, [])), ((190840833, [1]), (1, [])), ((2345664513, [1]), (2, [1])), ((1270874112, [1]), (1, []))], sS_4_4, j_5_4_4, (by decide +kernel), cS_4_4, rfl⟩
theorem w5_4_4 : OK5 4 4 := ⟨[((169869312, [1]), (0, [])), ((175112192, [1]), (0, [])), ((181403648, [1]), (0, [])), ((169869313, [1]), (1, [])), ((2333081601, [1]), (2, [1])), ((1258291200, [1]), (1, [])), ((184549376, [1]), (1, [])), ((190840832, [1]), (1, []))], sA_4_4, sB_4_4, a_4_4, (by decide +kernel), cA_4_4.1, cA_4_4.2, rfl, rfl⟩
theorem w7_4_4 : OK7 4 4 := ⟨[((217055233, [1]), (0, [])), ((2368733185, [1]), (4294967295, [])), ((1293942784, [1]), (0, [])), ((169869313, [1]), (1, [])), ((2333081601, [1]), (2, [1])), ((1258291200, [1]), (1, [])), ((184549376, [1]), (1, []))], tA_4_4, tB_4_4, s_4_4, (by decide +kernel), dA_4_4.1, dA_4_4.2, rfl, rfl⟩
theorem wJ_0_4_5 : OKJ 0 4 5 := ⟨[], sS_4_5, j_0_4_5, (by decide +kernel), cS_4_5, rfl⟩
theorem wJ_1_4_5 : OKJ 1 4 5 := ⟨[], sS_4_5, j_1_4_5, (by decide +kernel), cS_4_5, rfl⟩
theorem wJ_2_4_5 : OKJ 2 4 5 := ⟨[], sS_4_5, j_2_4_5, (by decide +kernel), cS_4_5, rfl⟩
theorem wJ_3_4_5 : OKJ 3 4 5 := ⟨[((169869313, [1]), (1, [])), ((2333081601, [1]), (2, [1])), ((1258291200, [1]), (1, []))], sS_4_5, j_3_4_5, (by decide +kernel), cS_4_5, rfl⟩
theorem wJ_4_4_5 : OKJ 4 4 5 := ⟨[((169869312, [1]), (0, [])), ((175112192, [1]), (0, [])), ((181403648, [1]), (0, [])), ((169869313, [1]), (1, [])), ((2333081601, [1]), (2, [1])), ((1258291200, [1]), (1, [])), ((184549376, [1]), (1, []))], sS_4_5, j_4_4_5, (by decide +kernel), cS_4_5, rfl⟩
theorem wJ_5_4_5 : OKJ 5 4 5 := ⟨[((169869313, [1]), (1, [])), ((190840833, [1]), (1, [])), ((2345664513, [1]), (2, [1])), ((1270874112, [1]), (1, []))], sS_4_5, j_5_4_5, (by decide +kernel), cS_4_5, rfl⟩
theorem w5_4_5 : OK5 4 5 := ⟨[((169869312, [1]), (0, [])), ((175112192, [1]), (0, [])), ((181403648, [1]), (0, [])), ((169869313, [1]), (1, [])), ((2333081601, [1]), (2, [1])), ((1258291200, [1]), (1, [])), ((184549376, [1]), (1, [])), ((190840832, [1]), (1, []))], sA_4_5, sB_4_5, a_4_5, (by decide +kernel), cA_4_5.1, cA_4_5.2, rfl, rfl⟩
theorem w7_4_5 : OK7 4 5 := ⟨[((217055233, [1]), (0, [])), ((2368733185, [1]), (4294967295, [])), ((1293942784, [1]), (0, [])), ((169869313, [1]), (1, [])), ((2333081601, [1]), (2, [1])), ((1258291200, [1]), (1, [])), ((184549376, [1]), (1, []))], tA_4_5, tB_4_5, s_4_5, (by decide +kernel), dA_4_5.1, dA_4_5.2, rfl, rfl⟩
theorem wJ_0_4_6 : OKJ 0 4 6 := ⟨[], sS_4_6, j_0_4_6, (by decide +kernel), cS_4_6, rfl⟩
theorem wJ_1_4_6 : OKJ 1 4 6 := ⟨[], sS_4_6, j_1_4_6, (by decide +kernel), cS_4_6, rfl⟩
theorem wJ_2_4_6 : OKJ 2 4 6 := ⟨[], sS_4_6, j_2_4_6, (by decide +kernel), cS_4_6, rfl⟩
theorem wJ_3_4_6 : OKJ 3 4 6 := ⟨[((169869313, [1]), (0, [])), ((2333081601, [1]), (4294967295, [])), ((1258291200, [1]), (0, []))], sS_4_6, j_3_4_6, (by decide +kernel), cS_4_6, rfl⟩
theorem wJ_4_4_6 : OKJ 4 4 6 := ⟨[((169869312, [1]), (0, [])), ((175112192, [1]), (0, [])), ((181403648, [1]), (0, [])), ((169869313, [1]), (0, [])), ((2333081601, [1]), (4294967295, [])), ((1258291200, [1]), (0, [])), ((184549376, [1]), (0, []))], sS_4_6, j_4_4_6, (by decide +kernel), cS_4_6, rfl⟩
theorem wJ_5_4_6 : OKJ 5 4 6 := ⟨[((169869313, [1]), (0, [])), ((175112193, [1]), (0, [])), ((181403649, [1]), (0, [])), ((184549377, [1]), (0, [])), ((190840833, [1]), (0, [])), ((2345664513, [1]), (1, [1])), ((1270874112, [1]), (0, []))], sS_4_6, j_5_4_6, (by decide +kernel), cS_4_6, rfl⟩
theorem w5_4_6 : OK5 4 6 := ⟨[((169869312, [1]), (0, [])), ((175112192, [1]), (0, [])), ((181403648, [1]), (0, [])), ((169869313, [1]), (0, [])), ((2333081601, [1]), (4294967295, [])), ((1258291200, [1]), (0, [])), ((184549376, [1]), (0, [])), ((190840832, [1]), (0, []))], sA_4_6, sB_4_6, a_4_6, (by decide +kernel), cA_4_6.1, cA_4_6.2, rfl, rfl⟩
theorem w7_4_6 : OK7 4 6 := ⟨[((217055233, [1]), (0, [])), ((2368733185, [1]), (4294967295, [])), ((1293942784, [1]), (0, [])), ((169869313, [1]), (0, [])), ((2333081601, [1]), (4294967295, [])), ((1258291200, [1]), (0, [])), ((184549376, [1]), (0, []))], tA_4_6, tB_4_6, s_4_6, (by decide +kernel), dA_4_6.1, dA_4_6.2, rfl, rfl⟩
theorem wJ_0_4_7 : OKJ 0 4 7 := ⟨[], sS_4_7, j_0_4_7, (by decide +kernel), cS_4_7, rfl⟩
theorem wJ_1_4_7 : OKJ 1 4 7 := ⟨[], sS_4_7, j_1_4_7, (by decide +kernel), cS_4_7, rfl⟩
theorem wJ_2_4_7 : OKJ 2 4 7 := ⟨[], sS_4_7, j_2_4_7, (by decide +kernel), cS_4_7, rfl⟩
theorem wJ_3_4_7 : OKJ 3 4 7 := ⟨[((169869313, [1]), (0, [])), ((2333081601, [1]), (4294967295, [])), ((1258291200, [1]), (0, []))], sS_4_7, j_3_4_7, (by decide +kernel), cS_4_7, rfl⟩
theorem wJ_4_4_7 : OKJ 4 4 7 := ⟨[((169869312, [1]), (0, [])), ((175112192, [1]), (0, [])), ((181403648, [1]), (0, [])), ((169869313, [1]), (0, [])), ((2333081601, [1]), (4294967295, [])), ((1258291200, [1]), (0, [])), ((184549376, [1]), (0, []))], sS_4_7, j_4_4_7, (by decide +kernel), cS_4_7, rfl⟩
theorem wJ_5_4_7 : OKJ 5 4 7 := ⟨[((169869313, [1]), (0, [])), ((175112193, [1]), (0, [])), ((181403649, [1]), (0, [])), ((184549377, [1]), (0, [])), ((190840833, [1]), (0, [])), ((2345664513, [1]), (1, [1])), ((1270874112, [1]), (0, []))], sS_4_7, j_5_4_7, (by decide +kernel), cS_4_7, rfl⟩
theorem w5_4_7 : OK5 4 7 := ⟨[((169869312, [1]), (0, [])), ((175112192, [1]), (0, [])), ((181403648, [1]), (0, [])), ((169869313, [1]), (0, [])), ((2333081601, [1]), (4294967295, [])), ((1258291200, [1]), (0, [])), ((184549376, [1]), (0, [])), ((190840832, [1]), (0, []))], sA_4_7, sB_4_7, a_4_7, (by decide +kernel), cA_4_7.1, cA_4_7.2, rfl, rfl⟩
theorem w7_4_7 : OK7 4 7 := ⟨[((217055233, [1]), (0, [])), ((2368733185, [1]), (4294967295, [])), ((1293942784, [1]), (0, [])), ((169869313, [1]), (0, [])), ((2333081601, [1]), (4294967295, [])), ((1258291200, [1]), (0, [])), ((184549376, [1]), (0, []))], tA_4_7, tB_4_7, s_4_7, (by decide +kernel), dA_4_7.1, dA_4_7.2, rfl, rfl⟩
theorem wJ_0_4_8 : OKJ 0 4 8 := ⟨[], sS_4_8, j_0_4_8, (by decide +kernel), cS_4_8, rfl⟩
theorem wJ_1_4_8 : OKJ 1 4 8 := ⟨[], sS_4_8, j_1_4_8, (by decide +kernel), cS_4_8, rfl⟩
theorem wJ_2_4_8 : OKJ 2 4 8 := ⟨[], sS_4_8, j_2_4_8, (by decide +kernel), cS_4_8, rfl⟩
theorem wJ_3_4_8 : OKJ 3 4 8 := ⟨[((169869313, [1]), (0, [])), ((2333081601, [1]), (4294967295, [])), ((1258291200, [1]), (0, []))], sS_4_8, j_3_4_8, (by decide +kernel), cS_4_8, rfl⟩
theorem wJ_4_4_8 : OKJ 4 4 8 := ⟨[((169869312, [1]), (0, [])), ((175112192, [1]), (0, [])), ((181403648, [1]), (0, [])), ((169869313, [1]), (0, [])), ((2333081601, [1]), (4294967295, [])), ((1258291200, [1]), (0, [])), ((184549376, [1]), (0, []))], sS_4_8, j_4_4_8, (by decide +kernel), cS_4_8, rfl⟩
theorem wJ_5_4_8 : OKJ 5 4 8 := ⟨[((169869313, [1]), (0, [])), ((175112193, [1]), (0, [])), ((181403649, [1]), (0, [])), ((184549377, [1]), (0, [])), ((190840833, [1]), (0, [])), ((2345664513, [1]), (1, [1])), ((1270874112, [1]), (0, []))], sS_4_8, j_5_4_8, (by decide +kernel), cS_4_8, rfl⟩
theorem w5_4_8 : OK5 4 8 := ⟨[((169869312, [1]), (0, [])), ((175112192, [1]), (0, [])), ((181403648, [1]), (0, [])), ((169869313, [1]), (0, [])), ((2333081601, [1]), (4294967295, [])), ((1258291200, [1]), (0, [])), ((184549376, [1]), (0, [])), ((190840832, [1]), (0, []))], sA_4_8, sB_4_8, a_4_8, (by decide +kernel), cA_4_8.1, cA_4_8.2, rfl, rfl⟩
theorem w7_4_8 : OK7 4 8 := ⟨[((217055233, [1]), (0, [])), ((2368733185, [1]), (4294967295, [])), ((1293942784, [1]), (0, [])), ((169869313, [1]), (0, [])), ((2333081601, [1]), (4294967295, [])), ((1258291200, [1]), (0, [])), ((184549376, [1]), (0, []))], tA_4_8, tB_4_8, s_4_8, (by decide +kernel), dA_4_8.1, dA_4_8.2, rfl, rfl⟩
theorem wJ_0_4_9 : OKJ 0 4 9 := ⟨[], sS_4_9, j_0_4_9, (by decide +kernel), cS_4_9, rfl⟩
theorem wJ_1_4_9 : OKJ 1 4 9 := ⟨[], sS_4_9, j_1_4_9, (by decide +kernel), cS_4_9, rfl⟩
theorem wJ_2_4_9 : OKJ 2 4 9 := ⟨[], sS_4_9, j_2_4_9, (by decide +kernel), cS_4_9, rfl⟩
theorem wJ_3_4_9 : OKJ 3 4 9 := ⟨[((169869313, [1]), (0, [])), ((2333081601, [1]), (4294967295, [])), ((1258291200, [1]), (0, []))], sS_4_9, j_3_4_9, (by decide +kernel), cS_4_9, rfl⟩
theorem wJ_4_4_9 : OKJ 4 4 9 := ⟨[((169869312, [1]), (0, [])), ((175112192, [1]), (0, [])), ((181403648, [1]), (0, [])), ((169869313, [1]), (0, [])), ((2333081601, [1]), (4294967295, [])), ((1258291200, [1]), (0, [])), ((184549376, [1]), (0, []))], sS_4_9, j_4_4_9, (by decide +kernel), cS_4_9, rfl⟩
theorem wJ_5_4_9 : OKJ 5 4 9 := ⟨[((169869313, [1]), (0, [])), ((175112193, [1]), (0, [])), ((181403649, [1]), (0, [])), ((184549377, [1]), (0, [])), ((190840833, [1]), (0, [])), ((2345664513, [1]), (1, [1])), ((1270874112, [1]), (0, []))], sS_4_9, j_5_4_9, (by decide +kernel), cS_4_9, rfl⟩
theorem w5_4_9 : OK5 4 9 := ⟨[((169869312, [1]), (0, [])), ((175112192, [1]), (0, [])), ((181403648, [1]), (0, [])), ((169869313, [1]), (0, [])), ((2333081601, [1]), (4294967295, [])), ((1258291200, [1]), (0, [])), ((184549376, [1]), (0, [])), ((190840832, [1]), (0, []))], sA_4_9, sB_4_9, a_4_9, (by decide +kernel), cA_4_9.1, cA_4_9.2, rfl, rfl⟩
theorem w7_4_9 : OK7 4 9 := ⟨[((217055233, [1]), (0, [])), ((2368733185, [1]), (4294967295, [])), ((1293942784, [1]), (0, [])), ((169869313, [1]), (0, [])), ((2333081601, [1]), (4294967295, [])), ((1258291200, [1]), (0, [])), ((184549376, [1]), (0, []))], tA_4_9, tB_4_9, s_4_9, (by decide +kernel), dA_4_9.1, dA_4_9.2, rfl, rfl⟩
theorem wJ_0_4_10 : OKJ 0 4 10 := ⟨[], sS_4_10, j_0_4_10, (by decide +kernel), cS_4_10, rfl⟩
theorem wJ_1_4_10 : OKJ 1 4 10 := ⟨[], sS_4_10, j_1_4_10, (by decide +kernel), cS_4_10, rfl⟩
theorem wJ_2_4_10 : OKJ 2 4 10 := ⟨[], sS_4_10, j_2_4_10, (by decide +kernel), cS_4_10, rfl⟩
theorem wJ_3_4_10 : OKJ 3 4 10 := ⟨[((169869313, [1]), (0, [])), ((2333081601, [1]), (4294967295, [])), ((1258291200, [1]), (0, []))], sS_4_10, j_3_4_10, (by decide +kernel), cS_4_10, rfl⟩
theorem wJ_4_4_10 : OKJ 4 4 10 := ⟨[((169869312, [1]), (0, [])), ((175112192, [1]), (0, [])), ((181403648, [1]), (0, [])), ((169869313, [1]), (0, [])), ((2333081601, [1]), (4294967295, [])), ((1258291200, [1]), (0, [])), ((184549376, [1]), (0, []))], sS_4_10, j_4_4_10, (by decide +kernel), cS_4_10, rfl⟩
theorem wJ_5_4_10 : OKJ 5 4 10 := ⟨[((169869313, [1]), (0, [])), ((175112193, [1]), (0, [])), ((181403649, [1]), (0, [])), ((184549377, [1]), (0, [])), ((190840833, [1]), (0, [])), ((2345664513, [1]), (1, [1])), ((1270874112, [1]), (0, []))], sS_4_10, j_5_4_10, (by decide +kernel), cS_4_10, rfl⟩
theorem w5_4_10 : OK5 4 10 := ⟨[((169869312, [1]), (0, [])), ((175112192, [1]), (0, [])), ((181403648, [1]), (0, [])), ((169869313, [1]), (0, [])), ((2333081601, [1]), (4294967295, [])), ((1258291200, [1]), (0, [])), ((184549376, [1]), (0, [])), ((190840832, [1]), (0, []))], sA_4_10, sB_4_10, a_4_10, (by decide +kernel), cA_4_10.1, cA_4_10.2, rfl, rfl⟩
theorem w7_4_10 : OK7 4 10 := ⟨[((217055233, [1]), (0, [])), ((2368733185, [1]), (4294967295, [])), ((1293942784, [1]), (0, [])), ((169869313, [1]), (0, [])), ((2333081601, [1]), (4294967295, [])), ((1258291200, [1]), (0, [])), ((184549376, [1]), (0, []))], tA_4_10, tB_4_10, s_4_10, (by decide +kernel), dA_4_10.1, dA_4_10.2, rfl, rfl⟩
theorem wJ_0_4_11 : OKJ 0 4 11 := ⟨[], sS_4_11, j_0_4_11, (by decide +kernel), cS_4_11, rfl⟩
theorem wJ_1_4_11 : OKJ 1 4 11 := ⟨[], sS_4_11, j_1_4_11, (by decide +kernel), cS_4_11, rfl⟩
theorem wJ_2_4_11 : OKJ 2 4 11 := ⟨[], sS_4_11, j_2_4_11, (by decide +kernel), cS_4_11, rfl⟩
theorem wJ_3_4_11 : OKJ 3 4 11 := ⟨[((169869313, [1]), (0, [])), ((2333081601, [1]), (4294967295, [])), ((1258291200, [1]), (0, []))], sS_4_11, j_3_4_11, (by decide +kernel), cS_4_11, rfl⟩
theorem wJ_4_4_11 : OKJ 4 4 11 := ⟨[((169869312, [1]), (0, [])), ((175112192, [1]), (0, [])), ((181403648, [1]), (0, [])), ((169869313, [1]), (0, [])), ((2333081601, [1]), (4294967295, [])), ((1258291200, [1]), (0, [])), ((184549376, [1]), (0, []))], sS_4_11, j_4_4_11, (by decide +kernel), cS_4_11, rfl⟩
theorem wJ_5_4_11 : OKJ 5 4 11 := ⟨[((169869313, [1]), (0, [])), ((175112193, [1]), (0, [])), ((181403649, [1]), (0, [])), ((184549377, [1]), (0, [])), ((190840833, [1]), (0, [])), ((2345664513, [1]), (1, [1])), ((1270874112, [1]), (0, []))], sS_4_11, j_5_4_11, (by decide +kernel), cS_4_11, rfl⟩
theorem w5_4_11 : OK5 4 11 := ⟨[((169869312, [1]), (0, [])), ((175112192, [1]), (0, [])), ((181403648, [1]), (0, [])), ((169869313, [1]), (0, [])), ((2333081601, [1]), (4294967295, [])), ((1258291200, [1]), (0, [])), ((184549376, [1]), (0, [])), ((190840832, [1]), (0, []))], sA_4_11, sB_4_11, a_4_11, (by decide +kernel), cA_4_11.1, cA_4_11.2, rfl, rfl⟩
theorem w7_4_11 : OK7 4 11 := ⟨[((217055233, [1]), (0, [])), ((2368733185, [1]), (4294967295, [])), ((1293942784, [1]), (0, [])), ((169869313, [1]), (0, [])), ((2333081601, [1]), (4294967295, [])), ((1258291200, [1]), (0, [])), ((184549376, [1]), (0, []))], tA_4_11, tB_4_11, s_4_11, (by decide +kernel), dA_4_11.1, dA_4_11.2, rfl, rfl⟩
theorem wJ_0_4_12 : OKJ 0 4 12 := ⟨[], sS_4_12, j_0_4_12, (by decide +kernel), cS_4_12, rfl⟩
theorem wJ_1_4_12 : OKJ 1 4 12 := ⟨[], sS_4_12, j_1_4_12, (by decide +kernel), cS_4_12, rfl⟩
theorem wJ_2_4_12 : OKJ 2 4 12 := ⟨[], sS_4_12, j_2_4_12, (by decide +kernel), cS_4_12, rfl⟩
theorem wJ_3_4_12 : OKJ 3 4 12 := ⟨[((169869313, [1]), (0, [])), ((2333081601, [1]), (4294967295, [])), ((1258291200, [1]), (0, []))], sS_4_12, j_3_4_12, (by decide +kernel), cS_4_12, rfl⟩
theorem wJ_4_4_12 : OKJ 4 4 12 := ⟨[((169869312, [1]), (0, [])), ((175112192, [1]), (0, [])), ((181403648, [1]), (0, [])), ((169869313, [1]), (0, [])), ((2333081601, [1]), (4294967295, [])), ((1258291200, [1]), (0, [])), ((184549376, [1]), (0, []))], sS_4_12, j_4_4_12, (by decide +kernel), cS_4_12, rfl⟩
theorem wJ_5_4_12 : OKJ 5 4 12 := ⟨[((169869313, [1]), (0, [])), ((175112193, [1]), (0, [])), ((181403649, [1]), (0, [])), ((184549377, [1]), (0, [])), ((190840833, [1]), (0, [])), ((2345664513, [1]), (1, [1])), ((1270874112, [1]), (0, []))], sS_4_12, j_5_4_12, (by decide +kernel), cS_4_12, rfl⟩
theorem w5_4_12 : OK5 4 12 := ⟨[((169869312, [1]), (0, [])), ((175112192, [1]), (0, [])), ((181403648, [1]), (0, [])), ((169869313, [1]), (0, [])), ((2333081601, [1]), (4294967295, [])), ((1258291200, [1]), (0, [])), ((184549376, [1]), (0, [])), ((190840832, [1]), (0, []))], sA_4_12, sB_4_12, a_4_12, (by decide +kernel), cA_4_12.1, cA_4_12.2, rfl, rfl⟩
theorem w7_4_12 : OK7 4 12 := ⟨[((217055233, [1]), (0, [])), ((2368733185, [1]), (4294967295, [])), ((1293942784, [1]), (0, [])), ((169869313, [1]), (0, [])), ((2333081601, [1]), (4294967295, [])), ((1258291200, [1]), (0, [])), ((184549376, [1]), (0, []))], tA_4_12, tB_4_12, s_4_12, (by decide +kernel), dA_4_12.1, dA_4_12.2, rfl, rfl⟩
theorem wJ_0_4_13 : OKJ 0 4 13 := ⟨[], sS_4_13, j_0_4_13, (by decide +kernel), cS_4_13, rfl⟩
theorem wJ_1_4_13 : OKJ 1 4 13 := ⟨[], sS_4_13, j_1_4_13, (by decide +kernel), cS_4_13, rfl⟩
theorem wJ_2_4_13 : OKJ 2 4 13 := ⟨[], sS_4_13, j_2_4_13, (by decide +kernel), cS_4_13, rfl⟩
theorem wJ_3_4_13 : OKJ 3 4 13 := ⟨[((169869313, [1]), (0, [])), ((2333081601, [1]), (4294967295, [])), ((1258291200, [1]), (0, []))], sS_4_13, j_3_4_13, (by decide +kernel), cS_4_13, rfl⟩
theorem wJ_4_4_13 : OKJ 4 4 13 := ⟨[((169869312, [1]), (0, [])), ((175112192, [1]), (0, [])), ((181403648, [1]), (0, [])), ((169869313, [1]), (0, [])), ((2333081601, [1]), (4294967295, [])), ((1258291200, [1]), (0, [])), ((184549376, [1]), (0, []))], sS_4_13, j_4_4_13, (by decide +kernel), cS_4_13, rfl⟩
theorem wJ_5_4_13 : OKJ 5 4 13 := ⟨[((169869313, [1]), (0, [])), ((175112193, [1]), (0, [])), ((181403649, [1]), (0, [])), ((184549377, [1]), (0, [])), ((190840833, [1]), (0, [])), ((2345664513, [1]), (1, [1])), ((1270874112, [1]), (0, []))], sS_4_13, j_5_4_13, (by decide +kernel), cS_4_13, rfl⟩
theorem w5_4_13 : OK5 4 13 := ⟨[((169869312, [1]), (0, [])), ((175112192, [1]), (0, [])), ((181403648, [1]), (0, [])), ((169869313, [1]), (0, [])), ((2333081601, [1]), (4294967295, [])), ((1258291200, [1]), (0, [])), ((184549376, [1]), (0, [])), ((190840832, [1]), (0, []))], sA_4_13, sB_4_13, a_4_13, (by decide +kernel), cA_4_13.1, cA_4_13.2, rfl, rfl⟩
theorem w7_4_13 : OK7 4 13 := ⟨[((217055233, [1]), (0, [])), ((2368733185, [1]), (4294967295, [])), ((1293942784, [1]), (0, [])), ((169869313, [1]), (0, [])), ((2333081601, [1]), (4294967295, [])), ((1258291200, [1]), (0, [])), ((184549376, [1]), (0, []))], tA_4_13, tB_4_13, s_4_13, (by decide +kernel), dA_4_13.1, dA_4_13.2, rfl, rfl⟩
theorem wJ_0_4_14 : OKJ 0 4 14 := ⟨[], sS_4_14, j_0_4_14, (by decide +kernel), cS_4_14, rfl⟩
theorem wJ_1_4_14 : OKJ 1 4 14 := ⟨[], sS_4_14, j_1_4_14, (by decide +kernel), cS_4_14, rfl⟩
theorem wJ_2_4_14 : OKJ 2 4 14 := ⟨[], sS_4_14, j_2_4_14, (by decide +kernel), cS_4_14, rfl⟩
theorem wJ_3_4_14 : OKJ 3 4 14 := ⟨[((169869313, [1]), (0, [])), ((2333081601, [1]), (4294967295, [])), ((1258291200, [1]), (0, []))], sS_4_14, j_3_4_14, (by decide +kernel), cS_4_14, rfl⟩
theorem wJ_4_4_14 : OKJ 4 4 14 := ⟨[((169869312, [1]), (0, [])), ((175112192, [1]), (0, [])), ((181403648, [1]), (0, [])), ((169869313, [1]), (0, [])), ((2333081601, [1]), (4294967295, [])), ((1258291200, [1]), (0, [])), ((184549376, [1]), (0, []))], sS_4_14, j_4_4_14, (by decide +kernel), cS_4_14, rfl⟩
theorem wJ_5_4_14 : OKJ 5 4 14 := ⟨[((169869313, [1]), (0, [])), ((175112193, [1]), (0, [])), ((181403649, [1]), (0, [])), ((184549377, [1]), (0, [])), ((190840833, [1]), (0, [])), ((2345664513, [1]), (1, [1])), ((1270874112, [1]), (0, []))], sS_4_14, j_5_4_14, (by decide +kernel), cS_4_14, rfl⟩
theorem w5_4_14 : OK5 4 14 := ⟨[((169869312, [1]), (0, [])), ((175112192, [1]), (0, [])), ((181403648, [1]), (0, [])), ((169869313, [1]), (0, [])), ((2333081601, [1]), (4294967295, [])), ((1258291200, [1]), (0, [])), ((184549376, [1]), (0, [])), ((190840832, [1]), (0, []))], sA_4_14, sB_4_14, a_4_14, (by decide +kernel), cA_4_14.1, cA_4_14.2, rfl, rfl⟩
theorem w7_4_14 : OK7 4 14 := ⟨[((217055233, [1]), (0, [])), ((2368733185, [1]), (4294967295, [])), ((1293942784, [1]), (0, [])), ((169869313, [1]), (0, [])), ((2333081601, [1]), (4294967295, [])), ((1258291200, [1]), (0, [])), ((184549376, [1]), (0, []))], tA_4_14, tB_4_14, s_4_14, (by decide +kernel), dA_4_14.1, dA_4_14.2, rfl, rfl⟩
theorem wJ_0_4_15 : OKJ 0 4 15 := ⟨[], sS_4_15, j_0_4_15, (by decide +kernel), cS_4_15, rfl⟩
theorem wJ_1_4_15 : OKJ 1 4 15 := ⟨[], sS_4_15, j_1_4_15, (by decide +kernel), cS_4_15, rfl⟩
theorem wJ_2_4_15 : OKJ 2 4 15 := ⟨[], sS_4_15, j_2_4_15, (by decide +kernel), cS_4_15, rfl⟩
theorem wJ_3_4_15 : OKJ 3 4 15 := ⟨[((169869313, [1]), (0, [])), ((2333081601, [1]), (4294967295, [])), ((1258291200, [1]), (0, []))], sS_4_15, j_3_4_15, (by decide +kernel), cS_4_15, rfl⟩
theorem wJ_4_4_15 : OKJ 4 4 15 := ⟨[((169869312, [1]), (0, [])), ((175112192, [1]), (0, [])), ((181403648, [1]), (0, [])), ((169869313, [1]), (0, [])), ((2333081601, [1]), (4294967295, [])), ((1258291200, [1]), (0, [])), ((184549376, [1]), (0, []))], sS_4_15, j_4_4_15, (by decide +kernel), cS_4_15, rfl⟩
theorem wJ_5_4_15 : OKJ 5 4 15 := ⟨[((169869313, [1]), (0, [])), ((175112193, [1]), (0, [])), ((181403649, [1]), (0, [])), ((184549377, [1]), (0, [])), ((190840833, [1]), (0, [])), ((2345664513, [1]), (1, [1])), ((1270874112, [1]), (0, []))], sS_4_15, j_5_4_15, (by decide +kernel), cS_4_15, rfl⟩
theorem w5_4_15 : OK5 4 15 := ⟨[((169869312, [1]), (0, [])), ((175112192, [1]), (0, [])), ((181403648, [1]), (0, [])), ((169869313, [1]), (0, [])), ((2333081601, [1]), (4294967295, [])), ((1258291200, [1]), (0, [])), ((184549376, [1]), (0, [])), ((190840832, [1]), (0, []))], sA_4_15, sB_4_15, a_4_15, (by decide +kernel), cA_4_15.1, cA_4_15.2, rfl, rfl⟩
theorem w7_4_15 : OK7 4 15 := ⟨[((217055233, [1]), (0, [])), ((2368733185, [1]), (4294967295, [])), ((1293942784, [1]), (0, [])), ((169869313, [1]), (0, [])), ((2333081601, [1]), (4294967295, [])), ((1258291200, [1]), (0, [])), ((184549376, [1]), (0, []))], tA_4_15, tB_4_15, s_4_15, (by decide +kernel), dA_4_15.1, dA_4_15.2, rfl, rfl⟩
theorem okJ0 {k v : Nat} (hk : k < 5) (hv : v < 16) : OKJ 0 k v := by
  match k, hk with
  | 0, _ =>
    match v, hv with
    | 0, _ => exact wJ_0_0_0
    | 1, _ => exact wJ_0_0_1
    | 2, _ => exact wJ_0_0_2
    | 3, _ => exact wJ_0_0_3
    | 4, _ => exact wJ_0_0_4
    | 5, _ => exact wJ_0_0_5
    | 6, _ => exact wJ_0_0_6
    | 7, _ => exact wJ_0_0_7
    | 8, _ => exact wJ_0_0_8
    | 9, _ => exact wJ_0_0_9
    | 10, _ => exact wJ_0_0_10
    | 11, _ => exact wJ_0_0_11
    | 12, _ => exact wJ_0_0_12
    | 13, _ => exact wJ_0_0_13
    | 14, _ => exact wJ_0_0_14
    | 15, _ => exact wJ_0_0_15
    | n + 16, h => exact absurd h (by omega)
  | 1, _ =>
    match v, hv with
    | 0, _ => exact wJ_0_1_0
    | 1, _ => exact wJ_0_1_1
    | 2, _ => exact wJ_0_1_2
    | 3, _ => exact wJ_0_1_3
    | 4, _ => exact wJ_0_1_4
    | 5, _ => exact wJ_0_1_5
    | 6, _ => exact wJ_0_1_6
    | 7, _ => exact wJ_0_1_7
    | 8, _ => exact wJ_0_1_8
    | 9, _ => exact wJ_0_1_9
    | 10, _ => exact wJ_0_1_10
    | 11, _ => exact wJ_0_1_11
    | 12, _ => exact wJ_0_1_12
    | 13, _ => exact wJ_0_1_13
    | 14, _ => exact wJ_0_1_14
    | 15, _ => exact wJ_0_1_15
    | n + 16, h => exact absurd h (by omega)
  | 2, _ =>
    match v, hv with
    | 0, _ => exact wJ_0_2_0
    | 1, _ => exact wJ_0_2_1
    | 2, _ => exact wJ_0_2_2
    | 3, _ => exact wJ_0_2_3
    | 4, _ => exact wJ_0_2_4
    | 5, _ => exact wJ_0_2_5
    | 6, _ => exact wJ_0_2_6
    | 7, _ => exact wJ_0_2_7
    | 8, _ => exact wJ_0_2_8
    | 9, _ => exact wJ_0_2_9
    | 10, _ => exact wJ_0_2_10
    | 11, _ => exact wJ_0_2_11
    | 12, _ => exact wJ_0_2_12
    | 13, _ => exact wJ_0_2_13
    | 14, _ => exact wJ_0_2_14
    | 15, _ => exact wJ_0_2_15
    | n + 16, h => exact absurd h (by omega)
  | 3, _ =>
    match v, hv with
    | 0, _ => exact wJ_0_3_0
    | 1, _ => exact wJ_0_3_1
    | 2, _ => exact wJ_0_3_2
    | 3, _ => exact wJ_0_3_3
    | 4, _ => exact wJ_0_3_4
    | 5, _ => exact wJ_0_3_5
    | 6, _ => exact wJ_0_3_6
    | 7, _ => exact wJ_0_3_7
    | 8, _ => exact wJ_0_3_8
    | 9, _ => exact wJ_0_3_9
    | 10, _ => exact wJ_0_3_10
    | 11, _ => exact wJ_0_3_11
    | 12, _ => exact wJ_0_3_12
    | 13, _ => exact wJ_0_3_13
    | 14, _ => exact wJ_0_3_14
    | 15, _ => exact wJ_0_3_15
    | n + 16, h => exact absurd h (by omega)
  | 4, _ =>
    match v, hv with
    | 0, _ => exact wJ_0_4_0
    | 1, _ => exact wJ_0_4_1
    | 2, _ => exact wJ_0_4_2
    | 3, _ => exact wJ_0_4_3
    | 4, _ => exact wJ_0_4_4
    | 5, _ => exact wJ_0_4_5
    | 6, _ => exact wJ_0_4_6
    | 7, _ => exact wJ_0_4_7
    | 8, _ => exact wJ_0_4_8
    | 9, _ => exact wJ_0_4_9
    | 10, _ => exact wJ_0_4_10
    | 11, _ => exact wJ_0_4_11
    | 12, _ => exact wJ_0_4_12
    | 13, _ => exact wJ_0_4_13
    | 14, _ => exact wJ_0_4_14
    | 15, _ => exact wJ_0_4_15
    | n + 16, h => exact absurd h (by omega)
theorem okJ1 {k v : Nat} (hk : k < 5) (hv : v < 16) : OKJ 1 k v := by
  match k, hk with
  | 0, _ =>
    match v, hv with
    | 0, _ => exact wJ_1_0_0
    | 1, _ => exact wJ_1_0_1
    | 2, _ => exact wJ_1_0_2
    | 3, _ => exact wJ_1_0_3
    | 4, _ => exact wJ_1_0_4
    | 5, _ => exact wJ_1_0_5
    | 6, _ => exact wJ_1_0_6
    | 7, _ => exact wJ_1_0_7
    | 8, _ => exact wJ_1_0_8
    | 9, _ => exact wJ_1_0_9
    | 10, _ => exact wJ_1_0_10
    | 11, _ => exact wJ_1_0_11
    | 12, _ => exact wJ_1_0_12
    | 13, _ => exact wJ_1_0_13
    | 14, _ => exact wJ_1_0_14
    | 15, _ => exact wJ_1_0_15
    | n + 16, h => exact absurd h (by omega)
  | 1, _ =>
    match v, hv with
    | 0, _ => exact wJ_1_1_0
    | 1, _ => exact wJ_1_1_1
    | 2, _ => exact wJ_1_1_2
    | 3, _ => exact wJ_1_1_3
    | 4, _ => exact wJ_1_1_4
    | 5, _ => exact wJ_1_1_5
    | 6, _ => exact wJ_1_1_6
    | 7, _ => exact wJ_1_1_7
    | 8, _ => exact wJ_1_1_8
    | 9, _ => exact wJ_1_1_9
    | 10, _ => exact wJ_1_1_10
    | 11, _ => exact wJ_1_1_11
    | 12, _ => exact wJ_1_1_12
    | 13, _ => exact wJ_1_1_13
    | 14, _ => exact wJ_1_1_14
    | 15, _ => exact wJ_1_1_15
    | n + 16, h => exact absurd h (by omega)
  | 2, _ =>
    match v, hv with
    | 0, _ => exact wJ_1_2_0
    | 1, _ => exact wJ_1_2_1
    | 2, _ => exact wJ_1_2_2
    | 3, _ => exact wJ_1_2_3
    | 4, _ => exact wJ_1_2_4
    | 5, _ => exact wJ_1_2_5
    | 6, _ => exact wJ_1_2_6
    | 7, _ => exact wJ_1_2_7
    | 8, _ => exact wJ_1_2_8
    | 9, _ => exact wJ_1_2_9
    | 10, _ => exact wJ_1_2_10
    | 11, _ => exact wJ_1_2_11
    | 12, _ => exact wJ_1_2_12
    | 13, _ => exact wJ_1_2_13
    | 14, _ => exact wJ_1_2_14
    | 15, _ => exact wJ_1_2_15
    | n + 16, h => exact absurd h (by omega)
  | 3, _ =>
    match v, hv with
    | 0, _ => exact wJ_1_3_0
    | 1, _ => exact wJ_1_3_1
    | 2, _ => exact wJ_1_3_2
    | 3, _ => exact wJ_1_3_3
    | 4, _ => exact wJ_1_3_4
    | 5, _ => exact wJ_1_3_5
    | 6, _ => exact wJ_1_3_6
    | 7, _ => exact wJ_1_3_7
    | 8, _ => exact wJ_1_3_8
    | 9, _ => exact wJ_1_3_9
    | 10, _ => exact wJ_1_3_10
    | 11, _ => exact wJ_1_3_11
    | 12, _ => exact wJ_1_3_12
    | 13, _ => exact wJ_1_3_13
    | 14, _ => exact wJ_1_3_14
    | 15, _ => exact wJ_1_3_15
    | n + 16, h => exact absurd h (by omega)
  | 4, _ =>
    match v, hv with
    | 0, _ => exact wJ_1_4_0
    | 1, _ => exact wJ_1_4_1
    | 2, _ => exact wJ_1_4_2
    | 3, _ => exact wJ_1_4_3
    | 4, _ => exact wJ_1_4_4
    | 5, _ => exact wJ_1_4_5
    | 6, _ => exact wJ_1_4_6
    | 7, _ => exact wJ_1_4_7
    | 8, _ => exact wJ_1_4_8
    | 9, _ => exact wJ_1_4_9
    | 10, _ => exact wJ_1_4_10
    | 11, _ => exact wJ_1_4_11
    | 12, _ => exact wJ_1_4_12
    | 13, _ => exact wJ_1_4_13
    | 14, _ => exact wJ_1_4_14
    | 15, _ => exact wJ_1_4_15
    | n + 16, h => exact absurd h (by omega)
theorem okJ2 {k v : Nat} (hk : k < 5) (hv : v < 16) : OKJ 2 k v := by
  match k, hk with
  | 0, _ =>
    match v, hv with
    | 0, _ => exact wJ_2_0_0
    | 1, _ => exact wJ_2_0_1
    | 2, _ => exact wJ_2_0_2
    | 3, _ => exact wJ_2_0_3
    | 4, _ => exact wJ_2_0_4
    | 5, _ => exact wJ_2_0_5
    | 6, _ => exact wJ_2_0_6
    | 7, _ => exact wJ_2_0_7
    | 8, _ => exact wJ_2_0_8
    | 9, _ => exact wJ_2_0_9
    | 10, _ => exact wJ_2_0_10
    | 11, _ => exact wJ_2_0_11
    | 12, _ => exact wJ_2_0_12
    | 13, _ => exact wJ_2_0_13
    | 14, _ => exact wJ_2_0_14
    | 15, _ => exact wJ_2_0_15
    | n + 16, h => exact absurd h (by omega)
  | 1, _ =>
    match v, hv with
    | 0, _ => exact wJ_2_1_0
    | 1, _ => exact wJ_2_1_1
    | 2, _ => exact wJ_2_1_2
    | 3, _ => exact wJ_2_1_3
    | 4, _ => exact wJ_2_1_4
    | 5, _ => exact wJ_2_1_5
    | 6, _ => exact wJ_2_1_6
    | 7, _ => exact wJ_2_1_7
    | 8, _ => exact wJ_2_1_8
    | 9, _ => exact wJ_2_1_9
    | 10, _ => exact wJ_2_1_10
    | 11, _ => exact wJ_2_1_11
    | 12, _ => exact wJ_2_1_12
    | 13, _ => exact wJ_2_1_13
    | 14, _ => exact wJ_2_1_14
    | 15, _ => exact wJ_2_1_15
    | n + 16, h => exact absurd h (by omega)
  | 2, _ =>
    match v, hv with
    | 0, _ => exact wJ_2_2_0
    | 1, _ => exact wJ_2_2_1
    | 2, _ => exact wJ_2_2_2
    | 3, _ => exact wJ_2_2_3
    | 4, _ => exact wJ_2_2_4
    | 5, _ => exact wJ_2_2_5
    | 6, _ => exact wJ_2_2_6
    | 7, _ => exact wJ_2_2_7
    | 8, _ => exact wJ_2_2_8
    | 9, _ => exact wJ_2_2_9
    | 10, _ => exact wJ_2_2_10
    | 11, _ => exact wJ_2_2_11
    | 12, _ => exact wJ_2_2_12
    | 13, _ => exact wJ_2_2_13
    | 14, _ => exact wJ_2_2_14
    | 15, _ => exact wJ_2_2_15
    | n + 16, h => exact absurd h (by omega)
  | 3, _ =>
    match v, hv with
    | 0, _ => exact wJ_2_3_0
    | 1, _ => exact wJ_2_3_1
    | 2, _ => exact wJ_2_3_2
    | 3, _ => exact wJ_2_3_3
    | 4, _ => exact wJ_2_3_4
    | 5, _ => exact wJ_2_3_5
    | 6, _ => exact wJ_2_3_6
    | 7, _ => exact wJ_2_3_7
    | 8, _ => exact wJ_2_3_8
    | 9, _ => exact wJ_2_3_9
    | 10, _ => exact wJ_2_3_10
    | 11, _ => exact wJ_2_3_11
    | 12, _ => exact wJ_2_3_12
    | 13, _ => exact wJ_2_3_13
    | 14, _ => exact wJ_2_3_14
    | 15, _ => exact wJ_2_3_15
    | n + 16, h => exact absurd h (by omega)
  | 4, _ =>
    match v, hv with
    | 0, _ => exact wJ_2_4_0
    | 1, _ => exact wJ_2_4_1
    | 2, _ => exact wJ_2_4_2
    | 3, _ => exact wJ_2_4_3
    | 4, _ => exact wJ_2_4_4
    | 5, _ => exact wJ_2_4_5
    | 6, _ => exact wJ_2_4_6
    | 7, _ => exact wJ_2_4_7
    | 8, _ => exact wJ_2_4_8
    | 9, _ => exact wJ_2_4_9
    | 10, _ => exact wJ_2_4_10
    | 11, _ => exact wJ_2_4_11
    | 12, _ => exact wJ_2_4_12
    | 13, _ => exact wJ_2_4_13
    | 14, _ => exact wJ_2_4_14
    | 15, _ => exact wJ_2_4_15
    | n + 16, h => exact absurd h (by omega)
theorem okJ3 {k v : Nat} (hk : k < 5) (hv : v < 16) : OKJ 3 k v := by
  match k, hk with
  | 0, _ =>
    match v, hv with
    | 0, _ => exact wJ_3_0_0
    | 1, _ => exact wJ_3_0_1
    | 2, _ => exact wJ_3_0_2
    | 3, _ => exact wJ_3_0_3
    | 4, _ => exact wJ_3_0_4
    | 5, _ => exact wJ_3_0_5
    | 6, _ => exact wJ_3_0_6
    | 7, _ => exact wJ_3_0_7
    | 8, _ => exact wJ_3_0_8
    | 9, _ => exact wJ_3_0_9
    | 10, _ => exact wJ_3_0_10
    | 11, _ => exact wJ_3_0_11
    | 12, _ => exact wJ_3_0_12
    | 13, _ => exact wJ_3_0_13
    | 14, _ => exact wJ_3_0_14
    | 15, _ => exact wJ_3_0_15
    | n + 16, h => exact absurd h (by omega)
  | 1, _ =>
    match v, hv with
    | 0, _ => exact wJ_3_1_0
    | 1, _ => exact wJ_3_1_1
    | 2, _ => exact wJ_3_1_2
    | 3, _ => exact wJ_3_1_3
    | 4, _ => exact wJ_3_1_4
    | 5, _ => exact wJ_3_1_5
    | 6, _ => exact wJ_3_1_6
    | 7, _ => exact wJ_3_1_7
    | 8, _ => exact wJ_3_1_8
    | 9, _ => exact wJ_3_1_9
    | 10, _ => exact wJ_3_1_10
    | 11, _ => exact wJ_3_1_11
    | 12, _ => exact wJ_3_1_12
    | 13, _ => exact wJ_3_1_13
    | 14, _ => exact wJ_3_1_14
    | 15, _ => exact wJ_3_1_15
    | n + 16, h => exact absurd h (by omega)
  | 2, _ =>
    match v, hv with
    | 0, _ => exact wJ_3_2_0
    | 1, _ => exact wJ_3_2_1
    | 2, _ => exact wJ_3_2_2
    | 3, _ => exact wJ_3_2_3
    | 4, _ => exact wJ_3_2_4
    | 5, _ => exact wJ_3_2_5
    | 6, _ => exact wJ_3_2_6
    | 7, _ => exact wJ_3_2_7
    | 8, _ => exact wJ_3_2_8
    | 9, _ => exact wJ_3_2_9
    | 10, _ => exact wJ_3_2_10
    | 11, _ => exact wJ_3_2_11
    | 12, _ => exact wJ_3_2_12
    | 13, _ => exact wJ_3_2_13
    | 14, _ => exact wJ_3_2_14
    | 15, _ => exact wJ_3_2_15
    | n + 16, h => exact absurd h (by omega)
  | 3, _ =>
    match v, hv with
    | 0, _ => exact wJ_3_3_0
    | 1, _ => exact wJ_3_3_1
    | 2, _ => exact wJ_3_3_2
    | 3, _ => exact wJ_3_3_3
    | 4, _ => exact wJ_3_3_4
    | 5, _ => exact wJ_3_3_5
    | 6, _ => exact wJ_3_3_6
    | 7, _ => exact wJ_3_3_7
    | 8, _ => exact wJ_3_3_8
    | 9, _ => exact wJ_3_3_9
    | 10, _ => exact wJ_3_3_10
    | 11, _ => exact wJ_3_3_11
    | 12, _ => exact wJ_3_3_12
    | 13, _ => exact wJ_3_3_13
    | 14, _ => exact wJ_3_3_14
    | 15, _ => exact wJ_3_3_15
    | n + 16, h => exact absurd h (by omega)
  | 4, _ =>
    match v, hv with
    | 0, _ => exact wJ_3_4_0
    | 1, _ => exact wJ_3_4_1
    | 2, _ => exact wJ_3_4_2
    | 3, _ => exact wJ_3_4_3
    | 4, _ => exact wJ_3_4_4
    | 5, _ => exact wJ_3_4_5
    | 6, _ => exact wJ_3_4_6
    | 7, _ => exact wJ_3_4_7
    | 8, _ => exact wJ_3_4_8
    | 9, _ => exact wJ_3_4_9
    | 10, _ => exact wJ_3_4_10
    | 11, _ => exact wJ_3_4_11
    | 12, _ => exact wJ_3_4_12
    | 13, _ => exact wJ_3_4_13
    | 14, _ => exact wJ_3_4_14
    | 15, _ => exact wJ_3_4_15
    | n + 16, h => exact absurd h (by omega)
theorem okJ4 {k v : Nat} (hk : k < 5) (hv : v < 16) : OKJ 4 k v := by
  match k, hk with
  | 0, _ =>
    match v, hv with
    | 0, _ => exact wJ_4_0_0
    | 1, _ => exact wJ_4_0_1
    | 2, _ => exact wJ_4_0_2
    | 3, _ => exact wJ_4_0_3
    | 4, _ => exact wJ_4_0_4
    | 5, _ => exact wJ_4_0_5
    | 6, _ => exact wJ_4_0_6
    | 7, _ => exact wJ_4_0_7
    | 8, _ => exact wJ_4_0_8
    | 9, _ => exact wJ_4_0_9
    | 10, _ => exact wJ_4_0_10
    | 11, _ => exact wJ_4_0_11
    | 12, _ => exact wJ_4_0_12
    | 13, _ => exact wJ_4_0_13
    | 14, _ => exact wJ_4_0_14
    | 15, _ => exact wJ_4_0_15
    | n + 16, h => exact absurd h (by omega)
  | 1, _ =>
    match v, hv with
    | 0, _ => exact wJ_4_1_0
    | 1, _ => exact wJ_4_1_1
    | 2, _ => exact wJ_4_1_2
    | 3, _ => exact wJ_4_1_3
    | 4, _ => exact wJ_4_1_4
    | 5, _ => exact wJ_4_1_5
    | 6, _ => exact wJ_4_1_6
    | 7, _ => exact wJ_4_1_7
    | 8, _ => exact wJ_4_1_8
    | 9, _ => exact wJ_4_1_9
    | 10, _ => exact wJ_4_1_10
    | 11, _ => exact wJ_4_1_11
    | 12, _ => exact wJ_4_1_12
    | 13, _ => exact wJ_4_1_13
    | 14, _ => exact wJ_4_1_14
    | 15, _ => exact wJ_4_1_15
    | n + 16, h => exact absurd h (by omega)
  | 2, _ =>
    match v, hv with
    | 0, _ => exact wJ_4_2_0
    | 1, _ => exact wJ_4_2_1
    | 2, _ => exact wJ_4_2_2
    | 3, _ => exact wJ_4_2_3
    | 4, _ => exact wJ_4_2_4
    | 5, _ => exact wJ_4_2_5
    | 6, _ => exact wJ_4_2_6
    | 7, _ => exact wJ_4_2_7
    | 8, _ => exact wJ_4_2_8
    | 9, _ => exact wJ_4_2_9
    | 10, _ => exact wJ_4_2_10
    | 11, _ => exact wJ_4_2_11
    | 12, _ => exact wJ_4_2_12
    | 13, _ => exact wJ_4_2_13
    | 14, _ => exact wJ_4_2_14
    | 15, _ => exact wJ_4_2_15
    | n + 16, h => exact absurd h (by omega)
  | 3, _ =>
    match v, hv with
    | 0, _ => exact wJ_4_3_0
    | 1, _ => exact wJ_4_3_1
    | 2, _ => exact wJ_4_3_2
    | 3, _ => exact wJ_4_3_3
    | 4, _ => exact wJ_4_3_4
    | 5, _ => exact wJ_4_3_5
    | 6, _ => exact wJ_4_3_6
    | 7, _ => exact wJ_4_3_7
    | 8, _ => exact wJ_4_3_8
    | 9, _ => exact wJ_4_3_9
    | 10, _ => exact wJ_4_3_10
    | 11, _ => exact wJ_4_3_11
    | 12, _ => exact wJ_4_3_12
    | 13, _ => exact wJ_4_3_13
    | 14, _ => exact wJ_4_3_14
    | 15, _ => exact wJ_4_3_15
    | n + 16, h => exact absurd h (by omega)
  | 4, _ =>
    match v, hv with
    | 0, _ => exact wJ_4_4_0
    | 1, _ => exact wJ_4_4_1
    | 2, _ => exact wJ_4_4_2
    | 3, _ => exact wJ_4_4_3
    | 4, _ => exact wJ_4_4_4
    | 5, _ => exact wJ_4_4_5
    | 6, _ => exact wJ_4_4_6
    | 7, _ => exact wJ_4_4_7
    | 8, _ => exact wJ_4_4_8
    | 9, _ => exact wJ_4_4_9
    | 10, _ => exact wJ_4_4_10
    | 11, _ => exact wJ_4_4_11
    | 12, _ => exact wJ_4_4_12
    | 13, _ => exact wJ_4_4_13
    | 14, _ => exact wJ_4_4_14
    | 15, _ => exact wJ_4_4_15
    | n + 16, h => exact absurd h (by omega)
theorem okJ5 {k v : Nat} (hk : k < 5) (hv : v < 16) : OKJ 5 k v := by
  match k, hk with
  | 0, _ =>
    match v, hv with
    | 0, _ => exact wJ_5_0_0
    | 1, _ => exact wJ_5_0_1
    | 2, _ => exact wJ_5_0_2
    | 3, _ => exact wJ_5_0_3
    | 4, _ => exact wJ_5_0_4
    | 5, _ => exact wJ_5_0_5
    | 6, _ => exact wJ_5_0_6
    | 7, _ => exact wJ_5_0_7
    | 8, _ => exact wJ_5_0_8
    | 9, _ => exact wJ_5_0_9
    | 10, _ => exact wJ_5_0_10
    | 11, _ => exact wJ_5_0_11
    | 12, _ => exact wJ_5_0_12
    | 13, _ => exact wJ_5_0_13
    | 14, _ => exact wJ_5_0_14
    | 15, _ => exact wJ_5_0_15
    | n + 16, h => exact absurd h (by omega)
  | 1, _ =>
    match v, hv with
    | 0, _ => exact wJ_5_1_0
    | 1, _ => exact wJ_5_1_1
    | 2, _ => exact wJ_5_1_2
    | 3, _ => exact wJ_5_1_3
    | 4, _ => exact wJ_5_1_4
    | 5, _ => exact wJ_5_1_5
    | 6, _ => exact wJ_5_1_6
    | 7, _ => exact wJ_5_1_7
    | 8, _ => exact wJ_5_1_8
    | 9, _ => exact wJ_5_1_9
    | 10, _ => exact wJ_5_1_10
    | 11, _ => exact wJ_5_1_11
    | 12, _ => exact wJ_5_1_12
    | 13, _ => exact wJ_5_1_13
    | 14, _ => exact wJ_5_1_14
    | 15, _ => exact wJ_5_1_15
    | n + 16, h => exact absurd h (by omega)
  | 2, _ =>
    match v, hv with
    | 0, _ => exact wJ_5_2_0
    | 1, _ => exact wJ_5_2_1
    | 2, _ => exact wJ_5_2_2
    | 3, _ => exact wJ_5_2_3
    | 4, _ => exact wJ_5_2_4
    | 5, _ => exact wJ_5_2_5
    | 6, _ => exact wJ_5_2_6
    | 7, _ => exact wJ_5_2_7
    | 8, _ => exact wJ_5_2_8
    | 9, _ => exact wJ_5_2_9
    | 10, _ => exact wJ_5_2_10
    | 11, _ => exact wJ_5_2_11
    | 12, _ => exact wJ_5_2_12
    | 13, _ => exact wJ_5_2_13
    | 14, _ => exact wJ_5_2_14
    | 15, _ => exact wJ_5_2_15
    | n + 16, h => exact absurd h (by omega)
  | 3, _ =>
    match v, hv with
    | 0, _ => exact wJ_5_3_0
    | 1, _ => exact wJ_5_3_1
    | 2, _ => exact wJ_5_3_2
    | 3, _ => exact wJ_5_3_3
    | 4, _ => exact wJ_5_3_4
    | 5, _ => exact wJ_5_3_5
    | 6, _ => exact wJ_5_3_6
    | 7, _ => exact wJ_5_3_7
    | 8, _ => exact wJ_5_3_8
    | 9, _ => exact wJ_5_3_9
    | 10, _ => exact wJ_5_3_10
    | 11, _ => exact wJ_5_3_11
    | 12, _ => exact wJ_5_3_12
    | 13, _ => exact wJ_5_3_13
    | 14, _ => exact wJ_5_3_14
    | 15, _ => exact wJ_5_3_15
    | n + 16, h => exact absurd h (by omega)
  | 4, _ =>
    match v, hv with
    | 0, _ => exact wJ_5_4_0
    | 1, _ => exact wJ_5_4_1
    | 2, _ => exact wJ_5_4_2
    | 3, _ => exact wJ_5_4_3
    | 4, _ => exact wJ_5_4_4
    | 5, _ => exact wJ_5_4_5
    | 6, _ => exact wJ_5_4_6
    | 7, _ => exact wJ_5_4_7
    | 8, _ => exact wJ_5_4_8
    | 9, _ => exact wJ_5_4_9
    | 10, _ => exact wJ_5_4_10
    | 11, _ => exact wJ_5_4_11
    | 12, _ => exact wJ_5_4_12
    | 13, _ => exact wJ_5_4_13
    | 14, _ => exact wJ_5_4_14
    | 15, _ => exact wJ_5_4_15
    | n + 16, h => exact absurd h (by omega)
theorem ok5 {k v : Nat} (hk : k < 5) (hv : v < 16) : OK5 k v := by
  match k, hk with
  | 0, _ =>
    match v, hv with
    | 0, _ => exact w5_0_0
    | 1, _ => exact w5_0_1
    | 2, _ => exact w5_0_2
    | 3, _ => exact w5_0_3
    | 4, _ => exact w5_0_4
    | 5, _ => exact w5_0_5
    | 6, _ => exact w5_0_6
    | 7, _ => exact w5_0_7
    | 8, _ => exact w5_0_8
    | 9, _ => exact w5_0_9
    | 10, _ => exact w5_0_10
    | 11, _ => exact w5_0_11
    | 12, _ => exact w5_0_12
    | 13, _ => exact w5_0_13
    | 14, _ => exact w5_0_14
    | 15, _ => exact w5_0_15
    | n + 16, h => exact absurd h (by omega)
  | 1, _ =>
    match v, hv with
    | 0, _ => exact w5_1_0
    | 1, _ => exact w5_1_1
    | 2, _ => exact w5_1_2
    | 3, _ => exact w5_1_3
    | 4, _ => exact w5_1_4
    | 5, _ => exact w5_1_5
    | 6, _ => exact w5_1_6
    | 7, _ => exact w5_1_7
    | 8, _ => exact w5_1_8
    | 9, _ => exact w5_1_9
    | 10, _ => exact w5_1_10
    | 11, _ => exact w5_1_11
    | 12, _ => exact w5_1_12
    | 13, _ => exact w5_1_13
    | 14, _ => exact w5_1_14
    | 15, _ => exact w5_1_15
    | n + 16, h => exact absurd h (by omega)
  | 2, _ =>
    match v, hv with
    | 0, _ => exact w5_2_0
    | 1, _ => exact w5_2_1
    | 2, _ => exact w5_2_2
    | 3, _ => exact w5_2_3
    | 4, _ => exact w5_2_4
    | 5, _ => exact w5_2_5
    | 6, _ => exact w5_2_6
    | 7, _ => exact w5_2_7
    | 8, _ => exact w5_2_8
    | 9, _ => exact w5_2_9
    | 10, _ => exact w5_2_10
    | 11, _ => exact w5_2_11
    | 12, _ => exact w5_2_12
    | 13, _ => exact w5_2_13
    | 14, _ => exact w5_2_14
    | 15, _ => exact w5_2_15
    | n + 16, h => exact absurd h (by omega)
  | 3, _ =>
    match v, hv with
    | 0, _ => exact w5_3_0
    | 1, _ => exact w5_3_1
    | 2, _ => exact w5_3_2
    | 3, _ => exact w5_3_3
    | 4, _ => exact w5_3_4
    | 5, _ => exact w5_3_5
    | 6, _ => exact w5_3_6
    | 7, _ => exact w5_3_7
    | 8, _ => exact w5_3_8
    | 9, _ => exact w5_3_9
    | 10, _ => exact w5_3_10
    | 11, _ => exact w5_3_11
    | 12, _ => exact w5_3_12
    | 13, _ => exact w5_3_13
    | 14, _ => exact w5_3_14
    | 15, _ => exact w5_3_15
    | n + 16, h => exact absurd h (by omega)
  | 4, _ =>
    match v, hv with
    | 0, _ => exact w5_4_0
    | 1, _ => exact w5_4_1
    | 2, _ => exact w5_4_2
    | 3, _ => exact w5_4_3
    | 4, _ => exact w5_4_4
    | 5, _ => exact w5_4_5
    | 6, _ => exact w5_4_6
    | 7, _ => exact w5_4_7
    | 8, _ => exact w5_4_8
    | 9, _ => exact w5_4_9
    | 10, _ => exact w5_4_10
    | 11, _ => exact w5_4_11
    | 12, _ => exact w5_4_12
    | 13, _ => exact w5_4_13
    | 14, _ => exact w5_4_14
    | 15, _ => exact w5_4_15
    | n + 16, h => exact absurd h (by omega)
theorem ok7 {k v : Nat} (hk : k < 5) (hv : v < 16) : OK7 k v := by
  match k, hk with
  | 0, _ =>
    match v, hv with
    | 0, _ => exact w7_0_0
    | 1, _ => exact w7_0_1
    | 2, _ => exact w7_0_2
    | 3, _ => exact w7_0_3
    | 4, _ => exact w7_0_4
    | 5, _ => exact w7_0_5
    | 6, _ => exact w7_0_6
    | 7, _ => exact w7_0_7
    | 8, _ => exact w7_0_8
    | 9, _ => exact w7_0_9
    | 10, _ => exact w7_0_10
    | 11, _ => exact w7_0_11
    | 12, _ => exact w7_0_12
    | 13, _ => exact w7_0_13
    | 14, _ => exact w7_0_14
    | 15, _ => exact w7_0_15
    | n + 16, h => exact absurd h (by omega)
  | 1, _ =>
    match v, hv with
    | 0, _ => exact w7_1_0
    | 1, _ => exact w7_1_1
    | 2, _ => exact w7_1_2
    | 3, _ => exact w7_1_3
    | 4, _ => exact w7_1_4
    | 5, _ => exact w7_1_5
    | 6, _ => exact w7_1_6
    | 7, _ => exact w7_1_7
    | 8, _ => exact w7_1_8
    | 9, _ => exact w7_1_9
    | 10, _ => exact w7_1_10
    | 11, _ => exact w7_1_11
    | 12, _ => exact w7_1_12
    | 13, _ => exact w7_1_13
    | 14, _ => exact w7_1_14
    | 15, _ => exact w7_1_15
    | n + 16, h => exact absurd h (by omega)
  | 2, _ =>
    match v, hv with
    | 0, _ => exact w7_2_0
    | 1, _ => exact w7_2_1
    | 2, _ => exact w7_2_2
    | 3, _ => exact w7_2_3
    | 4, _ => exact w7_2_4
    | 5, _ => exact w7_2_5
    | 6, _ => exact w7_2_6
    | 7, _ => exact w7_2_7
    | 8, _ => exact w7_2_8
    | 9, _ => exact w7_2_9
    | 10, _ => exact w7_2_10
    | 11, _ => exact w7_2_11
    | 12, _ => exact w7_2_12
    | 13, _ => exact w7_2_13
    | 14, _ => exact w7_2_14
    | 15, _ => exact w7_2_15
    | n + 16, h => exact absurd h (by omega)
  | 3, _ =>
    match v, hv with
    | 0, _ => exact w7_3_0
    | 1, _ => exact w7_3_1
    | 2, _ => exact w7_3_2
    | 3, _ => exact w7_3_3
    | 4, _ => exact w7_3_4
    | 5, _ => exact w7_3_5
    | 6, _ => exact w7_3_6
    | 7, _ => exact w7_3_7
    | 8, _ => exact w7_3_8
    | 9, _ => exact w7_3_9
    | 10, _ => exact w7_3_10
    | 11, _ => exact w7_3_11
    | 12, _ => exact w7_3_12
    | 13, _ => exact w7_3_13
    | 14, _ => exact w7_3_14
    | 15, _ => exact w7_3_15
    | n + 16, h => exact absurd h (by omega)
  | 4, _ =>
    match v, hv with
    | 0, _ => exact w7_4_0
    | 1, _ => exact w7_4_1
    | 2, _ => exact w7_4_2
    | 3, _ => exact w7_4_3
    | 4, _ => exact w7_4_4
    | 5, _ => exact w7_4_5
    | 6, _ => exact w7_4_6
    | 7, _ => exact w7_4_7
    | 8, _ => exact w7_4_8
    | 9, _ => exact w7_4_9
    | 10, _ => exact w7_4_10
    | 11, _ => exact w7_4_11
    | 12, _ => exact w7_4_12
    | 13, _ => exact w7_4_13
    | 14, _ => exact w7_4_14
    | 15, _ => exact w7_4_15
    | n + 16, h => exact absurd h (by omega)
theorem okJ {r k v : Nat} (hr : r < 6) (hk : k < 5) (hv : v < 16) : OKJ r k v := by
  match r, hr with
  | 0, _ => exact okJ0 hk hv
  | 1, _ => exact okJ1 hk hv
  | 2, _ => exact okJ2 hk hv
  | 3, _ => exact okJ3 hk hv
  | 4, _ => exact okJ4 hk hv
  | 5, _ => exact okJ5 hk hv

/-! ===== every word of the program is one of the tables'; and what else stands there ===== -/
theorem nth_mem {α : Type} {l : List α} {n : Nat} {a : α} (h : nth l n = some a) : a ∈ l := by
  rw [nth_eq] at h
  exact List.mem_of_getElem? h
theorem dch0 {α : Type} {A : List α} : ∀ l ∈ [A], ∀ w ∈ l, w ∈ A := fun l hl w hw => by
  rw [List.mem_singleton.mp hl] at hw
  exact hw
theorem dch1 {α : Type} {A T : List α} {L : List (List α)} (h : ∀ l ∈ L, ∀ w ∈ l, w ∈ T) : ∀ l ∈ A :: L, ∀ w ∈ l, w ∈ A ++ T := fun l hl w hw => by
  rcases List.mem_cons.mp hl with rfl | hl
  · exact List.mem_append_left _ hw
  · exact List.mem_append_right _ (h l hl w hw)
theorem dTch_mem : ∀ l ∈ [tables_1_1, tables_1_2, tables_1_3, tables_1_4, tables_1_5, tables_1_6, tables_1_7, tables_1_8, tables_1_9, tables_1_10, tables_1_11, tables_1_12, tables_1_13, tables_1_14, tables_1_15], ∀ w ∈ l, w ∈ tables_1_1 ++ (tables_1_2 ++ (tables_1_3 ++ (tables_1_4 ++ (tables_1_5 ++ (tables_1_6 ++ (tables_1_7 ++ (tables_1_8 ++ (tables_1_9 ++ (tables_1_10 ++ (tables_1_11 ++ (tables_1_12 ++ (tables_1_13 ++ (tables_1_14 ++ (tables_1_15)))))))))))))) := dch1 (dch1 (dch1 (dch1 (dch1 (dch1 (dch1 (dch1 (dch1 (dch1 (dch1 (dch1 (dch1 (dch1 (dch0))))))))))))))
theorem dTpr_mem : ∀ l ∈ [lw_privs_1, lw_privs_2, lw_privs_3, lw_privs_4, lw_privs_5, lw_privs_6, lw_privs_7, lw_privs_8, lw_privs_9, lw_privs_10, lw_privs_11, lw_privs_12, lw_privs_13, lw_privs_14, lw_privs_15, lw_privs_16, lw_privs_17, lw_privs_18, lw_privs_19, lw_privs_20, lw_privs_21, lw_privs_22, lw_privs_23], ∀ w ∈ l, w ∈ lw_privs_1 ++ (lw_privs_2 ++ (lw_privs_3 ++ (lw_privs_4 ++ (lw_privs_5 ++ (lw_privs_6 ++ (lw_privs_7 ++ (lw_privs_8 ++ (lw_privs_9 ++ (lw_privs_10 ++ (lw_privs_11 ++ (lw_privs_12 ++ (lw_privs_13 ++ (lw_privs_14 ++ (lw_privs_15 ++ (lw_privs_16 ++ (lw_privs_17 ++ (lw_privs_18 ++ (lw_privs_19 ++ (lw_privs_20 ++ (lw_privs_21 ++ (lw_privs_22 ++ (lw_privs_23)))))))))))))))))))))) := dch1 (dch1 (dch1 (dch1 (dch1 (dch1 (dch1 (dch1 (dch1 (dch1 (dch1 (dch1 (dch1 (dch1 (dch1 (dch1 (dch1 (dch1 (dch1 (dch1 (dch1 (dch1 (dch0))))))))))))))))))))))
theorem dTf_mem {q : Nat × Nat} {w : Cond} (h : dTf q = some w) : w ∈ lw_tbl := by
  unfold dTf at h
  cases hb : Nat.blt q.1 100 with
  | true =>
    rw [hb] at h
    have h : dTat q.1 q.2 = some w := h
    unfold dTat at h
    cases e : nth dTch q.1 with
    | none => rw [e] at h; cases h
    | some l =>
      rw [e] at h
      exact List.mem_append_right _ (dTch_mem l (nth_mem e) w (nth_mem h))
  | false =>
    rw [hb] at h
    have h : (match dTap (Nat.sub q.1 100) q.2 with
      | some y => some (Cond.selects y.1.cls y.1 y.1)
      | none => none) = some w := h
    cases e : dTap (Nat.sub q.1 100) q.2 with
    | none => rw [e] at h; cases h
    | some y =>
      rw [e] at h
      cases h
      unfold dTap at e
      cases e2 : nth dTpr (Nat.sub q.1 100) with
      | none => rw [e2] at e; cases e
      | some l =>
        rw [e2] at e
        exact List.mem_append_left _ (List.mem_map.mpr ⟨y, dTpr_mem l (nth_mem e2) y (nth_mem e), rfl⟩)
theorem dTk_mem {l : List Cond} {ps : List (Nat × Nat)} (h : l.map some = ps.map dTf) : ∀ w ∈ l, w ∈ lw_tbl := by
  intro w hw
  have h1 : some w ∈ ps.map dTf := h ▸ List.mem_map.mpr ⟨w, hw, rfl⟩
  obtain ⟨q, -, hq⟩ := List.mem_map.mp h1
  exact dTf_mem hq
theorem dst {T : List Cond} {n : Nat} (h1 : ∀ w ∈ (T.drop n).take 100, w ∈ lw_tbl) (h2 : ∀ w ∈ T.drop (n + 100), w ∈ lw_tbl) : ∀ w ∈ T.drop n, w ∈ lw_tbl := by
  intro w hw
  rw [← List.take_append_drop 100 (T.drop n), List.drop_drop] at hw
  rcases List.mem_append.mp hw with h | h
  · exact h1 w h
  · exact h2 w h
theorem dTb_37 : ∀ w ∈ dTB.drop 3700, w ∈ lw_tbl := dst (n := 3700) (dTk_mem dTk_37) (fun w (hw : w ∈ dTB.drop 3800) => by rw [dTk_end] at hw; exact absurd hw List.not_mem_nil)
theorem dTb_36 : ∀ w ∈ dTB.drop 3600, w ∈ lw_tbl := dst (n := 3600) (dTk_mem dTk_36) dTb_37
theorem dTb_35 : ∀ w ∈ dTB.drop 3500, w ∈ lw_tbl := dst (n := 3500) (dTk_mem dTk_35) dTb_36
theorem dTb_34 : ∀ w ∈ dTB.drop 3400, w ∈ lw_tbl := dst (n := 3400) (dTk_mem dTk_34) dTb_35
theorem dTb_33 : ∀ w ∈ dTB.drop 3300, w ∈ lw_tbl := dst (n := 3300) (dTk_mem dTk_33) dTb_34
theorem dTb_32 : ∀ w ∈ dTB.drop 3200, w ∈ lw_tbl := dst (n := 3200) (dTk_mem dTk_32) dTb_33
theorem dTb_31 : ∀ w ∈ dTB.drop 3100, w ∈ lw_tbl := dst (n := 3100) (dTk_mem dTk_31) dTb_32
theorem dTb_30 : ∀ w ∈ dTB.drop 3000, w ∈ lw_tbl := dst (n := 3000) (dTk_mem dTk_30) dTb_31
theorem dTb_29 : ∀ w ∈ dTB.drop 2900, w ∈ lw_tbl := dst (n := 2900) (dTk_mem dTk_29) dTb_30
theorem dTb_28 : ∀ w ∈ dTB.drop 2800, w ∈ lw_tbl := dst (n := 2800) (dTk_mem dTk_28) dTb_29
theorem dTb_27 : ∀ w ∈ dTB.drop 2700, w ∈ lw_tbl := dst (n := 2700) (dTk_mem dTk_27) dTb_28
theorem dTb_26 : ∀ w ∈ dTB.drop 2600, w ∈ lw_tbl := dst (n := 2600) (dTk_mem dTk_26) dTb_27
theorem dTb_25 : ∀ w ∈ dTB.drop 2500, w ∈ lw_tbl := dst (n := 2500) (dTk_mem dTk_25) dTb_26
theorem dTb_24 : ∀ w ∈ dTB.drop 2400, w ∈ lw_tbl := dst (n := 2400) (dTk_mem dTk_24) dTb_25
theorem dTb_23 : ∀ w ∈ dTB.drop 2300, w ∈ lw_tbl := dst (n := 2300) (dTk_mem dTk_23) dTb_24
theorem dTb_22 : ∀ w ∈ dTB.drop 2200, w ∈ lw_tbl := dst (n := 2200) (dTk_mem dTk_22) dTb_23
theorem dTb_21 : ∀ w ∈ dTB.drop 2100, w ∈ lw_tbl := dst (n := 2100) (dTk_mem dTk_21) dTb_22
theorem dTb_20 : ∀ w ∈ dTB.drop 2000, w ∈ lw_tbl := dst (n := 2000) (dTk_mem dTk_20) dTb_21
theorem dTb_19 : ∀ w ∈ dTB.drop 1900, w ∈ lw_tbl := dst (n := 1900) (dTk_mem dTk_19) dTb_20
theorem dTb_18 : ∀ w ∈ dTB.drop 1800, w ∈ lw_tbl := dst (n := 1800) (dTk_mem dTk_18) dTb_19
theorem dTb_17 : ∀ w ∈ dTB.drop 1700, w ∈ lw_tbl := dst (n := 1700) (dTk_mem dTk_17) dTb_18
theorem dTb_16 : ∀ w ∈ dTB.drop 1600, w ∈ lw_tbl := dst (n := 1600) (dTk_mem dTk_16) dTb_17
theorem dTb_15 : ∀ w ∈ dTB.drop 1500, w ∈ lw_tbl := dst (n := 1500) (dTk_mem dTk_15) dTb_16
theorem dTb_14 : ∀ w ∈ dTB.drop 1400, w ∈ lw_tbl := dst (n := 1400) (dTk_mem dTk_14) dTb_15
theorem dTb_13 : ∀ w ∈ dTB.drop 1300, w ∈ lw_tbl := dst (n := 1300) (dTk_mem dTk_13) dTb_14
theorem dTb_12 : ∀ w ∈ dTB.drop 1200, w ∈ lw_tbl := dst (n := 1200) (dTk_mem dTk_12) dTb_13
theorem dTb_11 : ∀ w ∈ dTB.drop 1100, w ∈ lw_tbl := dst (n := 1100) (dTk_mem dTk_11) dTb_12
theorem dTb_10 : ∀ w ∈ dTB.drop 1000, w ∈ lw_tbl := dst (n := 1000) (dTk_mem dTk_10) dTb_11
theorem dTb_9 : ∀ w ∈ dTB.drop 900, w ∈ lw_tbl := dst (n := 900) (dTk_mem dTk_9) dTb_10
theorem dTb_8 : ∀ w ∈ dTB.drop 800, w ∈ lw_tbl := dst (n := 800) (dTk_mem dTk_8) dTb_9
theorem dTb_7 : ∀ w ∈ dTB.drop 700, w ∈ lw_tbl := dst (n := 700) (dTk_mem dTk_7) dTb_8
theorem dTb_6 : ∀ w ∈ dTB.drop 600, w ∈ lw_tbl := dst (n := 600) (dTk_mem dTk_6) dTb_7
theorem dTb_5 : ∀ w ∈ dTB.drop 500, w ∈ lw_tbl := dst (n := 500) (dTk_mem dTk_5) dTb_6
theorem dTb_4 : ∀ w ∈ dTB.drop 400, w ∈ lw_tbl := dst (n := 400) (dTk_mem dTk_4) dTb_5
theorem dTb_3 : ∀ w ∈ dTB.drop 300, w ∈ lw_tbl := dst (n := 300) (dTk_mem dTk_3) dTb_4
theorem dTb_2 : ∀ w ∈ dTB.drop 200, w ∈ lw_tbl := dst (n := 200) (dTk_mem dTk_2) dTb_3
theorem dTb_1 : ∀ w ∈ dTB.drop 100, w ∈ lw_tbl := dst (n := 100) (dTk_mem dTk_1) dTb_2
theorem dTb_0 : ∀ w ∈ dTB.drop 0, w ∈ lw_tbl := dst (n := 0) (dTk_mem dTk_0) dTb_1
theorem dTB_tbl : ∀ w ∈ dTB, w ∈ lw_tbl := fun w hw => dTb_0 w (by rw [List.drop_zero]; exact hw)
def dNp_0 : List (Nat × Nat) := [(4, 96), (4, 122), (5, 180), (5, 174), (6, 145), (6, 150), (6, 140), (6, 115), (6, 120), (6, 144), (6, 143), (6, 221), (8, 7), (8, 28), (8, 52), (7, 40), (7, 43), (7, 84), (7, 129), (7, 130)]
set_option maxRecDepth 100000 in
theorem dNk_0 : (((dNT.drop 0).take 20).map fun e => some (Cond.methodLinkNest (cR e.1) e.2.1 (dNm e.2.2) "ItemJudge")) = dNp_0.map dTf := by rfl
def dNp_1 : List (Nat × Nat) := [(5, 113), (5, 118), (6, 74), (7, 33), (3, 207), (3, 232), (3, 235), (3, 198), (4, 105), (7, 208), (5, 29), (4, 68), (4, 69), (3, 25), (3, 49), (3, 52), (3, 118), (4, 148), (4, 202), (8, 194)]
set_option maxRecDepth 100000 in
theorem dNk_1 : (((dNT.drop 20).take 20).map fun e => some (Cond.methodLinkNest (cR e.1) e.2.1 (dNm e.2.2) "ItemJudge")) = dNp_1.map dTf := by rfl
def dNp_2 : List (Nat × Nat) := [(8, 158), (8, 80), (8, 81), (8, 184)]
set_option maxRecDepth 100000 in
theorem dNk_2 : (((dNT.drop 40).take 20).map fun e => some (Cond.methodLinkNest (cR e.1) e.2.1 (dNm e.2.2) "ItemJudge")) = dNp_2.map dTf := by rfl
theorem dNk_mem {l : List (Nat × Nat × Nat)} {ps : List (Nat × Nat)} (h : (l.map fun e => some (Cond.methodLinkNest (cR e.1) e.2.1 (dNm e.2.2) "ItemJudge")) = ps.map dTf) : ∀ e ∈ l, Cond.methodLinkNest (cR e.1) e.2.1 (dNm e.2.2) "ItemJudge" ∈ lw_tbl := by
  intro e he
  have h1 : some (Cond.methodLinkNest (cR e.1) e.2.1 (dNm e.2.2) "ItemJudge") ∈ ps.map dTf := h ▸ List.mem_map.mpr ⟨e, he, rfl⟩
  obtain ⟨q, -, hq⟩ := List.mem_map.mp h1
  exact dTf_mem hq
theorem dNst {T : List (Nat × Nat × Nat)} {P : Nat × Nat × Nat → Prop} {n : Nat} (k : Nat) (h1 : ∀ w ∈ (T.drop n).take k, P w) (h2 : ∀ w ∈ T.drop (n + k), P w) : ∀ w ∈ T.drop n, P w := by
  intro w hw
  rw [← List.take_append_drop k (T.drop n), List.drop_drop] at hw
  rcases List.mem_append.mp hw with h | h
  · exact h1 w h
  · exact h2 w h
theorem dNk_end : dNT.drop 60 = [] := List.drop_eq_nil_of_le (by decide +kernel)
theorem dNT_tbl : ∀ e ∈ dNT, Cond.methodLinkNest (cR e.1) e.2.1 (dNm e.2.2) "ItemJudge" ∈ lw_tbl := fun e he => (dNst (T := dNT) (n := 0) 20 (dNk_mem dNk_0) (dNst (T := dNT) (n := 20) 20 (dNk_mem dNk_1) (dNst (T := dNT) (n := 40) 20 (dNk_mem dNk_2) (fun w (hw : w ∈ dNT.drop 60) => by rw [dNk_end] at hw; exact absurd hw List.not_mem_nil)))) e (by rw [List.drop_zero]; exact he)
def dSp : List (Nat × Nat) := [(4, 63), (4, 72), (4, 73), (4, 74), (4, 75), (4, 76), (4, 77), (4, 78), (4, 79), (4, 80), (4, 81), (4, 82), (4, 83), (2, 212), (3, 28), (3, 29), (3, 30), (3, 31), (3, 32), (8, 91), (8, 142), (8, 143), (8, 144), (8, 146), (8, 148), (8, 150), (8, 152), (8, 153), (8, 135), (8, 137), (8, 130), (8, 128), (8, 113), (8, 114), (8, 127), (9, 8), (9, 150), (10, 202), (9, 46), (14, 152), (14, 153), (14, 159), (14, 146), (14, 147), (14, 164), (14, 165), (14, 137), (14, 170), (14, 171), (14, 172), (14, 173), (14, 174), (14, 175), (14, 176), (14, 177)]
set_option maxRecDepth 100000 in
theorem dSk : (dSR.map fun e => some (Cond.stringRef (cR e.1) e.2.1 (dTn.getD e.2.2 ""))) = dSp.map dTf := by rfl
theorem dSR_tbl : ∀ e ∈ dSR, Cond.stringRef (cR e.1) e.2.1 (dTn.getD e.2.2 "") ∈ lw_tbl := by
  intro e he
  have h1 : some (Cond.stringRef (cR e.1) e.2.1 (dTn.getD e.2.2 "")) ∈ dSp.map dTf := dSk ▸ List.mem_map.mpr ⟨e, he, rfl⟩
  obtain ⟨q, -, hq⟩ := List.mem_map.mp h1
  exact dTf_mem hq
def dXl : List Cond := [.castable xE xE, .declares ⟨"java/lang/RuntimeException", "<init>", "(Ljava/lang/String;)V"⟩, .declares ⟨"java/lang/Exception", "<init>", "(Ljava/lang/String;)V"⟩, .declares ⟨"java/lang/Throwable", "<init>", "(Ljava/lang/String;)V"⟩]
def dXp : List (Nat × Nat) := [(8, 211), (8, 213), (8, 215), (8, 217)]
theorem dXk : dXl.map some = dXp.map dTf := by rfl
theorem dXB_l : dXB.all (fun w => decide (w ∈ dXl)) = true := by decide +kernel
theorem dXB_tbl : ∀ w ∈ dXB, w ∈ lw_tbl := fun w hw => dTk_mem dXk w (of_decide_eq_true (List.all_eq_true.mp dXB_l w hw))
theorem dZl_0 : Cond.laysStatic "java/lang/String" "COMPACT_STRINGS" "Z" ∈ lw_tbl := dTf_mem (q := (2, 226)) rfl
theorem dZi_0 : Cond.initialized "java/lang/String" ∈ lw_tbl := dTf_mem (q := (0, 14)) rfl
theorem dZl_1 : Cond.laysStatic "jdk/internal/util/Preconditions" "SIOOBE_FORMATTER" "Ljava/util/function/BiFunction;" ∈ lw_tbl := dTf_mem (q := (3, 2)) rfl
theorem dZi_1 : Cond.initialized "jdk/internal/util/Preconditions" ∈ lw_tbl := dTf_mem (q := (0, 16)) rfl
theorem dZl_2 : Cond.laysStatic "java/lang/Throwable" "UNASSIGNED_STACK" "[Ljava/lang/StackTraceElement;" ∈ lw_tbl := dTf_mem (q := (8, 236)) rfl
theorem dZi_2 : Cond.initialized "java/lang/Throwable" ∈ lw_tbl := dTf_mem (q := (0, 19)) rfl
theorem dZl_3 : Cond.laysStatic "java/lang/Throwable" "SUPPRESSED_SENTINEL" "Ljava/util/List;" ∈ lw_tbl := dTf_mem (q := (8, 238)) rfl
theorem dZi_3 : Cond.initialized "java/lang/Throwable" ∈ lw_tbl := dTf_mem (q := (0, 19)) rfl
def R_law9 : String := "ItemJudgeLaw"
theorem dLc_7 : Cond.classLink "ItemJudgeLaw" 7 (cR 12) ∈ lw_tbl := dTf_mem (q := (0, 27)) rfl
theorem dLc_10 : Cond.classLink "ItemJudgeLaw" 10 (cR 13) ∈ lw_tbl := dTf_mem (q := (8, 203)) rfl
theorem dLm_9 : Cond.methodLink "ItemJudgeLaw" 9 yX12_init ∈ lw_tbl := dTf_mem (q := (0, 29)) rfl
theorem dLi_9 : Cond.instanceMethod yX12_init ∈ lw_tbl := dTf_mem (q := (0, 30)) rfl
theorem dLn_9 : Cond.initialized yX12_init.cls ∈ lw_tbl := dTf_mem (q := (0, 1)) rfl
theorem dLm_12 : Cond.methodLink "ItemJudgeLaw" 12 yX13_init ∈ lw_tbl := dTf_mem (q := (8, 205)) rfl
theorem dLi_12 : Cond.instanceMethod yX13_init ∈ lw_tbl := dTf_mem (q := (8, 206)) rfl
theorem dLn_12 : Cond.initialized yX13_init.cls ∈ lw_tbl := dTf_mem (q := (0, 18)) rfl
theorem dLm_13 : Cond.methodLink "ItemJudgeLaw" 13 yX12_feed ∈ lw_tbl := dTf_mem (q := (5, 4)) rfl
theorem dLi_13 : Cond.instanceMethod yX12_feed ∈ lw_tbl := dTf_mem (q := (5, 5)) rfl
theorem dLn_13 : Cond.initialized yX12_feed.cls ∈ lw_tbl := dTf_mem (q := (0, 1)) rfl
theorem dLs_13 : Cond.selects yX12_feed.cls yX12_feed yX12_feed ∈ lw_tbl := dTf_mem (q := (5, 6)) rfl
theorem dLm_17 : Cond.methodLink "ItemJudgeLaw" 17 yX13_feed ∈ lw_tbl := dTf_mem (q := (13, 30)) rfl
theorem dLi_17 : Cond.instanceMethod yX13_feed ∈ lw_tbl := dTf_mem (q := (13, 31)) rfl
theorem dLn_17 : Cond.initialized yX13_feed.cls ∈ lw_tbl := dTf_mem (q := (0, 18)) rfl
theorem dLs_17 : Cond.selects yX13_feed.cls yX13_feed yX13_feed ∈ lw_tbl := dTf_mem (q := (13, 32)) rfl
theorem dLm_18 : Cond.methodLink "ItemJudgeLaw" 18 yX12_end ∈ lw_tbl := dTf_mem (q := (5, 13)) rfl
theorem dLi_18 : Cond.instanceMethod yX12_end ∈ lw_tbl := dTf_mem (q := (5, 14)) rfl
theorem dLn_18 : Cond.initialized yX12_end.cls ∈ lw_tbl := dTf_mem (q := (0, 1)) rfl
theorem dLs_18 : Cond.selects yX12_end.cls yX12_end yX12_end ∈ lw_tbl := dTf_mem (q := (5, 15)) rfl
theorem dLm_22 : Cond.methodLink "ItemJudgeLaw" 22 yX13_end ∈ lw_tbl := dTf_mem (q := (13, 34)) rfl
theorem dLi_22 : Cond.instanceMethod yX13_end ∈ lw_tbl := dTf_mem (q := (13, 35)) rfl
theorem dLn_22 : Cond.initialized yX13_end.cls ∈ lw_tbl := dTf_mem (q := (0, 18)) rfl
theorem dLs_22 : Cond.selects yX13_end.cls yX13_end yX13_end ∈ lw_tbl := dTf_mem (q := (13, 36)) rfl
theorem dLm_23 : Cond.methodLink "ItemJudgeLaw" 23 yX12_grammar ∈ lw_tbl := dTf_mem (q := (5, 17)) rfl
theorem dLi_23 : Cond.instanceMethod yX12_grammar ∈ lw_tbl := dTf_mem (q := (5, 18)) rfl
theorem dLn_23 : Cond.initialized yX12_grammar.cls ∈ lw_tbl := dTf_mem (q := (0, 1)) rfl
theorem dLs_23 : Cond.selects yX12_grammar.cls yX12_grammar yX12_grammar ∈ lw_tbl := dTf_mem (q := (5, 19)) rfl
theorem dLm_27 : Cond.methodLink "ItemJudgeLaw" 27 yX13_grammar ∈ lw_tbl := dTf_mem (q := (13, 79)) rfl
theorem dLi_27 : Cond.instanceMethod yX13_grammar ∈ lw_tbl := dTf_mem (q := (13, 80)) rfl
theorem dLn_27 : Cond.initialized yX13_grammar.cls ∈ lw_tbl := dTf_mem (q := (0, 18)) rfl
theorem dLs_27 : Cond.selects yX13_grammar.cls yX13_grammar yX13_grammar ∈ lw_tbl := dTf_mem (q := (13, 81)) rfl
theorem dLm_28 : Cond.methodLink "ItemJudgeLaw" 28 yX12_place ∈ lw_tbl := dTf_mem (q := (6, 76)) rfl
theorem dLi_28 : Cond.instanceMethod yX12_place ∈ lw_tbl := dTf_mem (q := (6, 77)) rfl
theorem dLn_28 : Cond.initialized yX12_place.cls ∈ lw_tbl := dTf_mem (q := (0, 1)) rfl
theorem dLs_28 : Cond.selects yX12_place.cls yX12_place yX12_place ∈ lw_tbl := dTf_mem (q := (6, 78)) rfl
theorem dLm_31 : Cond.methodLink "ItemJudgeLaw" 31 yX13_place ∈ lw_tbl := dTf_mem (q := (13, 83)) rfl
theorem dLi_31 : Cond.instanceMethod yX13_place ∈ lw_tbl := dTf_mem (q := (13, 84)) rfl
theorem dLn_31 : Cond.initialized yX13_place.cls ∈ lw_tbl := dTf_mem (q := (0, 18)) rfl
theorem dLs_31 : Cond.selects yX13_place.cls yX13_place yX13_place ∈ lw_tbl := dTf_mem (q := (13, 85)) rfl
theorem dLm_32 : Cond.methodLink "ItemJudgeLaw" 32 yX12_rule ∈ lw_tbl := dTf_mem (q := (6, 80)) rfl
theorem dLi_32 : Cond.instanceMethod yX12_rule ∈ lw_tbl := dTf_mem (q := (6, 81)) rfl
theorem dLn_32 : Cond.initialized yX12_rule.cls ∈ lw_tbl := dTf_mem (q := (0, 1)) rfl
theorem dLs_32 : Cond.selects yX12_rule.cls yX12_rule yX12_rule ∈ lw_tbl := dTf_mem (q := (6, 82)) rfl
theorem dLm_36 : Cond.methodLink "ItemJudgeLaw" 36 yX13_rule ∈ lw_tbl := dTf_mem (q := (13, 87)) rfl
theorem dLi_36 : Cond.instanceMethod yX13_rule ∈ lw_tbl := dTf_mem (q := (13, 88)) rfl
theorem dLn_36 : Cond.initialized yX13_rule.cls ∈ lw_tbl := dTf_mem (q := (0, 18)) rfl
theorem dLs_36 : Cond.selects yX13_rule.cls yX13_rule yX13_rule ∈ lw_tbl := dTf_mem (q := (13, 89)) rfl
theorem dLm_37 : Cond.methodLink "ItemJudgeLaw" 37 yX12_item ∈ lw_tbl := dTf_mem (q := (6, 107)) rfl
theorem dLi_37 : Cond.instanceMethod yX12_item ∈ lw_tbl := dTf_mem (q := (6, 108)) rfl
theorem dLn_37 : Cond.initialized yX12_item.cls ∈ lw_tbl := dTf_mem (q := (0, 1)) rfl
theorem dLs_37 : Cond.selects yX12_item.cls yX12_item yX12_item ∈ lw_tbl := dTf_mem (q := (6, 109)) rfl
theorem dLm_40 : Cond.methodLink "ItemJudgeLaw" 40 yX13_item ∈ lw_tbl := dTf_mem (q := (13, 38)) rfl
theorem dLi_40 : Cond.instanceMethod yX13_item ∈ lw_tbl := dTf_mem (q := (13, 39)) rfl
theorem dLn_40 : Cond.initialized yX13_item.cls ∈ lw_tbl := dTf_mem (q := (0, 18)) rfl
theorem dLs_40 : Cond.selects yX13_item.cls yX13_item yX13_item ∈ lw_tbl := dTf_mem (q := (13, 40)) rfl
theorem dLm_41 : Cond.methodLink "ItemJudgeLaw" 41 yX12_node ∈ lw_tbl := dTf_mem (q := (6, 175)) rfl
theorem dLi_41 : Cond.instanceMethod yX12_node ∈ lw_tbl := dTf_mem (q := (6, 176)) rfl
theorem dLn_41 : Cond.initialized yX12_node.cls ∈ lw_tbl := dTf_mem (q := (0, 1)) rfl
theorem dLs_41 : Cond.selects yX12_node.cls yX12_node yX12_node ∈ lw_tbl := dTf_mem (q := (6, 177)) rfl
theorem dLm_45 : Cond.methodLink "ItemJudgeLaw" 45 yX13_node ∈ lw_tbl := dTf_mem (q := (13, 75)) rfl
theorem dLi_45 : Cond.instanceMethod yX13_node ∈ lw_tbl := dTf_mem (q := (13, 76)) rfl
theorem dLn_45 : Cond.initialized yX13_node.cls ∈ lw_tbl := dTf_mem (q := (0, 18)) rfl
theorem dLs_45 : Cond.selects yX13_node.cls yX13_node yX13_node ∈ lw_tbl := dTf_mem (q := (13, 77)) rfl
theorem dLm_46 : Cond.methodLink "ItemJudgeLaw" 46 yX12_judge ∈ lw_tbl := dTf_mem (q := (6, 212)) rfl
theorem dLi_46 : Cond.instanceMethod yX12_judge ∈ lw_tbl := dTf_mem (q := (6, 213)) rfl
theorem dLn_46 : Cond.initialized yX12_judge.cls ∈ lw_tbl := dTf_mem (q := (0, 1)) rfl
theorem dLs_46 : Cond.selects yX12_judge.cls yX12_judge yX12_judge ∈ lw_tbl := dTf_mem (q := (6, 214)) rfl
theorem dLm_49 : Cond.methodLink "ItemJudgeLaw" 49 yX13_judge ∈ lw_tbl := dTf_mem (q := (13, 95)) rfl
theorem dLi_49 : Cond.instanceMethod yX13_judge ∈ lw_tbl := dTf_mem (q := (13, 96)) rfl
theorem dLn_49 : Cond.initialized yX13_judge.cls ∈ lw_tbl := dTf_mem (q := (0, 18)) rfl
theorem dLs_49 : Cond.selects yX13_judge.cls yX13_judge yX13_judge ∈ lw_tbl := dTf_mem (q := (13, 97)) rfl
theorem dLm_50 : Cond.methodLink "ItemJudgeLaw" 50 yX12_write ∈ lw_tbl := dTf_mem (q := (8, 57)) rfl
theorem dLi_50 : Cond.instanceMethod yX12_write ∈ lw_tbl := dTf_mem (q := (8, 58)) rfl
theorem dLn_50 : Cond.initialized yX12_write.cls ∈ lw_tbl := dTf_mem (q := (0, 1)) rfl
theorem dLs_50 : Cond.selects yX12_write.cls yX12_write yX12_write ∈ lw_tbl := dTf_mem (q := (8, 59)) rfl
theorem dLm_53 : Cond.methodLink "ItemJudgeLaw" 53 yX13_write ∈ lw_tbl := dTf_mem (q := (14, 120)) rfl
theorem dLi_53 : Cond.instanceMethod yX13_write ∈ lw_tbl := dTf_mem (q := (14, 121)) rfl
theorem dLn_53 : Cond.initialized yX13_write.cls ∈ lw_tbl := dTf_mem (q := (0, 18)) rfl
theorem dLs_53 : Cond.selects yX13_write.cls yX13_write yX13_write ∈ lw_tbl := dTf_mem (q := (14, 122)) rfl
theorem dLm_54 : Cond.methodLink "ItemJudgeLaw" 54 yX12_shorten ∈ lw_tbl := dTf_mem (q := (8, 159)) rfl
theorem dLi_54 : Cond.instanceMethod yX12_shorten ∈ lw_tbl := dTf_mem (q := (8, 160)) rfl
theorem dLn_54 : Cond.initialized yX12_shorten.cls ∈ lw_tbl := dTf_mem (q := (0, 1)) rfl
theorem dLs_54 : Cond.selects yX12_shorten.cls yX12_shorten yX12_shorten ∈ lw_tbl := dTf_mem (q := (8, 161)) rfl
theorem dLm_57 : Cond.methodLink "ItemJudgeLaw" 57 yX13_shorten ∈ lw_tbl := dTf_mem (q := (14, 182)) rfl
theorem dLi_57 : Cond.instanceMethod yX13_shorten ∈ lw_tbl := dTf_mem (q := (14, 183)) rfl
theorem dLn_57 : Cond.initialized yX13_shorten.cls ∈ lw_tbl := dTf_mem (q := (0, 18)) rfl
theorem dLs_57 : Cond.selects yX13_shorten.cls yX13_shorten yX13_shorten ∈ lw_tbl := dTf_mem (q := (14, 184)) rfl
theorem dLm_58 : Cond.methodLink "ItemJudgeLaw" 58 yX12_out ∈ lw_tbl := dTf_mem (q := (8, 195)) rfl
theorem dLi_58 : Cond.instanceMethod yX12_out ∈ lw_tbl := dTf_mem (q := (8, 196)) rfl
theorem dLn_58 : Cond.initialized yX12_out.cls ∈ lw_tbl := dTf_mem (q := (0, 1)) rfl
theorem dLs_58 : Cond.selects yX12_out.cls yX12_out yX12_out ∈ lw_tbl := dTf_mem (q := (8, 197)) rfl
theorem dLm_61 : Cond.methodLink "ItemJudgeLaw" 61 yX13_out ∈ lw_tbl := dTf_mem (q := (14, 202)) rfl
theorem dLi_61 : Cond.instanceMethod yX13_out ∈ lw_tbl := dTf_mem (q := (14, 203)) rfl
theorem dLn_61 : Cond.initialized yX13_out.cls ∈ lw_tbl := dTf_mem (q := (0, 18)) rfl
theorem dLs_61 : Cond.selects yX13_out.cls yX13_out yX13_out ∈ lw_tbl := dTf_mem (q := (14, 204)) rfl

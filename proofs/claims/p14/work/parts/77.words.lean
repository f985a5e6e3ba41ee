/-! ===== every word of the program is one of the tables'; and what else stands there ===== -/
theorem nth_mem {α : Type} {l : List α} {n : Nat} {a : α} (h : nth l n = some a) : a ∈ l := by
  rw [nth_eq] at h
  exact List.mem_of_getElem? h
theorem dch0 {α : Type} {A : List α} : ∀ l ∈ [A], ∀ w ∈ l, w ∈ A := fun l hl w hw => by
  rw [List.mem_singleton.mp hl] at hw
  exact hw
theorem dch1 {α : Type} {A T : List α} {L : List (List α)} (h : ∀ l ∈ L, ∀ w ∈ l, w ∈ T) : ∀ l ∈ A :: L, ∀ w ∈ l, w ∈ A ++ T := fun l hl w hw => by
  rcases List.mem_cons.mp hl with rfl | hl
  · exact List.mem_append_left _ hw
  · exact List.mem_append_right _ (h l hl w hw)
def lw_tb3 : List Cond := tables_1_1 ++ (tables_1_2 ++ (tables_1_3 ++ (tables_1_4 ++ (tables_1_5 ++ (tables_1_6 ++ (tables_1_7 ++ (tables_1_8 ++ (tables_1_9 ++ ([Jvm.Cond.code x code maxLocals ret])))))))))
def lw_tb2 : List Cond := k2_sels lw_privs ++ lw_tb3
theorem lw_tb2_of {w : Cond} (h : w ∈ lw_tb2) : w ∈ lw_tbl ∨ w = Jvm.Cond.code x code maxLocals ret := by
  rcases List.mem_append.mp h with h | h
  · exact Or.inl (List.mem_append_left _ h)
  · have e : lw_tb3 = tables_1 ++ [Jvm.Cond.code x code maxLocals ret] := by
      unfold lw_tb3 tables_1
      simp only [List.append_assoc]
    rw [e] at h
    rcases List.mem_append.mp h with h | h
    · exact Or.inl (List.mem_append_right _ h)
    · exact Or.inr (List.mem_singleton.mp h)
theorem dTch_mem : ∀ l ∈ [tables_1_1, tables_1_2, tables_1_3, tables_1_4, tables_1_5, tables_1_6, tables_1_7, tables_1_8, tables_1_9, [Jvm.Cond.code x code maxLocals ret]], ∀ w ∈ l, w ∈ lw_tb3 := dch1 (dch1 (dch1 (dch1 (dch1 (dch1 (dch1 (dch1 (dch1 (dch0)))))))))
theorem dTpr_mem : ∀ l ∈ [lw_privs_1, lw_privs_2, lw_privs_3, lw_privs_4, lw_privs_5, lw_privs_6, lw_privs_7, lw_privs_8, lw_privs_9, lw_privs_10], ∀ w ∈ l, w ∈ lw_privs_1 ++ (lw_privs_2 ++ (lw_privs_3 ++ (lw_privs_4 ++ (lw_privs_5 ++ (lw_privs_6 ++ (lw_privs_7 ++ (lw_privs_8 ++ (lw_privs_9 ++ (lw_privs_10))))))))) := dch1 (dch1 (dch1 (dch1 (dch1 (dch1 (dch1 (dch1 (dch1 (dch0)))))))))
theorem dTf_mem {q : Nat × Nat} {w : Cond} (h : dTf q = some w) : w ∈ lw_tb2 := by
  unfold dTf at h
  cases hb : Nat.blt q.1 100 with
  | true =>
    rw [hb] at h
    have h : dTat q.1 q.2 = some w := h
    unfold dTat at h
    cases e : nth dTch q.1 with
    | none => rw [e] at h; cases h
    | some l =>
      rw [e] at h
      exact List.mem_append_right _ (dTch_mem l (nth_mem e) w (nth_mem h))
  | false =>
    rw [hb] at h
    have h : (match dTap (Nat.sub q.1 100) q.2 with
      | some y => some (Cond.selects y.1.cls y.1 y.1)
      | none => none) = some w := h
    cases e : dTap (Nat.sub q.1 100) q.2 with
    | none => rw [e] at h; cases h
    | some y =>
      rw [e] at h
      cases h
      unfold dTap at e
      cases e2 : nth dTpr (Nat.sub q.1 100) with
      | none => rw [e2] at e; cases e
      | some l =>
        rw [e2] at e
        exact List.mem_append_left _ (List.mem_map.mpr ⟨y, dTpr_mem l (nth_mem e2) y (nth_mem e), rfl⟩)
theorem dTk_mem {l : List Cond} {ps : List (Nat × Nat)} (h : l.map some = ps.map dTf) : ∀ w ∈ l, w ∈ lw_tb2 := by
  intro w hw
  have h1 : some w ∈ ps.map dTf := h ▸ List.mem_map.mpr ⟨w, hw, rfl⟩
  obtain ⟨q, -, hq⟩ := List.mem_map.mp h1
  exact dTf_mem hq
theorem dst {T : List Cond} {n : Nat} (h1 : ∀ w ∈ (T.drop n).take 100, w ∈ lw_tb2) (h2 : ∀ w ∈ T.drop (n + 100), w ∈ lw_tb2) : ∀ w ∈ T.drop n, w ∈ lw_tb2 := by
  intro w hw
  rw [← List.take_append_drop 100 (T.drop n), List.drop_drop] at hw
  rcases List.mem_append.mp hw with h | h
  · exact h1 w h
  · exact h2 w h
theorem dTb_22 : ∀ w ∈ dTB.drop 2200, w ∈ lw_tb2 := dst (n := 2200) (dTk_mem dTk_22) (fun w (hw : w ∈ dTB.drop 2300) => by rw [dTk_end] at hw; exact absurd hw List.not_mem_nil)
theorem dTb_21 : ∀ w ∈ dTB.drop 2100, w ∈ lw_tb2 := dst (n := 2100) (dTk_mem dTk_21) dTb_22
theorem dTb_20 : ∀ w ∈ dTB.drop 2000, w ∈ lw_tb2 := dst (n := 2000) (dTk_mem dTk_20) dTb_21
theorem dTb_19 : ∀ w ∈ dTB.drop 1900, w ∈ lw_tb2 := dst (n := 1900) (dTk_mem dTk_19) dTb_20
theorem dTb_18 : ∀ w ∈ dTB.drop 1800, w ∈ lw_tb2 := dst (n := 1800) (dTk_mem dTk_18) dTb_19
theorem dTb_17 : ∀ w ∈ dTB.drop 1700, w ∈ lw_tb2 := dst (n := 1700) (dTk_mem dTk_17) dTb_18
theorem dTb_16 : ∀ w ∈ dTB.drop 1600, w ∈ lw_tb2 := dst (n := 1600) (dTk_mem dTk_16) dTb_17
theorem dTb_15 : ∀ w ∈ dTB.drop 1500, w ∈ lw_tb2 := dst (n := 1500) (dTk_mem dTk_15) dTb_16
theorem dTb_14 : ∀ w ∈ dTB.drop 1400, w ∈ lw_tb2 := dst (n := 1400) (dTk_mem dTk_14) dTb_15
theorem dTb_13 : ∀ w ∈ dTB.drop 1300, w ∈ lw_tb2 := dst (n := 1300) (dTk_mem dTk_13) dTb_14
theorem dTb_12 : ∀ w ∈ dTB.drop 1200, w ∈ lw_tb2 := dst (n := 1200) (dTk_mem dTk_12) dTb_13
theorem dTb_11 : ∀ w ∈ dTB.drop 1100, w ∈ lw_tb2 := dst (n := 1100) (dTk_mem dTk_11) dTb_12
theorem dTb_10 : ∀ w ∈ dTB.drop 1000, w ∈ lw_tb2 := dst (n := 1000) (dTk_mem dTk_10) dTb_11
theorem dTb_9 : ∀ w ∈ dTB.drop 900, w ∈ lw_tb2 := dst (n := 900) (dTk_mem dTk_9) dTb_10
theorem dTb_8 : ∀ w ∈ dTB.drop 800, w ∈ lw_tb2 := dst (n := 800) (dTk_mem dTk_8) dTb_9
theorem dTb_7 : ∀ w ∈ dTB.drop 700, w ∈ lw_tb2 := dst (n := 700) (dTk_mem dTk_7) dTb_8
theorem dTb_6 : ∀ w ∈ dTB.drop 600, w ∈ lw_tb2 := dst (n := 600) (dTk_mem dTk_6) dTb_7
theorem dTb_5 : ∀ w ∈ dTB.drop 500, w ∈ lw_tb2 := dst (n := 500) (dTk_mem dTk_5) dTb_6
theorem dTb_4 : ∀ w ∈ dTB.drop 400, w ∈ lw_tb2 := dst (n := 400) (dTk_mem dTk_4) dTb_5
theorem dTb_3 : ∀ w ∈ dTB.drop 300, w ∈ lw_tb2 := dst (n := 300) (dTk_mem dTk_3) dTb_4
theorem dTb_2 : ∀ w ∈ dTB.drop 200, w ∈ lw_tb2 := dst (n := 200) (dTk_mem dTk_2) dTb_3
theorem dTb_1 : ∀ w ∈ dTB.drop 100, w ∈ lw_tb2 := dst (n := 100) (dTk_mem dTk_1) dTb_2
theorem dTb_0 : ∀ w ∈ dTB.drop 0, w ∈ lw_tb2 := dst (n := 0) (dTk_mem dTk_0) dTb_1
theorem dTB_tbl : ∀ w ∈ dTB, w ∈ lw_tb2 := fun w hw => dTb_0 w (by rw [List.drop_zero]; exact hw)
def dNp_0 : List (Nat × Nat) := [(4, 88), (4, 114), (5, 168), (5, 162), (6, 102), (6, 107), (6, 97), (6, 72), (6, 77), (6, 101), (6, 100), (6, 184), (7, 210), (7, 231), (8, 15), (7, 3), (7, 6), (7, 47), (7, 92), (7, 93)]
set_option maxRecDepth 100000 in
theorem dNk_0 : (((dNT.drop 0).take 20).map fun e => some (Cond.methodLinkNest (cR e.1) e.2.1 (dNm e.2.2) "ItemJudge")) = dNp_0.map dTf := by rfl
def dNp_1 : List (Nat × Nat) := [(5, 101), (5, 106), (6, 62), (6, 236), (3, 199), (3, 224), (3, 227), (3, 190), (4, 97), (7, 171), (5, 17), (4, 60), (4, 61), (3, 17), (3, 41), (3, 44), (3, 110), (4, 140), (4, 194)]
set_option maxRecDepth 100000 in
theorem dNk_1 : (((dNT.drop 20).take 20).map fun e => some (Cond.methodLinkNest (cR e.1) e.2.1 (dNm e.2.2) "ItemJudge")) = dNp_1.map dTf := by rfl
theorem dNk_mem {l : List (Nat × Nat × Nat)} {ps : List (Nat × Nat)} (h : (l.map fun e => some (Cond.methodLinkNest (cR e.1) e.2.1 (dNm e.2.2) "ItemJudge")) = ps.map dTf) : ∀ e ∈ l, Cond.methodLinkNest (cR e.1) e.2.1 (dNm e.2.2) "ItemJudge" ∈ lw_tb2 := by
  intro e he
  have h1 : some (Cond.methodLinkNest (cR e.1) e.2.1 (dNm e.2.2) "ItemJudge") ∈ ps.map dTf := h ▸ List.mem_map.mpr ⟨e, he, rfl⟩
  obtain ⟨q, -, hq⟩ := List.mem_map.mp h1
  exact dTf_mem hq
theorem dNst {T : List (Nat × Nat × Nat)} {P : Nat × Nat × Nat → Prop} {n : Nat} (k : Nat) (h1 : ∀ w ∈ (T.drop n).take k, P w) (h2 : ∀ w ∈ T.drop (n + k), P w) : ∀ w ∈ T.drop n, P w := by
  intro w hw
  rw [← List.take_append_drop k (T.drop n), List.drop_drop] at hw
  rcases List.mem_append.mp hw with h | h
  · exact h1 w h
  · exact h2 w h
theorem dNk_end : dNT.drop 40 = [] := List.drop_eq_nil_of_le (by decide +kernel)
theorem dNT_tbl : ∀ e ∈ dNT, Cond.methodLinkNest (cR e.1) e.2.1 (dNm e.2.2) "ItemJudge" ∈ lw_tb2 := fun e he => (dNst (T := dNT) (n := 0) 20 (dNk_mem dNk_0) (dNst (T := dNT) (n := 20) 20 (dNk_mem dNk_1) (fun w (hw : w ∈ dNT.drop 40) => by rw [dNk_end] at hw; exact absurd hw List.not_mem_nil))) e (by rw [List.drop_zero]; exact he)
def dSp : List (Nat × Nat) := [(4, 55), (4, 64), (4, 65), (4, 66), (4, 67), (4, 68), (4, 69), (4, 70), (4, 71), (4, 72), (4, 73), (4, 74), (4, 75), (2, 204), (3, 20), (3, 21), (3, 22), (3, 23), (3, 24)]
set_option maxRecDepth 100000 in
theorem dSk : (dSR.map fun e => some (Cond.stringRef (cR e.1) e.2.1 (dTn.getD e.2.2 ""))) = dSp.map dTf := by rfl
theorem dSR_tbl : ∀ e ∈ dSR, Cond.stringRef (cR e.1) e.2.1 (dTn.getD e.2.2 "") ∈ lw_tb2 := by
  intro e he
  have h1 : some (Cond.stringRef (cR e.1) e.2.1 (dTn.getD e.2.2 "")) ∈ dSp.map dTf := dSk ▸ List.mem_map.mpr ⟨e, he, rfl⟩
  obtain ⟨q, -, hq⟩ := List.mem_map.mp h1
  exact dTf_mem hq
theorem dXB_nil : dXB = [] := rfl
theorem dZl_0 : Cond.laysStatic "java/lang/String" "COMPACT_STRINGS" "Z" ∈ lw_tb2 := dTf_mem (q := (2, 218)) rfl
theorem dZi_0 : Cond.initialized "java/lang/String" ∈ lw_tb2 := dTf_mem (q := (0, 14)) rfl
theorem dZl_1 : Cond.laysStatic "jdk/internal/util/Preconditions" "SIOOBE_FORMATTER" "Ljava/util/function/BiFunction;" ∈ lw_tb2 := dTf_mem (q := (2, 234)) rfl
theorem dZi_1 : Cond.initialized "jdk/internal/util/Preconditions" ∈ lw_tb2 := dTf_mem (q := (0, 16)) rfl
def R_law9 : String := "ItemJudgeLaw"
theorem dLc_8 : Cond.classLink "ItemJudgeLaw" 8 (cR 12) ∈ lw_tb2 := dTf_mem (q := (0, 21)) rfl
theorem dLm_13 : Cond.methodLink "ItemJudgeLaw" 13 yL_put ∈ lw_tb2 := dTf_mem (q := (8, 20)) rfl
theorem dLi_13 : Cond.static yL_put ∈ lw_tb2 := dTf_mem (q := (8, 21)) rfl
theorem dLn_13 : Cond.initialized yL_put.cls ∈ lw_tb2 := dTf_mem (q := (0, 0)) rfl
theorem dLm_25 : Cond.methodLink "ItemJudgeLaw" 25 yX12_init ∈ lw_tb2 := dTf_mem (q := (0, 23)) rfl
theorem dLi_25 : Cond.instanceMethod yX12_init ∈ lw_tb2 := dTf_mem (q := (0, 24)) rfl
theorem dLn_25 : Cond.initialized yX12_init.cls ∈ lw_tb2 := dTf_mem (q := (0, 1)) rfl

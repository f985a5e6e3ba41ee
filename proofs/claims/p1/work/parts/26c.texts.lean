/-! ===== the texts of constants, out of what the Statement gives of the start ===== -/
def dFc (own : String) (i len : Nat) (byt : List Int32) : List Cond :=
  .exactly (.string own i) "java/lang/String" :: .eq (.field (.string own i) "java/lang/String" "coder" "B") (.int 0) :: .arrayOf (.field (.string own i) "java/lang/String" "value" "[B") .byte :: .eq (.length (.field (.string own i) "java/lang/String" "value" "[B")) (.int (Int32.ofNat len)) :: (List.range len).map fun j => .eq (.elem (.field (.string own i) "java/lang/String" "value" "[B") (.int (Int32.ofNat j))) (.int (byt.getD j 0))
def dFb (e : Nat × Nat × Nat) : List Cond := dFc (cR e.1) e.2.1 (dLen.getD e.2.2 0) (dByt.getD e.2.2 [])
def dchk : List Cond → List ((Nat × Nat × Nat) × Nat) → Bool
  | _, [] => true
  | l, e :: t => decide (l.take (dFb e.1).length = dFb e.1) && dchk (l.drop ((dFb e.1).length + e.2)) t
theorem dchk_mem (l : List Cond) (ds : List ((Nat × Nat × Nat) × Nat)) (h : dchk l ds = true) : ∀ e ∈ ds, ∀ w ∈ dFb e.1, w ∈ l := by
  induction ds generalizing l with
  | nil => intro e he; cases he
  | cons a t ih =>
    simp only [dchk, Bool.and_eq_true, decide_eq_true_eq] at h
    intro e he w hw
    rcases List.mem_cons.mp he with rfl | he
    · exact List.mem_of_mem_take (h.1 ▸ hw)
    · exact List.mem_of_mem_drop (ih _ h.2 e he w hw)
def dTo : List ((Nat × Nat × Nat) × Nat) := [((9, 35, 13), 0), ((9, 41, 14), 0), ((9, 43, 15), 0), ((9, 45, 16), 0), ((9, 47, 17), 0), ((9, 49, 18), 0), ((7, 161, 0), 0), ((7, 167, 1), 0), ((7, 169, 2), 0), ((7, 171, 3), 0), ((7, 173, 4), 0), ((7, 175, 5), 0), ((7, 177, 6), 0), ((7, 179, 7), 0), ((7, 181, 8), 0), ((7, 183, 9), 0), ((7, 185, 10), 0), ((7, 187, 11), 0), ((7, 189, 12), 0), ((11, 126, 19), 0), ((11, 186, 32), 0), ((11, 188, 33), 0), ((11, 196, 34), 0), ((11, 181, 31), 0), ((11, 166, 30), 0), ((11, 159, 28), 0), ((11, 164, 29), 0), ((11, 132, 20), 0), ((11, 134, 21), 0), ((11, 136, 22), 0), ((11, 143, 23), 0), ((11, 147, 24), 0), ((11, 151, 25), 0), ((11, 155, 26), 0), ((11, 157, 27), 0), ((13, 15, 35), 0), ((13, 1055, 38), 0), ((13, 444, 36), 0), ((13, 603, 37), 0), ((13, 1133, 46), 1), ((13, 1119, 42), 1), ((13, 1121, 43), 1), ((13, 1107, 39), 1), ((13, 1109, 40), 1), ((13, 1117, 41), 1), ((13, 1126, 44), 1), ((13, 1128, 45), 1), ((13, 1144, 47), 1), ((13, 1146, 48), 1), ((13, 1148, 49), 1), ((13, 1150, 50), 1), ((13, 1152, 51), 1), ((13, 1154, 52), 1), ((13, 1156, 53), 1), ((13, 1158, 54), 0)]
set_option maxRecDepth 1000000 in
theorem dTo_ok : dchk ((flatC narrow_1).drop 23) dTo = true := by decide +kernel
theorem dTo_all : ∀ e ∈ dSR, e ∈ dTo.map (·.1) := by decide +kernel
theorem dFb_flat : ∀ e ∈ dSR, ∀ w ∈ dFb e, w ∈ flatC narrow_1 := fun e he w hw => by
  obtain ⟨q, hq, rfl⟩ := List.mem_map.mp (dTo_all e he)
  exact List.mem_of_mem_drop (dchk_mem _ _ dTo_ok q hq w hw)
theorem dSR_z : ∀ z, z < dStr.length → ∃ e, e ∈ dSR ∧ e.2.2 = z := by decide +kernel
theorem dSR_one : ∀ e ∈ dSR, dSR[e.2.2]? = some e := by decide +kernel
theorem dLen_lt : ∀ z, dLen.getD z 0 < 2 ^ 31 := by
  intro z
  by_cases h : z < dLen.length
  · exact (show ∀ z, z < dLen.length → dLen.getD z 0 < 2 ^ 31 by decide +kernel) z h
  · rw [List.getD_eq_getElem?_getD, List.getElem?_eq_none (Nat.le_of_not_lt h)]; decide

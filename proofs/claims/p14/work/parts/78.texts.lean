/-! ===== the texts of constants, out of what the Statement gives of the start ===== -/
def dFc (own : String) (i len : Nat) (byt : List Int32) : List Cond :=
  .exactly (.string own i) "java/lang/String" :: .eq (.field (.string own i) "java/lang/String" "coder" "B") (.int 0) :: .arrayOf (.field (.string own i) "java/lang/String" "value" "[B") .byte :: .eq (.length (.field (.string own i) "java/lang/String" "value" "[B")) (.int (Int32.ofNat len)) :: (List.range len).map fun j => .eq (.elem (.field (.string own i) "java/lang/String" "value" "[B") (.int (Int32.ofNat j))) (.int (byt.getD j 0))
def dFb (e : Nat × Nat × Nat) : List Cond := dFc (cR e.1) e.2.1 (dLen.getD e.2.2 0) (dByt.getD e.2.2 [])
def dchk : List Cond → List ((Nat × Nat × Nat) × Nat) → Bool
  | _, [] => true
  | l, e :: t => decide (l.take (dFb e.1).length = dFb e.1) && dchk (l.drop ((dFb e.1).length + e.2)) t
theorem dchk_mem (l : List Cond) (ds : List ((Nat × Nat × Nat) × Nat)) (h : dchk l ds = true) : ∀ e ∈ ds, ∀ w ∈ dFb e.1, w ∈ l := by
  induction ds generalizing l with
  | nil => intro e he; cases he
  | cons a t ih =>
    simp only [dchk, Bool.and_eq_true, decide_eq_true_eq] at h
    intro e he w hw
    rcases List.mem_cons.mp he with rfl | he
    · exact List.mem_of_mem_take (h.1 ▸ hw)
    · exact List.mem_of_mem_drop (ih _ h.2 e he w hw)
def dTo : List ((Nat × Nat × Nat) × Nat) := [((9, 35, 13), 0), ((9, 41, 14), 1), ((9, 43, 15), 2), ((9, 45, 16), 3), ((9, 47, 17), 4), ((9, 49, 18), 5), ((7, 161, 0), 6), ((7, 167, 1), 7), ((7, 169, 2), 8), ((7, 171, 3), 9), ((7, 173, 4), 10), ((7, 175, 5), 11), ((7, 177, 6), 12), ((7, 179, 7), 13), ((7, 181, 8), 14), ((7, 183, 9), 15), ((7, 185, 10), 16), ((7, 187, 11), 17), ((7, 189, 12), 0)]
set_option maxRecDepth 1000000 in
theorem dTo_ok : dchk ((flatC narrow_1).drop 7) dTo = true := by decide +kernel
theorem dTo_all : ∀ e ∈ dSR, e ∈ dTo.map (·.1) := by decide +kernel
theorem dFb_flat : ∀ e ∈ dSR, ∀ w ∈ dFb e, w ∈ flatC narrow_1 := fun e he w hw => by
  obtain ⟨q, hq, rfl⟩ := List.mem_map.mp (dTo_all e he)
  exact List.mem_of_mem_drop (dchk_mem _ _ dTo_ok q hq w hw)
theorem dSR_z : ∀ z, z < dStr.length → ∃ e, e ∈ dSR ∧ e.2.2 = z := by decide +kernel
theorem dSR_one : ∀ e ∈ dSR, dSR[e.2.2]? = some e := by decide +kernel
theorem dLen_lt : ∀ z, dLen.getD z 0 < 2 ^ 31 := by
  intro z
  by_cases h : z < dLen.length
  · exact (show ∀ z, z < dLen.length → dLen.getD z 0 < 2 ^ 31 by decide +kernel) z h
  · rw [List.getD_eq_getElem?_getD, List.getElem?_eq_none (Nat.le_of_not_lt h)]; decide

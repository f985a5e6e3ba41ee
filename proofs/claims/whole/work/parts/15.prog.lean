/-! ===== the program is made of checked blocks ===== -/
theorem dcl_at (y : Nat) (l : List (Option (List (Nat × List dI)))) (k : Nat) : (dcl y l)[k]? = (l[k]?).map fun o => o.map (dcm (y + k)) := by
  induction l generalizing y k with
  | nil => rfl
  | cons o t ih => cases k with
    | zero => rfl
    | succ k =>
      show (dcl (y + 1) t)[k]? = (t[k]?).map _
      rw [ih, show y + 1 + k = y + (k + 1) by omega]
theorem ck0_at (qs : List dMI) (l : List (Option (List (Nat × List dI)))) (k : Nat) {b : List (Nat × List dI)} (h : ck0 qs l = true) (e : l[k]? = some (some b)) : ∃ q, qs[k]? = some q ∧ ckm q b = true := by
  induction l generalizing qs k with
  | nil => cases e
  | cons o t ih => cases qs with
    | nil => cases h
    | cons q qs =>
      simp only [ck0, Bool.and_eq_true] at h
      cases k with
      | zero =>
        cases e
        exact ⟨q, rfl, h.1⟩
      | succ k => exact ih qs k h.2 e
theorem dalk_at (y : Nat) (b : List (Nat × List dI)) (pc : Nat) {c : dCode} (h : dalk (dcm y b) pc = some c) : ∃ is, (pc, is) ∈ b ∧ c = dcomp y is pc := by
  induction b with
  | nil => cases h
  | cons a t ih =>
    have h2 : cond (Nat.beq a.1 pc) (some (dcomp y a.2 a.1)) (dalk (dcm y t) pc) = some c := h
    cases e : Nat.beq a.1 pc
    · rw [e] at h2
      obtain ⟨is, h3, h4⟩ := ih h2
      exact ⟨is, List.mem_cons_of_mem _ h3, h4⟩
    · rw [e] at h2
      have e2 := Nat.eq_of_beq_eq_true e
      subst e2
      cases h2
      exact ⟨a.2, List.mem_cons_self, rfl⟩
theorem dRs_at : ∀ j l, dRs[j]? = some l → ∃ B, l = dcl (23 * j) B ∧ ck0 (dMis.drop (23 * j)) B = true := fun j l h => match j, h with
  | 0, h => ⟨dBs_0, (Option.some.inj (show some dRs_0 = some l from h)).symm.trans okr_0, okc_0⟩
  | 1, h => ⟨dBs_1, (Option.some.inj (show some dRs_1 = some l from h)).symm.trans okr_1, okc_1⟩
  | 2, h => ⟨dBs_2, (Option.some.inj (show some dRs_2 = some l from h)).symm.trans okr_2, okc_2⟩
  | 3, h => ⟨dBs_3, (Option.some.inj (show some dRs_3 = some l from h)).symm.trans okr_3, okc_3⟩
  | 4, h => ⟨dBs_4, (Option.some.inj (show some dRs_4 = some l from h)).symm.trans okr_4, okc_4⟩
  | 5, h => ⟨dBs_5, (Option.some.inj (show some dRs_5 = some l from h)).symm.trans okr_5, okc_5⟩
  | 6, h => ⟨dBs_6, (Option.some.inj (show some dRs_6 = some l from h)).symm.trans okr_6, okc_6⟩
  | 7, h => ⟨dBs_7, (Option.some.inj (show some dRs_7 = some l from h)).symm.trans okr_7, okc_7⟩
  | 8, h => ⟨dBs_8, (Option.some.inj (show some dRs_8 = some l from h)).symm.trans okr_8, okc_8⟩
  | 9, h => ⟨dBs_9, (Option.some.inj (show some dRs_9 = some l from h)).symm.trans okr_9, okc_9⟩
  | 10, h => ⟨dBs_10, (Option.some.inj (show some dRs_10 = some l from h)).symm.trans okr_10, okc_10⟩
  | 11, h => ⟨dBs_11, (Option.some.inj (show some dRs_11 = some l from h)).symm.trans okr_11, okc_11⟩
  | 12, h => ⟨dBs_12, (Option.some.inj (show some dRs_12 = some l from h)).symm.trans okr_12, okc_12⟩
  | 13, h => ⟨dBs_13, (Option.some.inj (show some dRs_13 = some l from h)).symm.trans okr_13, okc_13⟩
  | 14, h => ⟨dBs_14, (Option.some.inj (show some dRs_14 = some l from h)).symm.trans okr_14, okc_14⟩
  | 15, h => ⟨dBs_15, (Option.some.inj (show some dRs_15 = some l from h)).symm.trans okr_15, okc_15⟩
  | 16, h => ⟨dBs_16, (Option.some.inj (show some dRs_16 = some l from h)).symm.trans okr_16, okc_16⟩
  | 17, h => ⟨dBs_17, (Option.some.inj (show some dRs_17 = some l from h)).symm.trans okr_17, okc_17⟩
  | 18, h => ⟨dBs_18, (Option.some.inj (show some dRs_18 = some l from h)).symm.trans okr_18, okc_18⟩
  | 19, h => ⟨dBs_19, (Option.some.inj (show some dRs_19 = some l from h)).symm.trans okr_19, okc_19⟩
  | 20, h => ⟨dBs_20, (Option.some.inj (show some dRs_20 = some l from h)).symm.trans okr_20, okc_20⟩
  | 21, h => ⟨dBs_21, (Option.some.inj (show some dRs_21 = some l from h)).symm.trans okr_21, okc_21⟩
  | 22, h => ⟨dBs_22, (Option.some.inj (show some dRs_22 = some l from h)).symm.trans okr_22, okc_22⟩
  | n + 23, h => nomatch (show (none : Option (List (Option (List (Nat × dCode))))) = some l from h)
theorem dProg_ok : dPok dProg := by
  intro y pc c h
  unfold dProg dPy at h
  rw [nth_eq] at h
  cases h1 : dRs[Nat.div y 23]? with
  | none => rw [h1] at h; cases h
  | some l =>
    rw [h1] at h
    dsimp only at h
    rw [nth_eq] at h
    cases h2 : l[Nat.mod y 23]? with
    | none => rw [h2] at h; cases h
    | some o =>
      rw [h2] at h
      dsimp only at h
      cases o with
      | none => cases h
      | some r =>
        obtain ⟨B, rfl, hB⟩ := dRs_at _ _ h1
        rw [dcl_at] at h2
        cases h3 : B[Nat.mod y 23]? with
        | none => rw [h3] at h2; cases h2
        | some ob =>
          rw [h3] at h2
          cases ob with
          | none => cases h2
          | some b =>
            cases h2
            have hy : 23 * Nat.div y 23 + Nat.mod y 23 = y := Nat.div_add_mod y 23
            rw [hy] at h
            obtain ⟨q, hq, hk⟩ := ck0_at _ _ _ hB h3
            rw [List.getElem?_drop, hy] at hq
            obtain ⟨is, h4, h5⟩ := dalk_at y b pc h
            exact ⟨q, is, hq, List.all_eq_true.mp hk _ h4, h5⟩

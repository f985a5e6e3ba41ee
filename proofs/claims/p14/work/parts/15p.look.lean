/-! ===== where the blocks of the program of words are looked up ===== -/
noncomputable def pgY (y : Nat) : Option (List (Nat × List dI)) := match nth dBs (Nat.div y 23) with
  | none => none
  | some l => match nth l (Nat.mod y 23) with
    | none => none
    | some o => o
noncomputable def pgm (y pc : Nat) : Option (List dI) := match pgY y with
  | none => none
  | some l => dalk l pc
theorem dRs_eq : ∀ j, dRs[j]? = (dBs[j]?).map (dcl (23 * j)) := fun j => match j with
  | 0 => congrArg some okr_0
  | 1 => congrArg some okr_1
  | 2 => congrArg some okr_2
  | 3 => congrArg some okr_3
  | 4 => congrArg some okr_4
  | 5 => congrArg some okr_5
  | 6 => congrArg some okr_6
  | 7 => congrArg some okr_7
  | 8 => congrArg some okr_8
  | 9 => congrArg some okr_9
  | 10 => congrArg some okr_10
  | 11 => congrArg some okr_11
  | _ + 12 => rfl
theorem dalk_to (y : Nat) (b : List (Nat × List dI)) (pc : Nat) {is : List dI} (h : dalk b pc = some is) : dalk (dcm y b) pc = some (dcomp y is pc) := by
  induction b with
  | nil => cases h
  | cons a t ih =>
    have h2 : cond (Nat.beq a.1 pc) (some a.2) (dalk t pc) = some is := h
    show cond (Nat.beq a.1 pc) (some (dcomp y a.2 a.1)) (dalk (dcm y t) pc) = _
    cases e : Nat.beq a.1 pc
    · rw [e] at h2
      exact ih h2
    · rw [e] at h2
      cases h2
      have := Nat.eq_of_beq_eq_true e
      subst this
      rfl
theorem pgm_ok (y pc : Nat) (is : List dI) (h : pgm y pc = some is) : dProg y pc = some (dcomp y is pc) := by
  unfold pgm pgY at h
  rw [nth_eq] at h
  cases h1 : dBs[Nat.div y 23]? with
  | none => rw [h1] at h; cases h
  | some l =>
    rw [h1] at h
    dsimp only at h
    rw [nth_eq] at h
    cases h2 : l[Nat.mod y 23]? with
    | none => rw [h2] at h; cases h
    | some ob =>
      rw [h2] at h
      dsimp only at h
      cases ob with
      | none => cases h
      | some b =>
        have hy : 23 * Nat.div y 23 + Nat.mod y 23 = y := Nat.div_add_mod y 23
        unfold dProg dPy
        rw [nth_eq, dRs_eq, h1]
        show (match (match nth (dcl (23 * Nat.div y 23) l) (Nat.mod y 23) with
          | none => none
          | some o => o) with
          | none => none
          | some l => dalk l pc) = _
        rw [nth_eq, dcl_at, h2, hy]
        exact dalk_to y b pc h

/-! ===== the program is made of checked blocks ===== -/
theorem dcl_at (y : Nat) (l : List (Option (List (Nat × List dI)))) (k : Nat) : (dcl y l)[k]? = (l[k]?).map fun o => o.map (dcm (y + k)) := by
  induction l generalizing y k with
  | nil => rfl
  | cons o t ih => cases k with
    | zero => rfl
    | succ k =>
      show (dcl (y + 1) t)[k]? = (t[k]?).map _
      rw [ih, show y + 1 + k = y + (k + 1) by omega]
theorem ck0_at (qs : List dMI) (l : List (Option (List (Nat × List dI)))) (k : Nat) {b : List (Nat × List dI)} (h : ck0 qs l = true) (e : l[k]? = some (some b)) : ∃ q, qs[k]? = some q ∧ ckm q b = true := by
  induction l generalizing qs k with
  | nil => cases e
  | cons o t ih => cases qs with
    | nil => cases h
    | cons q qs =>
      simp only [ck0, Bool.and_eq_true] at h
      cases k with
      | zero =>
        cases e
        exact ⟨q, rfl, h.1⟩
      | succ k => exact ih qs k h.2 e
theorem dalk_at (y : Nat) (b : List (Nat × List dI)) (pc : Nat) {c : dCode} (h : dalk (dcm y b) pc = some c) : ∃ is, (pc, is) ∈ b ∧ c = dcomp y is pc := by
  induction b with
  | nil => cases h
  | cons a t ih =>
    have h2 : cond (Nat.beq a.1 pc) (some (dcomp y a.2 a.1)) (dalk (dcm y t) pc) = some c := h
    cases e : Nat.beq a.1 pc
    · rw [e] at h2
      obtain ⟨is, h3, h4⟩ := ih h2
      exact ⟨is, List.mem_cons_of_mem _ h3, h4⟩
    · rw [e] at h2
      have e2 := Nat.eq_of_beq_eq_true e
      subst e2
      cases h2
      exact ⟨a.2, List.mem_cons_self, rfl⟩
/-- from the n-th method on, 23 a list: laid out of checked blocks -/
def dAt : Nat → List (List (Option (List (Nat × dCode)))) → Prop
  | _, [] => True
  | n, l :: t => (∃ B, l = dcl n B ∧ ck0 (dMis.drop n) B = true) ∧ dAt (n + 23) t
theorem dAt_at {n : Nat} {L : List (List (Option (List (Nat × dCode))))} (h : dAt n L) {j : Nat} {l : List (Option (List (Nat × dCode)))} (e : L[j]? = some l) : ∃ B, l = dcl (n + 23 * j) B ∧ ck0 (dMis.drop (n + 23 * j)) B = true := by
  induction L generalizing n j with
  | nil => cases e
  | cons a t ih => cases j with
    | zero => cases e; exact h.1
    | succ j =>
      have h2 := ih h.2 (j := j) e
      rw [show n + 23 * (j + 1) = n + 23 + 23 * j by omega]
      exact h2
theorem dAt_cons {n m : Nat} {B : List (Option (List (Nat × List dI)))} {l : List (Option (List (Nat × dCode)))} {t : List (List (Option (List (Nat × dCode))))} (h1 : l = dcl n B) (h2 : ck0 (dMis.drop n) B = true) (hm : n + 23 = m) (h3 : dAt m t) : dAt n (l :: t) := ⟨⟨B, h1, h2⟩, by rw [hm]; exact h3⟩
theorem dAt_dRs : dAt 0 dRs := by
  unfold dRs
  refine dAt_cons okr_0 okc_0 (m := 23) (by decide) ?_
  refine dAt_cons okr_1 okc_1 (m := 46) (by decide) ?_
  refine dAt_cons okr_2 okc_2 (m := 69) (by decide) ?_
  refine dAt_cons okr_3 okc_3 (m := 92) (by decide) ?_
  refine dAt_cons okr_4 okc_4 (m := 115) (by decide) ?_
  refine dAt_cons okr_5 okc_5 (m := 138) (by decide) ?_
  refine dAt_cons okr_6 okc_6 (m := 161) (by decide) ?_
  refine dAt_cons okr_7 okc_7 (m := 184) (by decide) ?_
  refine dAt_cons okr_8 okc_8 (m := 207) (by decide) ?_
  refine dAt_cons okr_9 okc_9 (m := 230) (by decide) ?_
  refine dAt_cons okr_10 okc_10 (m := 253) (by decide) ?_
  refine dAt_cons okr_11 okc_11 (m := 276) (by decide) ?_
  exact True.intro
theorem dRs_at (j : Nat) (l : List (Option (List (Nat × dCode)))) (h : dRs[j]? = some l) : ∃ B, l = dcl (23 * j) B ∧ ck0 (dMis.drop (23 * j)) B = true := by
  have h2 := dAt_at dAt_dRs h
  rw [Nat.zero_add] at h2
  exact h2
theorem dProg_ok : dPok dProg := by
  intro y pc c h
  unfold dProg dPy at h
  rw [nth_eq] at h
  cases h1 : dRs[Nat.div y 23]? with
  | none => rw [h1] at h; cases h
  | some l =>
    rw [h1] at h
    dsimp only at h
    rw [nth_eq] at h
    cases h2 : l[Nat.mod y 23]? with
    | none => rw [h2] at h; cases h
    | some o =>
      rw [h2] at h
      dsimp only at h
      cases o with
      | none => cases h
      | some r =>
        obtain ⟨B, rfl, hB⟩ := dRs_at _ _ h1
        rw [dcl_at] at h2
        cases h3 : B[Nat.mod y 23]? with
        | none => rw [h3] at h2; cases h2
        | some ob =>
          rw [h3] at h2
          cases ob with
          | none => cases h2
          | some b =>
            cases h2
            have hy : 23 * Nat.div y 23 + Nat.mod y 23 = y := Nat.div_add_mod y 23
            rw [hy] at h
            obtain ⟨q, hq, hk⟩ := ck0_at _ _ _ hB h3
            rw [List.getElem?_drop, hy] at hq
            obtain ⟨is, h4, h5⟩ := dalk_at y b pc h
            exact ⟨q, is, hq, List.all_eq_true.mp hk _ h4, h5⟩

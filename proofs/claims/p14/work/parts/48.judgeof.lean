/-! ===== judge of a cell: its run as a contract ===== -/
theorem kdf_at {a kd : Nat} (h : kdf a = some kd) : (a, kd) ∈ kdl := dalk_mem h
def kdJ : List (Nat × Nat) := kdl.filter fun e => !Nat.beq e.1 106
theorem WJ_of {ρ : Nat → Nat} {T : Nat → Nat → Prop} {K : List Nat} {tab : List (sN × sN)} {g : dH} (hK : ∀ key a, T key a → (3 * 2 ^ 32 + key) ∈ K) (hKl : K.length ≤ 1000) (hT : ∀ key a b, T key a → T key b → a = b) (hB : sok ρ B0) (ht : tOK ρ T tab) (hk : kdG kdJ g) : sFor B0 fx0 kdf pgm pghm (orcM tab) 2000 20 dProg ρ opM g (MI T) :=
  ⟨hB, fun _ _ _ _ h => (nomatch (show (none : Option sN) = some _ from h)), pgm_ok, pghm_ok, fun u u2 h _ hM => MI_of h hM, fun a kd h S u hS hM => by
    have h1 := kdf_at h
    by_cases e : a = 106
    · subst e
      have h2 : kd = 10 := by
        have h3 : kdf 106 = some 10 := rfl
        rw [h3] at h
        exact (Option.some.inj h).symm
      obtain ⟨nm, cm, ct, m1, -⟩ := hM
      rw [h2]
      exact ⟨nm, cm, m1.1⟩
    · have h3 : (a, kd) ∈ kdJ := List.mem_filter.mpr ⟨h1, by
        cases hb : Nat.beq a 106 with
        | true => exact absurd (Nat.eq_of_beq_eq_true hb) e
        | false => rfl⟩
      have ho : opM a = false := by
        have h4 : ∀ q ∈ kdJ, opM q.1 = false := by decide
        exact h4 _ h3
      exact kd_keep hS ho (hk _ h3), orcM_ok hK hKl hT ht⟩
theorem sqA_mem {S2 S : sH} (hk : swk S2 S = true) (h : sqA S2 S = true) {a kd n : Nat} {X : sX} (hm : (a, kd, n, X) ∈ S) (h1 : a ≠ 108) (h2 : a ≠ 114) (h3 : a ≠ 66) : (a, kd, n, X) ∈ S2 := by
  induction S2 generalizing S with
  | nil => cases S with
    | nil => cases hm
    | cons e t => cases hk
  | cons e2 t2 ih => cases S with
    | nil => cases hk
    | cons e t =>
      simp only [swk, Bool.and_eq_true] at hk
      simp only [sqA, Bool.and_eq_true] at h
      obtain ⟨k1, k2, k3, k4, k5⟩ := hk
      obtain ⟨q1, q2⟩ := h
      rcases List.mem_cons.mp hm with hm | hm
      · subst hm
        have b1 : Nat.beq a 108 = false := by
          cases hb : Nat.beq a 108 with
          | true => exact absurd (Nat.eq_of_beq_eq_true hb) h1
          | false => rfl
        have b2 : Nat.beq a 114 = false := by
          cases hb : Nat.beq a 114 with
          | true => exact absurd (Nat.eq_of_beq_eq_true hb) h2
          | false => rfl
        have b3 : Nat.beq a 66 = false := by
          cases hb : Nat.beq a 66 with
          | true => exact absurd (Nat.eq_of_beq_eq_true hb) h3
          | false => rfl
        rw [b1, b2, b3, Bool.false_or, Bool.false_or, Bool.false_or] at q1
        have q3 := @of_decide_eq_true _ (dqX e2.2.2.2 X) q1
        obtain ⟨a2, kd2, n2, X2⟩ := e2
        have e1 := Nat.eq_of_beq_eq_true k1
        have e2 := Nat.eq_of_beq_eq_true k2
        have e3 := Nat.eq_of_beq_eq_true k3
        dsimp only at e1 e2 e3 q3
        subst e1 e2 e3 q3
        exact List.mem_cons_self
      · exact List.mem_cons_of_mem _ (ih k5 q2 hm)
/-- a run of judge, as a contract -/
theorem judge_of {ρ : Nat → Nat} {T : Nat → Nat → Prop} {K : List Nat} {tab : List (sN × sN)} {S : sH} {r n : Nat} (hK : ∀ key a, T key a → (3 * 2 ^ 32 + key) ∈ K) (hKl : K.length ≤ 1000) (hT : ∀ key a b, T key a → T key b → a = b) (hB : sok ρ B0) (ht : tOK ρ T tab) (h : sAll (sJudge tab S r) (chkJ S n) = true) {u : dH} (hk : kdG kdJ u) (hS : sfit ρ opM S u) (hM : MI T u) (e : Nat) :
    ∃ u2, drun dProg (20000 + e) 60 261 0 [(0, .inr (.inr 1)), (1, .inl r), (2, .inl (0 + (ρ 1 + 0)))] [] u = some (some (.inl n), u2) ∧ sfit ρ opM S u2 ∧ MI T u2 ∧ u2.1 = u.1 ∧ u2.2.1 = u.2.1 ∧ (∀ a, opM a = false → (∀ q ∈ S, q.1 ≠ a) → hat u2 a = hat u a) ∧
      ∀ a kd m X, (a, kd, m, X) ∈ S → a ≠ 108 → a ≠ 114 → a ≠ 66 → ∃ ct0 ct, hat u a = some (kd, m, ct0) ∧ hat u2 a = some (kd, m, ct) ∧ ∀ j, wd (kw kd) ct j = wd (kw kd) ct0 j := by
  unfold sJudge at h
  obtain ⟨v, S2, u2, h1, h2, h3, h4⟩ := sex_all (WJ_of hK hKl hT hB ht hk) h e hS hM
  unfold chkJ at h1
  split at h1
  · rename_i a
    simp only [Bool.and_eq_true] at h1
    obtain ⟨g1, g2, g3⟩ := h1
    have g1 := Nat.eq_of_beq_eq_true g1
    subst g1
    refine ⟨u2, h2, sfit_of h3 g2, h4, h3.2.1, h3.2.2.1, fun q hq hn => h3.2.2.2.2.2.1 q hq fun e9 he9 w => ?_, fun q kd m X hm n1 n2 n3 => ?_⟩
    · have hin : e9.1 ∈ S2.map (·.1) := List.mem_map.mpr ⟨e9, he9, rfl⟩
      rw [swk_keys g2] at hin
      obtain ⟨e8, he8, w8⟩ := List.mem_map.mp hin
      exact hn e8 he8 (w8.trans w)
    · obtain ⟨ct0, ct, y1, y2, y3⟩ := h3.2.2.2.2.2.2 q kd m X (sqA_mem g2 g3 hm n1 n2 n3)
      refine ⟨ct0, ct, y1, y2, fun j => ?_⟩
      obtain ⟨ct9, z1, z2⟩ := sfit_cell hS hm
      rw [y1] at z1
      cases z1
      match X, y3, z2 with
      | .inl c, y3, z2 =>
        have y3 : ct = c := y3
        have z2 : ct0 = c := z2
        rw [y3, z2]
      | .inr O, y3, z2 =>
        by_cases hj : ∃ e9 ∈ O, sden ρ e9.1 = j
        · obtain ⟨e9, he9, w9⟩ := hj
          rw [← w9, y3.2.1 e9 he9, z2.2.1 e9 he9]
        · exact y3.2.2 j fun e9 he9 w => hj ⟨e9, he9, w⟩
  · cases h1

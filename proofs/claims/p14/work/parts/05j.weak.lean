/-! ===== what a run leaves, held against what the next one needs ===== -/
def swc (X2 X : sX) : Bool := match X2, X with
  | .inl c2, .inl c => Nat.beq c2 c
  | .inr O2, .inr O => O.isSublist O2
  | _, _ => false
def swk : sH → sH → Bool
  | [], [] => true
  | e2 :: t2, e :: t => Nat.beq e2.1 e.1 && (Nat.beq e2.2.1 e.2.1 && (Nat.beq e2.2.2.1 e.2.2.1 && (swc e2.2.2.2 e.2.2.2 && swk t2 t)))
  | _, _ => false
theorem swc_s {ρ : Nat → Nat} {w ct0 ct : Nat} {X2 X : sX} (h : swc X2 X = true) (hX : sct ρ w ct0 X2 ct) : sct ρ w ct X ct := by
  match X2, X, h, hX with
  | .inl c2, .inl c, h, hX =>
    have e := Nat.eq_of_beq_eq_true h
    have hX : ct = c2 := hX
    show ct = c
    rw [hX, e]
  | .inr O2, .inr O, h, hX =>
    have hs : O.Sublist O2 := List.isSublist_iff_sublist.mp h
    obtain ⟨h1, h2, -⟩ := hX
    exact ⟨(hs.map _).nodup h1, fun e he => h2 e (hs.subset he), fun _ _ => rfl⟩
theorem swk_keys {S2 S : sH} (h : swk S2 S = true) : S2.map (·.1) = S.map (·.1) := by
  induction S2 generalizing S with
  | nil => cases S with
    | nil => rfl
    | cons e t => cases h
  | cons e2 t2 ih => cases S with
    | nil => cases h
    | cons e t =>
      simp only [swk, Bool.and_eq_true] at h
      rw [List.map_cons, List.map_cons, Nat.eq_of_beq_eq_true h.1, ih h.2.2.2.2]
theorem swk_mem {S2 S : sH} (h : swk S2 S = true) {a kd n : Nat} {X : sX} (hm : (a, kd, n, X) ∈ S) : ∃ X2, (a, kd, n, X2) ∈ S2 ∧ swc X2 X = true := by
  induction S2 generalizing S with
  | nil => cases S with
    | nil => cases hm
    | cons e t => cases h
  | cons e2 t2 ih => cases S with
    | nil => cases h
    | cons e t =>
      simp only [swk, Bool.and_eq_true] at h
      obtain ⟨h1, h2, h3, h4, h5⟩ := h
      rcases List.mem_cons.mp hm with hm | hm
      · obtain ⟨a2, kd2, n2, X2⟩ := e2
        subst hm
        have e1 := Nat.eq_of_beq_eq_true h1
        have e2 := Nat.eq_of_beq_eq_true h2
        have e3 := Nat.eq_of_beq_eq_true h3
        dsimp only at e1 e2 e3
        subst e1 e2 e3
        exact ⟨X2, List.mem_cons_self, h4⟩
      · obtain ⟨X2, q1, q2⟩ := ih h5 hm
        exact ⟨X2, List.mem_cons_of_mem _ q1, q2⟩
/-- a heap of which these things hold -/
def sfit (ρ : Nat → Nat) (Op : Nat → Bool) (S : sH) (u : dH) : Prop := ssat ρ Op u S u
theorem sfit_of {ρ : Nat → Nat} {Op : Nat → Bool} {g : dH} {S2 S : sH} {u : dH} (h : ssat ρ Op g S2 u) (hw : swk S2 S = true) : sfit ρ Op S u := by
  obtain ⟨h1, h2, h3, h4, h5, h6, h7⟩ := h
  have hk := swk_keys hw
  refine ⟨h1, rfl, rfl, by rw [← hk]; exact h4, fun e he => ?_, fun _ _ _ => rfl, fun a kd n X hm => ?_⟩
  · have : e.1 ∈ S.map (·.1) := List.mem_map.mpr ⟨e, he, rfl⟩
    rw [← hk] at this
    obtain ⟨e2, he2, q⟩ := List.mem_map.mp this
    rw [← q]
    exact h5 e2 he2
  · obtain ⟨X2, q1, q2⟩ := swk_mem hw hm
    obtain ⟨c0, ct, g1, g2, g3⟩ := h7 a kd n X2 q1
    exact ⟨ct, ct, g2, g2, swc_s q2 g3⟩
/-- what is known of single cells of a heap, taken together -/
theorem sfit_mk {ρ : Nat → Nat} {Op : Nat → Bool} {S : sH} {u : dH} (hw : hwf u) (hn : (S.map (·.1)).Nodup) (ho : ∀ e ∈ S, Op e.1 = false) (hc : ∀ a kd n X, (a, kd, n, X) ∈ S → ∃ ct, hat u a = some (kd, n, ct) ∧ sct ρ (kw kd) ct X ct) : sfit ρ Op S u :=
  ⟨hw, rfl, rfl, hn, ho, fun _ _ _ => rfl, fun a kd n X hm => by
    obtain ⟨ct, h1, h2⟩ := hc a kd n X hm
    exact ⟨ct, ct, h1, h1, h2⟩⟩
theorem sfit_cell {ρ : Nat → Nat} {Op : Nat → Bool} {S : sH} {u : dH} (h : sfit ρ Op S u) {a kd n : Nat} {X : sX} (hm : (a, kd, n, X) ∈ S) : ∃ ct, hat u a = some (kd, n, ct) ∧ sct ρ (kw kd) ct X ct := by
  obtain ⟨c0, ct, g1, g2, g3⟩ := h.2.2.2.2.2.2 a kd n X hm
  rw [g1] at g2
  cases g2
  exact ⟨c0, g1, g3⟩

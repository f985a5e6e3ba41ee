/-! ===== sums that stand for numbers: a number and some unknowns, each between two bounds ===== -/
abbrev sN : Type := Nat × List Nat
abbrev sV : Type := sN ⊕ sN ⊕ Nat
abbrev sL : Type := List (Nat × sV)
/-- what the unknowns of a list come to -/
def ssum (ρ : Nat → Nat) : List Nat → Nat
  | [] => 0
  | v :: t => ρ v + ssum ρ t
def sden (ρ : Nat → Nat) (a : sN) : Nat := a.1 + ssum ρ a.2
def svd (ρ : Nat → Nat) : sV → dV
  | .inl a => .inl (sden ρ a)
  | .inr (.inl a) => .inr (.inl (sden ρ a))
  | .inr (.inr k) => .inr (.inr k)
def slD (ρ : Nat → Nat) (L : sL) : dL := L.map fun e => (e.1, svd ρ e.2)
/-- the unknowns keep to their bounds -/
def sok (ρ : Nat → Nat) (B : List (Nat × Nat)) : Prop := ∀ (v lo hi : Nat), B[v]? = some (lo, hi) → lo ≤ ρ v ∧ ρ v ≤ hi
section S
variable {β : Type}
/-- the least and the greatest that a sum can be -/
noncomputable def shi (B : List (Nat × Nat)) (z : β) (vs : List Nat) : Nat → Nat → (Nat → Nat → β) → β := List.rec (motive := fun _ => Nat → Nat → (Nat → Nat → β) → β) (fun lo hi k => k lo hi) (fun v _ ih lo hi k => Option.rec (motive := fun _ => β) z (fun q => fo (Nat.add lo q.1) fun lo => fo (Nat.add hi q.2) fun hi => ih lo hi k) (nth B v)) vs
theorem shi_spec {ρ : Nat → Nat} {B : List (Nat × Nat)} (hB : sok ρ B) (z : β) (vs : List Nat) (lo hi c : Nat) (k : Nat → Nat → β) (h1 : lo ≤ c) (h2 : c ≤ hi) : shi B z vs lo hi k = z ∨ ∃ lo' hi', shi B z vs lo hi k = k lo' hi' ∧ lo' ≤ c + ssum ρ vs ∧ c + ssum ρ vs ≤ hi' := by
  induction vs generalizing lo hi c with
  | nil => exact Or.inr ⟨lo, hi, rfl, h1, h2⟩
  | cons v t ih =>
    cases e : nth B v with
    | none =>
      left
      show Option.rec (motive := fun _ => β) z _ (nth B v) = z
      rw [e]
    | some q =>
      have e2 : shi B z (v :: t) lo hi k = shi B z t (Nat.add lo q.1) (Nat.add hi q.2) k := by
        show Option.rec (motive := fun _ => β) z _ (nth B v) = _
        rw [e]
        show fo _ _ = _
        rw [fo_eq, fo_eq]; rfl
      rw [nth_eq] at e
      obtain ⟨q1, q2⟩ := q
      obtain ⟨h3, h4⟩ := hB v q1 q2 e
      rw [e2]
      have h5 : c + ssum ρ (v :: t) = (c + ρ v) + ssum ρ t := by simp only [ssum]; omega
      rw [h5]
      exact ih (lo + q1) (hi + q2) (c + ρ v) (by omega) (by omega)
/-- take one unknown out of a list -/
noncomputable def srm (v : Nat) (no : β) (ws : List Nat) : (List Nat → β) → β := List.rec (motive := fun _ => (List Nat → β) → β) (fun _ => no) (fun w t ih y => cond (Nat.beq w v) (y t) (ih fun u => y (w :: u))) ws
theorem srm_spec (ρ : Nat → Nat) (v : Nat) (no : β) (ws : List Nat) (y : List Nat → β) : srm v no ws y = no ∨ ∃ u, srm v no ws y = y u ∧ ssum ρ ws = ρ v + ssum ρ u := by
  induction ws generalizing y with
  | nil => exact Or.inl rfl
  | cons w t ih =>
    have e : srm v no (w :: t) y = cond (Nat.beq w v) (y t) (srm v no t fun u => y (w :: u)) := rfl
    cases hb : Nat.beq w v with
    | true =>
      rw [e, hb]
      have := Nat.eq_of_beq_eq_true hb
      subst this
      exact Or.inr ⟨t, rfl, rfl⟩
    | false =>
      rw [e, hb]
      rcases ih (fun u => y (w :: u)) with h | ⟨u, h1, h2⟩
      · exact Or.inl h
      · exact Or.inr ⟨w :: u, h1, by simp only [ssum]; omega⟩
/-- what two lists have in common goes out of both -/
noncomputable def scn (vs : List Nat) : List Nat → List Nat → (List Nat → List Nat → β) → β := List.rec (motive := fun _ => List Nat → List Nat → (List Nat → List Nat → β) → β) (fun ws acc k => k acc ws) (fun v _ ih ws acc k => srm v (ih ws (v :: acc) k) ws fun u => ih u acc k) vs
theorem scn_spec (ρ : Nat → Nat) (vs ws acc : List Nat) (k : List Nat → List Nat → β) : ∃ xs ys, scn vs ws acc k = k xs ys ∧ ssum ρ vs + ssum ρ acc + ssum ρ ys = ssum ρ ws + ssum ρ xs := by
  induction vs generalizing ws acc with
  | nil => exact ⟨acc, ws, rfl, by simp only [ssum]; omega⟩
  | cons v t ih =>
    have e : scn (v :: t) ws acc k = srm v (scn t ws (v :: acc) k) ws (fun u => scn t u acc k) := rfl
    rcases srm_spec ρ v (scn t ws (v :: acc) k) ws (fun u => scn t u acc k) with h | ⟨u, h1, h2⟩
    · obtain ⟨xs, ys, g1, g2⟩ := ih ws (v :: acc)
      exact ⟨xs, ys, by rw [e, h, g1], by simp only [ssum] at *; omega⟩
    · obtain ⟨xs, ys, g1, g2⟩ := ih u acc
      exact ⟨xs, ys, by rw [e, h1, g1], by simp only [ssum] at *; omega⟩
noncomputable def snil (vs : List Nat) (y n : β) : β := List.rec (motive := fun _ => β) y (fun _ _ _ => n) vs
theorem snil_spec (vs : List Nat) (y n : β) : (vs = [] ∧ snil vs y n = y) ∨ (vs ≠ [] ∧ snil vs y n = n) := by
  cases vs with
  | nil => exact Or.inl ⟨rfl, rfl⟩
  | cons a t => exact Or.inr ⟨by simp, rfl⟩
/-- less, the same, more -/
noncomputable def scmp (B : List (Nat × Nat)) (a b : sN) (lt eq gt z : β) : β := scn a.2 b.2 [] fun xs ys => snil xs (snil ys (cond (Nat.blt a.1 b.1) lt (cond (Nat.beq a.1 b.1) eq gt)) (shi B z xs a.1 a.1 fun lo1 hi1 => shi B z ys b.1 b.1 fun lo2 hi2 => cond (Nat.blt hi1 lo2) lt (cond (Nat.blt hi2 lo1) gt z))) (shi B z xs a.1 a.1 fun lo1 hi1 => shi B z ys b.1 b.1 fun lo2 hi2 => cond (Nat.blt hi1 lo2) lt (cond (Nat.blt hi2 lo1) gt z))
theorem scmp_spec {ρ : Nat → Nat} {B : List (Nat × Nat)} (hB : sok ρ B) (a b : sN) (lt eq gt z : β) : scmp B a b lt eq gt z = z ∨ (scmp B a b lt eq gt z = lt ∧ sden ρ a < sden ρ b) ∨ (scmp B a b lt eq gt z = eq ∧ sden ρ a = sden ρ b) ∨ (scmp B a b lt eq gt z = gt ∧ sden ρ b < sden ρ a) := by
  obtain ⟨xs, ys, h1, h2⟩ := scn_spec ρ a.2 b.2 [] (fun xs ys => snil xs (snil ys (cond (Nat.blt a.1 b.1) lt (cond (Nat.beq a.1 b.1) eq gt)) (shi B z xs a.1 a.1 fun lo1 hi1 => shi B z ys b.1 b.1 fun lo2 hi2 => cond (Nat.blt hi1 lo2) lt (cond (Nat.blt hi2 lo1) gt z))) (shi B z xs a.1 a.1 fun lo1 hi1 => shi B z ys b.1 b.1 fun lo2 hi2 => cond (Nat.blt hi1 lo2) lt (cond (Nat.blt hi2 lo1) gt z)))
  unfold scmp sden
  rw [h1]
  simp only [ssum, Nat.add_zero] at h2
  have key : ∀ X : β, X = shi B z xs a.1 a.1 (fun lo1 hi1 => shi B z ys b.1 b.1 fun lo2 hi2 => cond (Nat.blt hi1 lo2) lt (cond (Nat.blt hi2 lo1) gt z)) → X = z ∨ (X = lt ∧ a.1 + ssum ρ a.2 < b.1 + ssum ρ b.2) ∨ (X = eq ∧ a.1 + ssum ρ a.2 = b.1 + ssum ρ b.2) ∨ (X = gt ∧ b.1 + ssum ρ b.2 < a.1 + ssum ρ a.2) := by
    intro X hX
    rcases shi_spec hB z xs a.1 a.1 a.1 (fun lo1 hi1 => shi B z ys b.1 b.1 fun lo2 hi2 => cond (Nat.blt hi1 lo2) lt (cond (Nat.blt hi2 lo1) gt z)) (Nat.le_refl _) (Nat.le_refl _) with g | ⟨lo1, hi1, g, g1, g2⟩
    · exact Or.inl (hX.trans g)
    · rcases shi_spec hB z ys b.1 b.1 b.1 (fun lo2 hi2 => cond (Nat.blt hi1 lo2) lt (cond (Nat.blt hi2 lo1) gt z)) (Nat.le_refl _) (Nat.le_refl _) with q | ⟨lo2, hi2, q, q1, q2⟩
      · exact Or.inl (hX.trans (g.trans q))
      · rw [hX, g, q]
        cases e1 : Nat.blt hi1 lo2 with
        | true => exact Or.inr (Or.inl ⟨rfl, by have := di_blt.mp e1; omega⟩)
        | false => cases e2 : Nat.blt hi2 lo1 with
          | true => exact Or.inr (Or.inr (Or.inr ⟨rfl, by have := di_blt.mp e2; omega⟩))
          | false => exact Or.inl rfl
  rcases snil_spec xs (snil ys (cond (Nat.blt a.1 b.1) lt (cond (Nat.beq a.1 b.1) eq gt)) (shi B z xs a.1 a.1 fun lo1 hi1 => shi B z ys b.1 b.1 fun lo2 hi2 => cond (Nat.blt hi1 lo2) lt (cond (Nat.blt hi2 lo1) gt z))) (shi B z xs a.1 a.1 fun lo1 hi1 => shi B z ys b.1 b.1 fun lo2 hi2 => cond (Nat.blt hi1 lo2) lt (cond (Nat.blt hi2 lo1) gt z)) with ⟨hx, e⟩ | ⟨_, e⟩
  · rcases snil_spec ys (cond (Nat.blt a.1 b.1) lt (cond (Nat.beq a.1 b.1) eq gt)) (shi B z xs a.1 a.1 fun lo1 hi1 => shi B z ys b.1 b.1 fun lo2 hi2 => cond (Nat.blt hi1 lo2) lt (cond (Nat.blt hi2 lo1) gt z)) with ⟨hy, e2⟩ | ⟨_, e2⟩
    · rw [e, e2]
      subst hx hy
      simp only [ssum] at h2
      cases e3 : Nat.blt a.1 b.1 with
      | true => exact Or.inr (Or.inl ⟨rfl, by have := di_blt.mp e3; omega⟩)
      | false => cases e4 : Nat.beq a.1 b.1 with
        | true => exact Or.inr (Or.inr (Or.inl ⟨rfl, by have := Nat.eq_of_beq_eq_true e4; omega⟩))
        | false =>
          have h5 : ¬ a.1 < b.1 := fun w => by rw [di_blt.mpr w] at e3; cases e3
          have h6 : a.1 ≠ b.1 := fun w => by rw [w, Nat.beq_refl] at e4; cases e4
          exact Or.inr (Or.inr (Or.inr ⟨rfl, by omega⟩))
    · exact key _ (e.trans e2)
  · exact key _ e
end S

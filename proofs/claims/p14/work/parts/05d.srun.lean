/-! ===== a run of the program of words with sums for numbers ===== -/
/-- a heap as a row of cells has it; elsewhere it is as g, but for the cells of Or -/
def ssat (ρ : Nat → Nat) (Or : Nat → Bool) (g : dH) (S : sH) (h : dH) : Prop := hwf h ∧ h.1 = g.1 ∧ h.2.1 = g.2.1 ∧ (S.map (·.1)).Nodup ∧ (∀ e ∈ S, Or e.1 = false) ∧ (∀ a, Or a = false → (∀ e ∈ S, e.1 ≠ a) → hat h a = hat g a) ∧ ∀ a kd n X, (a, kd, n, X) ∈ S → ∃ ct0 ct, hat g a = some (kd, n, ct0) ∧ hat h a = some (kd, n, ct) ∧ sct ρ (kw kd) ct0 X ct
theorem ssat_set {ρ : Nat → Nat} {Or : Nat → Bool} {g : dH} {S : sH} {h h' : dH} (hS : ssat ρ Or g S h) {a kd n : Nat} {X X' : sX} {ct ct' : Nat} (hm : (a, kd, n, X) ∈ S) (hX : ∀ ct0, sct ρ (kw kd) ct0 X ct → sct ρ (kw kd) ct0 X' ct') (hc : hat h a = some (kd, n, ct)) (e1 : h'.1 = h.1) (e2 : h'.2.1 = h.2.1) (hw : hwf h') (e : ∀ j, hat h' j = if j = a then some (kd, n, ct') else hat h j) : ssat ρ Or g (ssl a (kd, n, X') S) h' := by
  obtain ⟨h1, h2, h3, h4, h5, h6, h7⟩ := hS
  refine ⟨hw, e1.trans h2, e2.trans h3, by rw [ssl_keys]; exact h4, fun q hq => ?_, fun q hq hn => ?_, fun q kd' n' Y hq => ?_⟩
  · have hk : q.1 ∈ (ssl a (kd, n, X') S).map (·.1) := List.mem_map.mpr ⟨q, hq, rfl⟩
    rw [ssl_keys] at hk
    obtain ⟨q2, hq2, e3⟩ := List.mem_map.mp hk
    rw [← e3]
    exact h5 q2 hq2
  · have hk : ∀ q2 ∈ S, q2.1 ≠ q := by
      intro q2 hq2 w
      have hk2 : q ∈ S.map (·.1) := List.mem_map.mpr ⟨q2, hq2, w⟩
      rw [← ssl_keys a (kd, n, X')] at hk2
      obtain ⟨q3, hq3, e3⟩ := List.mem_map.mp hk2
      exact hn q3 hq3 e3
    rw [e, if_neg (fun w => hk _ hm w.symm)]
    exact h6 q hq hk
  · rcases ssl_mem h4 hq with w | ⟨w, wn⟩
    · cases w
      obtain ⟨c0, c1, g1, g2, g3⟩ := h7 a kd n X hm
      rw [hc] at g2
      cases g2
      exact ⟨c0, ct', g1, by rw [e, if_pos rfl], hX c0 g3⟩
    · obtain ⟨c0, c1, g1, g2, g3⟩ := h7 q kd' n' Y w
      exact ⟨c0, c1, g1, by rw [e, if_neg wn]; exact g2, g3⟩
abbrev sFr : Type := Bool × Nat × Nat × Nat × Nat × (Nat × Nat) × sL × List sV
/-- where a run stops: at a place, with what waits for it; or with an answer -/
abbrev sLf : Type := (Nat × Nat × Nat × Nat × sL × List sV × sH × List sFr) ⊕ (Option sV × sH)
abbrev sR : Type := Option (List sLf)
section S
variable {α : Type}
noncomputable def sI (v : sV) (k : sN → Option α) : Option α := Sum.rec (motive := fun _ => Option α) k (fun _ => none) v
noncomputable def sJ (v : sV) (k : sN → Option α) : Option α := Sum.rec (motive := fun _ => Option α) (fun _ => none) (fun w => Sum.rec (motive := fun _ => Option α) k (fun _ => none) w) v
noncomputable def sRf (v : sV) (k : Nat → Option α) : Option α := Sum.rec (motive := fun _ => Option α) (fun _ => none) (fun w => Sum.rec (motive := fun _ => Option α) (fun _ => none) k w) v
noncomputable def sA (v : sV) (k : Nat → Option α) : Option α := sRf v fun n => Nat.rec (motive := fun _ => Option α) none (fun m _ => k m) n
noncomputable def sP (st : List sV) (k : sV → List sV → Option α) : Option α := List.rec (motive := fun _ => Option α) none (fun v r _ => k v r) st
noncomputable def t1 (st : List sV) (k : sN → List sV → Option α) : Option α := sP st fun v r => sI v fun a => k a r
noncomputable def t2 (st : List sV) (k : sN → sN → List sV → Option α) : Option α := sP st fun v r => sI v fun b => sP r fun w r => sI w fun a => k a b r
noncomputable def t1l (st : List sV) (k : sN → List sV → Option α) : Option α := sP st fun v r => sJ v fun a => k a r
noncomputable def t2l (st : List sV) (k : sN → sN → List sV → Option α) : Option α := sP st fun v r => sJ v fun b => sP r fun w r => sJ w fun a => k a b r
noncomputable def til (st : List sV) (k : sN → sN → List sV → Option α) : Option α := sP st fun v r => sI v fun b => sP r fun w r => sJ w fun a => k a b r
noncomputable def t1a (st : List sV) (k : Nat → List sV → Option α) : Option α := sP st fun v r => sA v fun a => k a r
noncomputable def tia (st : List sV) (k : Nat → sN → List sV → Option α) : Option α := sP st fun v r => sI v fun i => sP r fun w r => sA w fun a => k a i r
noncomputable def tiia (st : List sV) (k : Nat → sN → sN → List sV → Option α) : Option α := sP st fun v r => sI v fun x => tia r fun a i r => k a i x r
noncomputable def tlia (st : List sV) (k : Nat → sN → sN → List sV → Option α) : Option α := sP st fun v r => sJ v fun x => tia r fun a i r => k a i x r
theorem sI_s {v : sV} {k : sN → Option α} {w : α} (h : sI v k = some w) : ∃ a, v = .inl a ∧ k a = some w := by
  match v, h with
  | .inl a, h => exact ⟨a, rfl, h⟩
  | .inr _, h => cases h
theorem sJ_s {v : sV} {k : sN → Option α} {w : α} (h : sJ v k = some w) : ∃ a, v = .inr (.inl a) ∧ k a = some w := by
  match v, h with
  | .inr (.inl a), h => exact ⟨a, rfl, h⟩
  | .inl _, h => cases h
  | .inr (.inr _), h => cases h
theorem sRf_s {v : sV} {k : Nat → Option α} {w : α} (h : sRf v k = some w) : ∃ a, v = .inr (.inr a) ∧ k a = some w := by
  match v, h with
  | .inr (.inr a), h => exact ⟨a, rfl, h⟩
  | .inl _, h => cases h
  | .inr (.inl _), h => cases h
theorem sA_s {v : sV} {k : Nat → Option α} {w : α} (h : sA v k = some w) : ∃ a, v = .inr (.inr (a + 1)) ∧ k a = some w := by
  obtain ⟨n, rfl, h2⟩ := sRf_s h
  cases n with
  | zero => cases h2
  | succ m => exact ⟨m, rfl, h2⟩
theorem sP_s {st : List sV} {k : sV → List sV → Option α} {w : α} (h : sP st k = some w) : ∃ v r, st = v :: r ∧ k v r = some w := by
  cases st with
  | nil => cases h
  | cons v r => exact ⟨v, r, rfl, h⟩
theorem t1_s {st : List sV} {k : sN → List sV → Option α} {w : α} (h : t1 st k = some w) : ∃ a r, st = .inl a :: r ∧ k a r = some w := by
  obtain ⟨v, r, rfl, h⟩ := sP_s h
  obtain ⟨a, rfl, h⟩ := sI_s h
  exact ⟨a, r, rfl, h⟩
theorem t2_s {st : List sV} {k : sN → sN → List sV → Option α} {w : α} (h : t2 st k = some w) : ∃ a b r, st = .inl b :: .inl a :: r ∧ k a b r = some w := by
  obtain ⟨v, r, rfl, h⟩ := sP_s h
  obtain ⟨b, rfl, h⟩ := sI_s h
  obtain ⟨v, r, rfl, h⟩ := sP_s (st := r) h
  obtain ⟨a, rfl, h⟩ := sI_s h
  exact ⟨a, b, r, rfl, h⟩
theorem t1l_s {st : List sV} {k : sN → List sV → Option α} {w : α} (h : t1l st k = some w) : ∃ a r, st = .inr (.inl a) :: r ∧ k a r = some w := by
  obtain ⟨v, r, rfl, h⟩ := sP_s h
  obtain ⟨a, rfl, h⟩ := sJ_s h
  exact ⟨a, r, rfl, h⟩
theorem t2l_s {st : List sV} {k : sN → sN → List sV → Option α} {w : α} (h : t2l st k = some w) : ∃ a b r, st = .inr (.inl b) :: .inr (.inl a) :: r ∧ k a b r = some w := by
  obtain ⟨v, r, rfl, h⟩ := sP_s h
  obtain ⟨b, rfl, h⟩ := sJ_s h
  obtain ⟨v, r, rfl, h⟩ := sP_s (st := r) h
  obtain ⟨a, rfl, h⟩ := sJ_s h
  exact ⟨a, b, r, rfl, h⟩
theorem til_s {st : List sV} {k : sN → sN → List sV → Option α} {w : α} (h : til st k = some w) : ∃ a b r, st = .inl b :: .inr (.inl a) :: r ∧ k a b r = some w := by
  obtain ⟨v, r, rfl, h⟩ := sP_s h
  obtain ⟨b, rfl, h⟩ := sI_s h
  obtain ⟨v, r, rfl, h⟩ := sP_s (st := r) h
  obtain ⟨a, rfl, h⟩ := sJ_s h
  exact ⟨a, b, r, rfl, h⟩
theorem t1a_s {st : List sV} {k : Nat → List sV → Option α} {w : α} (h : t1a st k = some w) : ∃ a r, st = .inr (.inr (a + 1)) :: r ∧ k a r = some w := by
  obtain ⟨v, r, rfl, h⟩ := sP_s h
  obtain ⟨a, rfl, h⟩ := sA_s h
  exact ⟨a, r, rfl, h⟩
theorem tia_s {st : List sV} {k : Nat → sN → List sV → Option α} {w : α} (h : tia st k = some w) : ∃ a i r, st = .inl i :: .inr (.inr (a + 1)) :: r ∧ k a i r = some w := by
  obtain ⟨v, r, rfl, h⟩ := sP_s h
  obtain ⟨i, rfl, h⟩ := sI_s h
  obtain ⟨v, r, rfl, h⟩ := sP_s (st := r) h
  obtain ⟨a, rfl, h⟩ := sA_s h
  exact ⟨a, i, r, rfl, h⟩
theorem tiia_s {st : List sV} {k : Nat → sN → sN → List sV → Option α} {w : α} (h : tiia st k = some w) : ∃ a i x r, st = .inl x :: .inl i :: .inr (.inr (a + 1)) :: r ∧ k a i x r = some w := by
  obtain ⟨v, r, rfl, h⟩ := sP_s h
  obtain ⟨x, rfl, h⟩ := sI_s h
  obtain ⟨a, i, r, rfl, h⟩ := tia_s h
  exact ⟨a, i, x, r, rfl, h⟩
theorem tlia_s {st : List sV} {k : Nat → sN → sN → List sV → Option α} {w : α} (h : tlia st k = some w) : ∃ a i x r, st = .inr (.inl x) :: .inl i :: .inr (.inr (a + 1)) :: r ∧ k a i x r = some w := by
  obtain ⟨v, r, rfl, h⟩ := sP_s h
  obtain ⟨x, rfl, h⟩ := sJ_s h
  obtain ⟨a, i, r, rfl, h⟩ := tia_s h
  exact ⟨a, i, x, r, rfl, h⟩
end S
noncomputable def sisl (v : sV) : Bool := Sum.rec (motive := fun _ => Bool) (fun _ => false) (fun w => Sum.rec (motive := fun _ => Bool) (fun _ => true) (fun _ => false) w) v
theorem sisl_d (ρ : Nat → Nat) (v : sV) : disl (svd ρ v) = sisl v := by
  match v with
  | .inl _ => rfl
  | .inr (.inl _) => rfl
  | .inr (.inr _) => rfl
noncomputable def sp1 (i : Nat) (q : Nat × sV) : Bool := cond (Nat.beq q.1 i) false (cond (Nat.beq (Nat.succ q.1) i) (cond (sisl q.2) false true) true)
noncomputable def sp2 (i : Nat) (q : Nat × sV) : Bool := cond (Nat.beq q.1 i) false (cond (Nat.beq q.1 (Nat.succ i)) false (cond (Nat.beq (Nat.succ q.1) i) (cond (sisl q.2) false true) true))
theorem sp1_d (ρ : Nat → Nat) (i : Nat) (q : Nat × sV) : dp1 i (q.1, svd ρ q.2) = sp1 i q := by unfold dp1 sp1; rw [sisl_d]
theorem sp2_d (ρ : Nat → Nat) (i : Nat) (q : Nat × sV) : dp2 i (q.1, svd ρ q.2) = sp2 i q := by unfold dp2 sp2; rw [sisl_d]
theorem sy_flt {α β : Type} (p : α → Bool) (L : List α) (k : List α → β) : fltc p L k = k (L.filter p) := by
  induction L generalizing k with
  | nil => rfl
  | cons a t ih =>
    show cond (p a) (fltc p t (fun u => k (a :: u))) (fltc p t k) = _
    cases e : p a
    · rw [List.filter_cons_of_neg (by simp [e])]; exact ih k
    · rw [List.filter_cons_of_pos e]; exact ih _
theorem sy_f1 (ρ : Nat → Nat) (i : Nat) (L : sL) : (slD ρ L).filter (dp1 i) = slD ρ (L.filter (sp1 i)) := by
  unfold slD
  rw [List.filter_map]
  congr 1
  apply List.filter_congr
  intro q _
  exact sp1_d ρ i q
theorem sy_f2 (ρ : Nat → Nat) (i : Nat) (L : sL) : (slD ρ L).filter (dp2 i) = slD ρ (L.filter (sp2 i)) := by
  unfold slD
  rw [List.filter_map]
  congr 1
  apply List.filter_congr
  intro q _
  exact sp2_d ρ i q
noncomputable def slk1 (L : sL) (i : Nat) : Option sV := List.rec (motive := fun _ => Option sV) none (fun a _ ih => cond (Nat.beq a.1 i) (some a.2) ih) L
theorem slk1_d (ρ : Nat → Nat) (L : sL) (i : Nat) : dlk (slD ρ L) i = (slk1 L i).map (svd ρ) := by
  induction L with
  | nil => rfl
  | cons a t ih =>
    show cond (Nat.beq a.1 i) (some (svd ρ a.2)) (dlk (slD ρ t) i) = Option.map (svd ρ) (cond (Nat.beq a.1 i) (some a.2) (slk1 t i))
    cases Nat.beq a.1 i
    · exact ih
    · rfl
noncomputable def sO {α β : Type} (o : Option α) (k : α → Option β) : Option β := Option.rec (motive := fun _ => Option β) none k o
theorem sO_s {α β : Type} {o : Option α} {k : α → Option β} {w : β} (h : sO o k = some w) : ∃ a, o = some a ∧ k a = some w := by
  cases o with
  | none => cases h
  | some a => exact ⟨a, rfl, h⟩
theorem scd_t {a : Bool} {α : Type} {x : Option α} {w : α} (h : cond a x none = some w) : a = true ∧ x = some w := by
  cases a with
  | true => exact ⟨rfl, h⟩
  | false => cases h
theorem sor_s {α : Type} {X : Option α} {P : Prop} {w : α} (h : X = none ∨ P) (e : X = some w) : P := by
  rcases h with h | h
  · rw [h] at e; cases e
  · exact h

/-! ===== programs with methods whose answer at one heap is known ===== -/
theorem dG_up {l : Launch} {D : dD} {b : Nat → Nat} {d d2 y pc : Nat} {L : dL} {st : List dV} {h : dH} {r : Option dV} {h' : dH} (hd : d ≤ d2) (G : dG l D b d y pc L st h r h') : dG l D b d2 y pc L st h r h' :=
  ⟨G.1, fun q hq p e R s m args below meth c H locs cells slots mc ms ls C hR hS hl hm e1 e2 => G.2 q hq p e R s m args below meth c H locs cells slots mc ms ls C hR hS hl ⟨by have := hm.1; omega, by have := hm.2.1; omega, hm.2.2.1, hm.2.2.2⟩ e1 e2⟩
/-- a closure that answers as the method does -/
def dSum (l : Launch) (D : dD) (b : Nat → Nat) (y pc : Nat) (c : dCode) : Prop := ∀ rec d L st h r h', c rec d L st h = some (r, h') → hwf h → dG l D b d y pc L st h r h'
def dPok2 (l : Launch) (D : dD) (b : Nat → Nat) (P : Nat → Nat → Option dCode) : Prop := ∀ y pc c, P y pc = some c → (∃ q is, dMis[y]? = some q ∧ ckb q is pc = true ∧ c = dcomp y is pc) ∨ dSum l D b y pc c
theorem di_sound2 {l : Launch} (hfl : l.stackTraces = false) {D : dD} {b : Nat → Nat} {P : Nat → Nat → Option dCode} (hP : dPok2 l D b P) (f : Nat) : ∀ d y pc L st h r h', drun P f d y pc L st h = some (r, h') → hwf h → dG l D b d y pc L st h r h' := by
  induction f with
  | zero => intro d y pc L st h r h' e; cases e
  | succ f ih =>
    intro d y pc L st h r h' e hw
    change opt (P y pc) (fun c => c (drun P f) d L st h) = _ at e
    obtain ⟨c, hc, e⟩ := opt_inv e
    rcases hP _ _ _ hc with ⟨q, is, hq, hk, rfl⟩ | hs
    · exact di_blk hfl ih hq is pc hk _ _ _ _ _ _ e hw
    · exact hs _ _ _ _ _ _ _ e hw
theorem dPok2_of {l : Launch} {D : dD} {b : Nat → Nat} {P : Nat → Nat → Option dCode} (hP : dPok P) : dPok2 l D b P := fun y pc c h => Or.inl (hP y pc c h)
/-- the answer at one heap, else what z says -/
noncomputable def dorc (d0 : Nat) (L0 : dL) (h0 : dH) (r : Option dV) (h1 : dH) (z : dCode) : dCode := fun rec d L st h => cond (Nat.ble d0 d) (cond (decide (L = L0 ∧ st = [] ∧ h = h0)) (some (r, h1)) (z rec d L st h)) (z rec d L st h)
theorem dSum_none {l : Launch} {D : dD} {b : Nat → Nat} {y pc : Nat} : dSum l D b y pc dnone := fun _ _ _ _ _ _ _ h => nomatch h
theorem dSum_orc {l : Launch} {D : dD} {b : Nat → Nat} {y pc d0 : Nat} {L0 : dL} {h0 h1 : dH} {r : Option dV} {z : dCode} (hz : dSum l D b y pc z) (G : hwf h0 → dG l D b d0 y pc L0 [] h0 r h1) : dSum l D b y pc (dorc d0 L0 h0 r h1 z) := by
  intro rec d L st h r2 h2 e hw
  unfold dorc at e
  cases hd : Nat.ble d0 d with
  | false => rw [hd] at e; exact hz _ _ _ _ _ _ _ e hw
  | true =>
    rw [hd] at e
    simp only [cond_true] at e
    by_cases hh : L = L0 ∧ st = [] ∧ h = h0
    · rw [decide_eq_true hh] at e
      simp only [cond_true] at e
      obtain ⟨rfl, rfl, rfl⟩ := hh
      cases e
      exact dG_up (Nat.le_of_ble_eq_true hd) (G hw)
    · rw [decide_eq_false hh] at e
      exact hz _ _ _ _ _ _ _ e hw
/-- what is kept of a place -/
noncomputable def dqk (l : List (Nat × Nat × dCode)) (y pc : Nat) : Option dCode := List.rec (motive := fun _ => Option dCode) none (fun a _ ih => cond (Nat.beq a.1 y) (cond (Nat.beq a.2.1 pc) (some a.2.2) ih) ih) l
/-- a program with some places answered -/
noncomputable def dPo (tab : List (Nat × Nat × dCode)) (y pc : Nat) : Option dCode := match dqk tab y pc with
  | none => dProg y pc
  | some c => some c
theorem dqk_mem {l : List (Nat × Nat × dCode)} {y pc : Nat} {c : dCode} (h : dqk l y pc = some c) : (y, pc, c) ∈ l := by
  induction l with
  | nil => cases h
  | cons a t ih =>
    have h2 : cond (Nat.beq a.1 y) (cond (Nat.beq a.2.1 pc) (some a.2.2) (dqk t y pc)) (dqk t y pc) = some c := h
    cases e : Nat.beq a.1 y
    · rw [e] at h2; exact List.mem_cons_of_mem _ (ih h2)
    · rw [e] at h2
      cases e2 : Nat.beq a.2.1 pc
      · rw [e2] at h2; exact List.mem_cons_of_mem _ (ih h2)
      · rw [e2] at h2
        cases h2
        rw [← Nat.eq_of_beq_eq_true e, ← Nat.eq_of_beq_eq_true e2]
        exact List.mem_cons_self
theorem dPo_ok {l : Launch} {D : dD} {b : Nat → Nat} {tab : List (Nat × Nat × dCode)} (ht : ∀ e ∈ tab, dSum l D b e.1 e.2.1 e.2.2) : dPok2 l D b (dPo tab) := by
  intro y pc c h
  unfold dPo at h
  split at h
  · exact Or.inl (dProg_ok _ _ _ h)
  · rename_i c' hc
    cases h
    exact Or.inr (ht _ (dqk_mem hc))
def dok (o : dR) (r : Option dV) (h : dH) : Bool := match o with
  | none => false
  | some (a, g) => decide (a = r ∧ g = h)
theorem dok_eq {o : dR} {r : Option dV} {h : dH} (e : dok o r h = true) : o = some (r, h) := by
  unfold dok at e
  split at e
  · cases e
  · rename_i a g
    obtain ⟨rfl, rfl⟩ := of_decide_eq_true e
    rfl
theorem dG_eq {l : Launch} (hfl : l.stackTraces = false) {D : dD} {b : Nat → Nat} {P : Nat → Nat → Option dCode} (hP : dPok2 l D b P) {f d y pc : Nat} {L : dL} {st : List dV} {h : dH} {r : Option dV} {h' : dH} (e : drun P f d y pc L st h = some (r, h')) : hwf h → dG l D b d y pc L st h r h' := fun hw => di_sound2 hfl hP f _ _ _ _ _ _ _ _ e hw
theorem dG_of {l : Launch} (hfl : l.stackTraces = false) {D : dD} {b : Nat → Nat} {tab : List (Nat × Nat × dCode)} (ht : ∀ e ∈ tab, dSum l D b e.1 e.2.1 e.2.2) {f d y pc : Nat} {L : dL} {st : List dV} {h : dH} {r : Option dV} {h' : dH} (e : dok (drun (dPo tab) f d y pc L st h) r h' = true) : hwf h → dG l D b d y pc L st h r h' := dG_eq hfl (dPo_ok ht) (dok_eq e)

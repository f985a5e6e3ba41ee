/-! ===== to hold what a symbolic run comes to against what is written ===== -/
def dqN : DecidableEq sN := inferInstance
def dqV : DecidableEq sV := inferInstance
def dqX : DecidableEq sX := inferInstance
def dqC : DecidableEq sC := fun a b => @instDecidableEqProd Nat (Nat × sX) inferInstance (fun c d => @instDecidableEqProd Nat sX inferInstance dqX c d) a b
def dqE : DecidableEq (Nat × sC) := fun a b => @instDecidableEqProd Nat sC inferInstance dqC a b
def dqH : DecidableEq sH := fun a b => @instDecidableEqList (Nat × sC) dqE a b
def dqO : DecidableEq (Option sV) := inferInstance
/-- a run that answers so, with such a heap, and nothing else -/
def sEq (r : sR) (v : Option sV) (S : sH) : Bool := match r with
  | some [.inr p] => @decide (p.1 = v) (dqO p.1 v) && @decide (p.2 = S) (dqH p.2 S)
  | _ => false
theorem sEq_s {r : sR} {v : Option sV} {S : sH} (h : sEq r v S = true) : r = some [.inr (v, S)] := by
  unfold sEq at h
  split at h
  · rename_i p
    simp only [Bool.and_eq_true] at h
    obtain ⟨h1, h2⟩ := h
    have e1 := @of_decide_eq_true _ (dqO p.1 v) h1
    have e2 := @of_decide_eq_true _ (dqH p.2 S) h2
    obtain ⟨p1, p2⟩ := p
    dsimp only at e1 e2
    rw [e1, e2]
  · cases h
section U
variable {B : List (Nat × Nat)} {fx : Nat → sN → sN → Option sN} {kdo : Nat → Option Nat} {pg : Nat → Nat → Option (List dI)} {pgh : Nat → Nat → Option (List sHi)} {stp : Nat → Nat → List sFr → Bool} {orc : Nat → List sV → Option (List (Option sV))} {F0 D0 : Nat} {P : Nat → Nat → Option dCode} {ρ : Nat → Nat} {Op : Nat → Bool} {g : dH} {I : dH → Prop}
/-- what must hold for a symbolic run to speak of the program: bounds, facts of operations, blocks, what lies apart, kinds of objects, contracts -/
def sFor (B : List (Nat × Nat)) (fx : Nat → sN → sN → Option sN) (kdo : Nat → Option Nat) (pg : Nat → Nat → Option (List dI)) (pgh : Nat → Nat → Option (List sHi)) (orc : Nat → List sV → Option (List (Option sV))) (F0 D0 : Nat) (P : Nat → Nat → Option dCode) (ρ : Nat → Nat) (Op : Nat → Bool) (g : dH) (I : dH → Prop) : Prop :=
  sok ρ B ∧ (∀ i a b v, fx i a b = some v → opf i (sden ρ a) (sden ρ b) = sden ρ v) ∧ (∀ y pc is, pg y pc = some is → P y pc = some (dcomp y is pc)) ∧ (∀ y pc hl, pgh y pc = some hl → ∃ is, pg y pc = some is ∧ hl = is.map hxf) ∧ (∀ u u2 : dH, (∀ q, Op q = true → hat u2 q = hat u q) → hwf u2 → I u → I u2) ∧ (∀ a kd, kdo a = some kd → ∀ S u, ssat ρ Op g S u → I u → ∃ n ct, hat u a = some (kd, n, ct)) ∧
  (∀ y as outs, orc y as = some outs → ∀ f d u S, F0 ≤ f → D0 ≤ d → ssat ρ Op g S u → I u → ∃ o ∈ outs, ∃ u2, (dargs (as.map (svd ρ)) 0 fun L _ => drun P f d y 0 L [] u) = some (o.map (svd ρ), u2) ∧ I u2 ∧ hwf u2 ∧ u2.1 = u.1 ∧ u2.2.1 = u.2.1 ∧ ∀ a, Op a = false → hat u2 a = hat u a)
/-- from a place on to its leaves -/
theorem sex_go (W : sFor B fx kdo pg pgh orc F0 D0 P ρ Op g I) {N f d y pc : Nat} {L : sL} {st : List sV} {S : sH} {lv : List sLf} (h : sex B fx kdo pgh stp orc F0 D0 N f d y pc (0, 0) [] L st S [] [] = some lv) (e : Nat) {G : dR → Prop} (hl : ∀ x ∈ lv, leafOK pg P ρ e Op g I G x) {u : dH} (hS : ssat ρ Op g S u) (hI : I u) : G (drun P (f + e) d y pc (slD ρ L) (st.map (svd ρ)) u) :=
  (sex_ok e W.1 W.2.1 W.2.2.1 W.2.2.2.1 W.2.2.2.2.1 W.2.2.2.2.2.1 W.2.2.2.2.2.2 N f d y pc (0, 0) [] [] L st S [] [] lv (Or.inl rfl) rfl h hl u hS hI).2
/-- a method that comes to one answer -/
theorem sex_call (W : sFor B fx kdo pg pgh orc F0 D0 P ρ Op g I) {N f d y : Nat} {L : sL} {S S2 : sH} {v : Option sV} (h : sEq (sex B fx kdo pgh stp orc F0 D0 N f d y 0 (0, 0) [] L [] S [] []) v S2 = true) (e : Nat) {u : dH} (hS : ssat ρ Op g S u) (hI : I u) : ∃ u2, drun P (f + e) d y 0 (slD ρ L) [] u = some (v.map (svd ρ), u2) ∧ ssat ρ Op g S2 u2 ∧ I u2 := by
  refine sex_go W (sEq_s h) e (G := fun z => ∃ u2, z = some (v.map (svd ρ), u2) ∧ ssat ρ Op g S2 u2 ∧ I u2) ?_ hS hI
  intro x hx
  rw [List.mem_singleton.mp hx]
  exact fun u2 h2 h3 => ⟨u2, rfl, h2, h3⟩
/-- all leaves answer so; of their heaps something is checked -/
def sAll (r : sR) (chk : Option sV → sH → Bool) : Bool := match r with
  | some lv => lv.all fun x => match x with
    | .inr p => chk p.1 p.2
    | .inl _ => false
  | none => false
theorem sex_all (W : sFor B fx kdo pg pgh orc F0 D0 P ρ Op g I) {N f d y pc : Nat} {L : sL} {st : List sV} {S : sH} {chk : Option sV → sH → Bool} (h : sAll (sex B fx kdo pgh stp orc F0 D0 N f d y pc (0, 0) [] L st S [] []) chk = true) (e : Nat) {u : dH} (hS : ssat ρ Op g S u) (hI : I u) : ∃ v S2 u2, chk v S2 = true ∧ drun P (f + e) d y pc (slD ρ L) (st.map (svd ρ)) u = some (v.map (svd ρ), u2) ∧ ssat ρ Op g S2 u2 ∧ I u2 := by
  cases hr : sex B fx kdo pgh stp orc F0 D0 N f d y pc (0, 0) [] L st S [] [] with
  | none => rw [hr] at h; cases h
  | some lv =>
    rw [hr] at h
    refine sex_go W hr e (G := fun z => ∃ v S2 u2, chk v S2 = true ∧ z = some (v.map (svd ρ), u2) ∧ ssat ρ Op g S2 u2 ∧ I u2) ?_ hS hI
    intro x hx
    have h2 := List.all_eq_true.mp h x hx
    match x, h2 with
    | .inr p, h2 => exact fun u2 h3 h4 => ⟨p.1, p.2, u2, h2, rfl, h3, h4⟩
end U

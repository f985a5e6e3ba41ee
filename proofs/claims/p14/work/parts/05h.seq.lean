/-! ===== to hold what a symbolic run comes to against what is written ===== -/
def dqN : DecidableEq sN := inferInstance
def dqV : DecidableEq sV := inferInstance
def dqX : DecidableEq sX := inferInstance
def dqC : DecidableEq sC := fun a b => @instDecidableEqProd Nat (Nat × sX) inferInstance (fun c d => @instDecidableEqProd Nat sX inferInstance dqX c d) a b
def dqE : DecidableEq (Nat × sC) := fun a b => @instDecidableEqProd Nat sC inferInstance dqC a b
def dqH : DecidableEq sH := fun a b => @instDecidableEqList (Nat × sC) dqE a b
def dqO : DecidableEq (Option sV) := inferInstance
/-- a run that answers so, with such a heap, and nothing else -/
def sEq (r : sR) (v : Option sV) (S : sH) : Bool := match r with
  | some [.inr p] => @decide (p.1 = v) (dqO p.1 v) && @decide (p.2 = S) (dqH p.2 S)
  | _ => false
theorem sEq_s {r : sR} {v : Option sV} {S : sH} (h : sEq r v S = true) : r = some [.inr (v, S)] := by
  unfold sEq at h
  split at h
  · rename_i p
    simp only [Bool.and_eq_true] at h
    obtain ⟨h1, h2⟩ := h
    have e1 := @of_decide_eq_true _ (dqO p.1 v) h1
    have e2 := @of_decide_eq_true _ (dqH p.2 S) h2
    obtain ⟨p1, p2⟩ := p
    dsimp only at e1 e2
    rw [e1, e2]
  · cases h

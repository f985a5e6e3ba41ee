/-! ===== no exceptions are made ===== -/
section DXM
variable {l : Launch} {D : dD} {b : Nat → Nat} {q : dMI} {d pc : Nat} {L : dL} {st : List dV} {h h1 : dH} {r : Option dV} {h' : dH}
theorem ds_xnew (hfl : l.stackTraces = false) {ik is w ic : Nat} (hn : h.1 < 1073741824) (hxn : (q.1, ik, is, w, ic) ∈ dXN) (hsr : (q.1, is, w) ∈ dSR) (d0 : decode q.2.2.1 pc = .ok (.new ik, 3)) (d3 : decode q.2.2.1 (pc + 3) = .ok (.dup, 1)) (d4 : decode q.2.2.1 (pc + 4) = .ok (.ldc is, 2)) (d6 : decode q.2.2.1 (pc + 6) = .ok (.invokespecial ic, 3)) (hd : 10 ≤ d) (hc : dcat st ≤ 8)
    (z1 : h1.1 = h.1 + 1) (z2 : h1.2.1 = h.2.1 + 6) (hw1 : hwf h1) (eh : ∀ j, hat h1 j = if j = h.1 then some (18, 6, 0) else hat h j) (y1 : h1.1 ≤ h'.1) (y2 : h1.2.1 ≤ h'.2.1) (G : dWp l D b q d (pc + 9) L (.inr (.inr (Nat.succ h.1)) :: st) h1 r h') : dWp l D b q d pc L st h r h' := by
  cases hxn
end DXM

/-! ===== calls and answers on the machine ===== -/
noncomputable def dal : Nat → List dV → dL
  | _, [] => []
  | i, v :: t => (i, v) :: dal (if disl v = true then i + 2 else i + 1) t
noncomputable def dsz : List dV → Nat
  | [] => 0
  | v :: t => (if disl v = true then 2 else 1) + dsz t
theorem dargs_eq {β : Type} (as : List dV) (i : Nat) (k : dL → Nat → β) : dargs as i k = k (dal i as) (i + dsz as) := by
  induction as generalizing i k with
  | nil => rfl
  | cons v t ih =>
    show cond (disl v) (dargs t (Nat.succ (Nat.succ i)) (fun u n => k ((i, v) :: u) n)) (dargs t (Nat.succ i) (fun u n => k ((i, v) :: u) n)) = _
    cases e : disl v
    · show dargs t (Nat.succ i) _ = _
      rw [ih]
      simp only [dal, dsz, e]
      rw [show Nat.succ i + dsz t = i + (1 + dsz t) by omega]
      rfl
    · show dargs t (Nat.succ (Nat.succ i)) _ = _
      rw [ih]
      simp only [dal, dsz, e]
      rw [show Nat.succ (Nat.succ i) + dsz t = i + (2 + dsz t) by omega]
      rfl
theorem dal_lv (b : Nat → Nat) (as : List dV) (i : Nat) : lv_args i (as.map (dv b)) = dLv b (dal i as) := by
  induction as generalizing i with
  | nil => rfl
  | cons v t ih =>
    show (i, dv b v) :: lv_args (if (dv b v).category = 2 then i + 2 else i + 1) (t.map (dv b)) = (i, dv b v) :: dLv b (dal (if disl v = true then i + 2 else i + 1) t)
    rw [ih, dcat1]
    cases disl v <;> rfl
theorem dsz_lg (b : Nat → Nat) (as : List dV) : (lg_sl (as.map (dv b))).length = dsz as := by
  induction as with
  | nil => rfl
  | cons v t ih =>
    simp only [lg_sl, List.map_cons, List.flatMap_cons, List.length_append, dsz] at ih ⊢
    rw [ih, dcat1]
    cases disl v <;> rfl
theorem dcat_eq (b : Nat → Nat) (st : List dV) : ((st.map (dv b)).map fun v => v.category).sum = dcat st := by
  induction st with
  | nil => rfl
  | cons v t ih =>
    show (dv b v).category + ((t.map (dv b)).map fun v => v.category).sum = Nat.add (cond (disl v) 2 1) (dcat t)
    rw [ih, dcat1]
    cases disl v <;> rfl
theorem dpop_spec {n : Nat} {st acc : List dV} {k : List dV → List dV → dR} {w : Option dV × dH} (hz : dpop n st acc k = some w) : ∃ as rest, st = as.reverse ++ rest ∧ as.length = n ∧ k (as ++ acc) rest = some w := by
  induction n generalizing st acc with
  | zero => exact ⟨[], st, rfl, rfl, hz⟩
  | succ n ih =>
    cases st with
    | nil => cases hz
    | cons v t =>
      obtain ⟨as, rest, h1, h2, h3⟩ := ih (st := t) (acc := v :: acc) hz
      refine ⟨as ++ [v], rest, by rw [h1]; simp, by simp [h2], by simpa using h3⟩
def dpush (r : Option dV) (st : List dV) : List dV := match r with
  | none => st
  | some v => v :: st
theorem dgo_eq (nxt : dCode) (rec : dRec) (d : Nat) (L : dL) (r : List dV) (v : Option dV) (h : dH) : dgo nxt rec d L r v h = nxt rec d L (dpush v r) h := by cases v <;> rfl
/-- a method's contract: what the program of words answers, the machine answers -/
def dMet (l : Launch) (D : dD) (b : Nat → Nat) (q : dMI) (d : Nat) (as : List dV) (h : dH) (v : Option dV) (h1 : dH) : Prop :=
  Met l q.2.1 (dTs q) ({ frames := d, cells := h1.1 - h.1, slots := h1.2.1 - h.2.1, locals := d * 64 } : Room) (va_Pc (as.map (dv b)) (fun U => dRl D b h U.heap ∧ dKK D b U U.heap)) (dQ D b v h1) (h1.1 - h.1) (h1.2.1 - h.2.1) (fun x => b 0 ≤ x)
theorem dTs_p {t : dMI} (h : t ∈ dMs) : dTs t = Cond.code t.2.1 t.2.2.1 t.2.2.2.1 t.2.2.2.2 :: dTB := by
  show dWC t :: dTB = _
  rw [dMs_c h]
theorem dMet_of {l : Launch} {D : dD} {b : Nat → Nat} {q : dMI} {d : Nat} {as : List dV} {h : dH} {v : Option dV} {h1 : dH} (hq : q ∈ dMs) (hv0 : dthr v = false) (hp : plainName q.2.1.cls = true) (hc : q.2.1.cls = cR q.1) (hn : dsz as ≤ q.2.2.2.1) (g1 : h.1 ≤ h1.1) (g2 : h.2.1 ≤ h1.2.1) (G : dWp l D b q d 0 (dal 0 as) [] h v h1) : dMet l D b q d as h v h1 := by
  refine Met.ofW (cc := q.2.2.1) (maxL := q.2.2.2.1) (ret := q.2.2.2.2) hp (dTs_p hq) ?_
  intro p e s m args below meth c s₁ B hml hv
  obtain ⟨rfl, hR, hK⟩ := hv
  rw [lg_entry_eq]
  have hlv := lv_entry (as.map (dv b)) (n := q.2.2.2.1) (by rw [dsz_lg]; exact hn)
  rw [dal_lv] at hlv
  have hown : s.vm.findClass q.2.1.cls = some m.cls := findClass_of_methodNamed B.named
  rw [hc] at hown
  have ht : c.exceptionTable.toList = tableOf (dHH q) := by
    obtain ⟨meth9, c9, h1, h2, -, -, -, -, h7, -⟩ := Cond.code_spec B.named (atoms_spec (ws := dTs q) B.pre _ (by rw [dTs_p hq]; exact List.mem_cons_self))
    cases Option.some.inj (h1.symm.trans B.method)
    cases Option.some.inj (h2.symm.trans (Stand.of_body B).code)
    rw [Array.isEmpty_iff.mp h7, dMs_p hq]; rfl
  have hG := G p e ({ frames := d, cells := h1.1 - h.1, slots := h1.2.1 - h.2.1, locals := d * 64 } : Room) s m _ below meth c s.heap [] 0 0 (h1.1 - h.1) (h1.2.1 - h.2.1) _ ⟨B.exec, B.bytes, hml, hown, atoms_spec (ws := dTs q) B.pre, B.returns, B.notSynchronized, (name_of_methodNamed B.named B.method).1, hK, ht⟩ hR ⟨by rw [hR.1.1]; omega, fun _ _ => rfl, fun x hx => by cases hx⟩ hlv ⟨Nat.le_refl _, Nat.le_refl _, Nat.le_refl _, Nat.le_refl _⟩ (by omega) (by omega)
  rw [dE_n hv0] at hG
  exact hG
theorem dblind {D : dD} {b : Nat → Nat} {as : List Value} {h : dH} : FrameBlind (va_Pc as (fun U => dRl D b h U.heap ∧ dKK D b U U.heap)) := fun a U g mk x => ⟨x.1, x.2.1, dKK.same (u := U) (U := U.calling g mk a) rfl x.2.2⟩
theorem ds_after {p : Program} {l : Launch} {e : Env} {R : Room} {s : State} {m : MethodId} {args : Array Value} {below : List Frame} {meth : Method} {c : Code} {H : Heap} {locs : List Loc} {cells slots mc1 ms1 pc : Nat} {ls : Array Slot} {rest st0 : List Value} {Q : State → Prop} {D : dD} {b : Nat → Nat} {v : Option dV} {h1 : dH} {a : Array Value}
    (hr : va_Run p l e R s m args below meth c H locs cells slots mc1 ms1 (F0 m pc ls st0) rest (dQ D b v h1 a) (fun x => b 0 ≤ x)) (hS : dS b s.heap H locs)
    (kk : ∀ (H1 : Heap) (locs1 : List Loc), dRl D b h1 H1 → dS b s.heap H1 locs1 → W p l e R s m args below meth c H1 locs1 (cells + mc1) (slots + ms1) Q (F0 m (pc + 3) ls ((v.map (dv b)).toList ++ rest))) : W p l e R s m args below meth c H locs cells slots Q (F0 m pc ls st0) := by
  intro T hT X
  obtain ⟨v9, st₀, t, T', L, h0, X', hL, x1, x2, ⟨hv, hR, hk⟩, st⟩ := hr T hT X
  cases hv
  rw [h0] at hk
  obtain ⟨t2, a1, b1⟩ := kk T'.heap (locs ++ L) (by rw [x1]; exact hR) ⟨hS.1, fun x hx => by rw [x1, hk x hx]; exact hS.2.1 x hx, fun x hx => by
      rcases List.mem_append.mp hx with g | g
      · exact hS.2.2 x g
      · exact hL x g⟩ T' rfl X'
  exact ⟨t2, st t2 a1, b1⟩
theorem dmap_rev (b : Nat → Nat) (as rest : List dV) : (as.reverse ++ rest).map (dv b) = (as.map (dv b)).reverse ++ rest.map (dv b) := by simp
theorem dmap_rev2 (b : Nat → Nat) (a : Nat) (as rest : List dV) : (as.reverse ++ .inr (.inr (Nat.succ a)) :: rest).map (dv b) = (as.map (dv b)).reverse ++ .ref (b a) :: rest.map (dv b) := by
  rw [dmap_rev]; rfl
theorem dpush_map (b : Nat → Nat) (v : Option dV) (st : List dV) : (dpush v st).map (dv b) = (v.map (dv b)).toList ++ st.map (dv b) := by cases v <;> rfl
section DX
variable {l : Launch} {D : dD} {b : Nat → Nat} {q t : dMI} {d pc i y : Nat} {L : dL} {st as : List dV} {h h1 : dH} {r v : Option dV} {h' : dH} {a n ct ci : Nat}
/-- what is known of a method that is called -/
def dlnk (q t : dMI) (i y : Nat) (as : List dV) (ks : List Nat) : Prop := dMis[y]? = some t ∧ t ∈ dMs ∧ (∃ k, k ∈ ks ∧ (i, y, k) ∈ dMT q.1) ∧ (t.2.1.cls ≠ "java/lang/invoke/MethodHandle" ∧ t.2.1.cls ≠ "java/lang/invoke/VarHandle") ∧ (parseMethodDescriptor t.2.1.desc).map (fun d => d.parameters.length) = some as.length ∧ t.2.2.2.1 ≤ 40
theorem dTs_c (q : dMI) {t : dMI} (h : t ∈ dMis) : GoodIn (dTs q) (dTs t) := by
  intro w hw
  rcases List.mem_cons.mp hw with rfl | hw
  · exact ⟨List.mem_cons_of_mem _ (dTB_c h), dTB_gd (dTB_c h)⟩
  · exact ⟨List.mem_cons_of_mem _ hw, dTB_gd hw⟩
theorem dWM_0 {o i y : Nat} {t : dMI} (h : dMis[y]? = some t) : dWM o (i, y, 0) = [.methodLink (cR o) i t.2.1, .static t.2.1, .initialized t.2.1.cls] := by
  unfold dWM
  dsimp only
  rw [h]
  rfl
theorem dWM_1 {o i y : Nat} {t : dMI} (h : dMis[y]? = some t) : dWM o (i, y, 1) = [.methodLink (cR o) i t.2.1, .instanceMethod t.2.1, .selects t.2.1.cls t.2.1 t.2.1, .initialized t.2.1.cls] := by
  unfold dWM
  dsimp only
  rw [h]
  rfl
theorem dWM_2 {o i y : Nat} {t : dMI} (h : dMis[y]? = some t) : dWM o (i, y, 2) = [.methodLink (cR o) i t.2.1, .instanceMethod t.2.1, .initialized t.2.1.cls] := by
  unfold dWM
  dsimp only
  rw [h]
  rfl
theorem dWM_3 {o i y : Nat} {t : dMI} (h : dMis[y]? = some t) : dWM o (i, y, 3) = [.static t.2.1, .initialized t.2.1.cls] := by
  unfold dWM
  dsimp only
  rw [h]
  rfl
theorem droom {R : Room} {d mc ms : Nat} {mL : Nat} (hm : dRm R (d + 1) mc ms) (hL : mL ≤ 40) : d + 1 ≤ R.frames ∧ 8 + (mL + 11) + d * 64 ≤ R.locals := by
  have h1 := hm.1
  have h2 := hm.2.1
  exact ⟨h1, by omega⟩
theorem ds_static (hdg : decode q.2.2.1 pc = .ok (.invokestatic i, 3)) (ho : q.1 < 14) (K : dlnk q t i y as [0]) (hM : dMet l D b t d as h v h1) (g1 : h.1 ≤ h1.1) (g2 : h.2.1 ≤ h1.2.1) (y1 : h1.1 ≤ h'.1) (y2 : h1.2.1 ≤ h'.2.1) (hc : dcat st ≤ 8) (G : dWp l D b q (d + 1) (pc + 3) L (dpush v st) h1 r h') : dWp l D b q (d + 1) pc L (as.reverse ++ st) h r h' := by
  intro p e R s m args below meth c H locs cells slots mc ms ls C hR hS hl hm e1 e2
  obtain ⟨k1, k2, ⟨k, hk, hk2⟩, k4, k5, k6⟩ := K
  simp at hk; subst hk
  have hts := C.2.2.2.2.1
  have hG := dTs_c q (dMs_sub k2)
  have hw : ∀ w ∈ dWM q.1 (i, y, 0), w.before args s = true := fun w hw => hts w (List.mem_cons_of_mem _ (dTB_m ho hk2 hw))
  rw [dWM_0 k1] at hw
  have a1 := hw (.methodLink (cR q.1) i t.2.1) (by simp)
  have a2 := hw (.static t.2.1) (by simp)
  have a3 := hw (.initialized t.2.1.cls) (by simp)
  have cb := callB_of (R := R) (own := cR q.1) (index := i) (y := t.2.1) (rm := { frames := d, cells := h1.1 - h.1, slots := h1.2.1 - h.2.1, locals := d * 64 }) as.length hts hG (dTs_p k2) rfl rfl a3 a1 ⟨k4.1, k4.2, k5⟩ (droom hm k6)
  rw [dmap_rev]
  refine ds_after (va_runS ⟨C.1, C.2.1, C.2.2.1, C.2.2.2.1, hts⟩ hM ⟨cb, a2⟩ ⟨dblind, fun U hU hW => ⟨rfl, by rw [hU]; exact hR, by rw [hU]; exact dKK.warm hW (dKK.kept hS.2.1 C.2.2.2.2.2.2.2.2.1)⟩⟩ rfl (List.length_map _) hl.1 rfl (lv_room (by rw [dcat_eq]; exact hc)) hdg ⟨by have := hm.2.2.1; omega, by have := hm.2.2.2; omega⟩) hS fun H1 locs1 hR1 hS1 => ?_
  rw [← dpush_map]
  exact G p e R s m args below meth c H1 locs1 _ _ mc ms ls C hR1 hS1 hl hm (by omega) (by omega)
theorem ds_nest (hdg : decode q.2.2.1 pc = .ok (.invokestatic i, 3)) (ho : q.1 < 14) (K : dlnk q t i y as [3]) (hN : (q.1, i, y) ∈ dNT) (hM : dMet l D b t d as h v h1) (g1 : h.1 ≤ h1.1) (g2 : h.2.1 ≤ h1.2.1) (y1 : h1.1 ≤ h'.1) (y2 : h1.2.1 ≤ h'.2.1) (hc : dcat st ≤ 8) (G : dWp l D b q (d + 1) (pc + 3) L (dpush v st) h1 r h') : dWp l D b q (d + 1) pc L (as.reverse ++ st) h r h' := by
  intro p e R s m args below meth c H locs cells slots mc ms ls C hR hS hl hm e1 e2
  obtain ⟨k1, k2, ⟨k, hk, hk2⟩, k4, k5, k6⟩ := K
  simp at hk; subst hk
  have hts := C.2.2.2.2.1
  have hG := dTs_c q (dMs_sub k2)
  have hw : ∀ w ∈ dWM q.1 (i, y, 3), w.before args s = true := fun w hw => hts w (List.mem_cons_of_mem _ (dTB_m ho hk2 hw))
  rw [dWM_3 k1] at hw
  have hnw := C.2.2.2.2.2.2.2.2.1.2.2.1 _ hN
  have hnm : dNm y = t.2.1 := by unfold dNm; rw [k1]
  dsimp only at hnw
  rw [hnm] at hnw
  have a2 := hw (.static t.2.1) (by simp)
  have a3 := hw (.initialized t.2.1.cls) (by simp)
  have cb := va_cnB (R := R) (own := cR q.1) (index := i) (y := t.2.1) (rm := { frames := d, cells := h1.1 - h.1, slots := h1.2.1 - h.2.1, locals := d * 64 }) as.length hts hG (dTs_p k2) rfl rfl hnw a3 ⟨k4.1, k4.2, k5⟩ (droom hm k6)
  rw [dmap_rev]
  refine ds_after (va_runSN ⟨C.1, C.2.1, C.2.2.1, C.2.2.2.1, hts⟩ hM ⟨cb, a2, trivial⟩ ⟨dblind, fun U hU hW => ⟨rfl, by rw [hU]; exact hR, by rw [hU]; exact dKK.warm hW (dKK.kept hS.2.1 C.2.2.2.2.2.2.2.2.1)⟩⟩ rfl (List.length_map _) hl.1 rfl (lv_room (by rw [dcat_eq]; exact hc)) hdg ⟨by have := hm.2.2.1; omega, by have := hm.2.2.2; omega⟩) hS fun H1 locs1 hR1 hS1 => ?_
  rw [← dpush_map]
  exact G p e R s m args below meth c H1 locs1 _ _ mc ms ls C hR1 hS1 hl hm (by omega) (by omega)
theorem ds_virtual (hdg : decode q.2.2.1 pc = .ok (.invokevirtual i, 3)) (ho : q.1 < 14) (K : dlnk q t i y as [1]) (hci : ci < 14) (hcl : t.2.1.cls = cR ci) (ha : hat h a = some (ci + 4, n, ct)) (hM : dMet l D b t d (.inr (.inr (Nat.succ a)) :: as) h v h1) (g1 : h.1 ≤ h1.1) (g2 : h.2.1 ≤ h1.2.1) (y1 : h1.1 ≤ h'.1) (y2 : h1.2.1 ≤ h'.2.1) (hc : dcat st ≤ 8) (G : dWp l D b q (d + 1) (pc + 3) L (dpush v st) h1 r h') : dWp l D b q (d + 1) pc L (as.reverse ++ .inr (.inr (Nat.succ a)) :: st) h r h' := by
  intro p e R s m args below meth c H locs cells slots mc ms ls C hR hS hl hm e1 e2
  obtain ⟨k1, k2, ⟨k, hk, hk2⟩, k4, k5, k6⟩ := K
  simp at hk; subst hk
  have hts := C.2.2.2.2.1
  have hG := dTs_c q (dMs_sub k2)
  have hw : ∀ w ∈ dWM q.1 (i, y, 1), w.before args s = true := fun w hw => hts w (List.mem_cons_of_mem _ (dTB_m ho hk2 hw))
  rw [dWM_1 k1] at hw
  have a1 := hw (.methodLink (cR q.1) i t.2.1) (by simp)
  have a2 := hw (.instanceMethod t.2.1) (by simp)
  have a3 := hw (.initialized t.2.1.cls) (by simp)
  have a4 := hw (.selects t.2.1.cls t.2.1 t.2.1) (by simp)
  have cb := callB_of (R := R) (own := cR q.1) (index := i) (y := t.2.1) (rm := { frames := d, cells := h1.1 - h.1, slots := h1.2.1 - h.2.1, locals := d * 64 }) as.length hts hG (dTs_p k2) rfl rfl a3 a1 ⟨k4.1, k4.2, k5⟩ (droom hm k6)
  have hci := dCR.lt13 (hR.2.2 a _ ha)
  obtain ⟨cell, q1, q2, q3, -⟩ := (hR.2.2 a _ ha).obj hci
  have hfc := (C.2.2.2.2.2.2.2.2.1.1.1 ci _ (dCl_at ci hci)).2.1
  rw [dmap_rev2]
  refine ds_after (va_runV (C := t.2.1.cls) (b := b a) (As := as.map (dv b)) ⟨C.1, C.2.1, C.2.2.1, C.2.2.2.1, hts⟩ hM ⟨cb, a2, a4⟩ ⟨dblind, ⟨cell, q1, by rw [q3]; rfl, by rw [q2, hcl]; exact hfc⟩, fun U hU hW => ⟨rfl, by rw [hU]; exact hR, by rw [hU]; exact dKK.warm hW (dKK.kept hS.2.1 C.2.2.2.2.2.2.2.2.1)⟩⟩ rfl (List.length_map _) hl.1 rfl (lv_room (by rw [dcat_eq]; exact hc)) hdg ⟨by have := hm.2.2.1; omega, by have := hm.2.2.2; omega⟩) hS fun H1 locs1 hR1 hS1 => ?_
  rw [← dpush_map]
  exact G p e R s m args below meth c H1 locs1 _ _ mc ms ls C hR1 hS1 hl hm (by omega) (by omega)
theorem ds_special (hdg : decode q.2.2.1 pc = .ok (.invokespecial i, 3)) (ho : q.1 < 14) (K : dlnk q t i y as [2]) (hin : t.2.1.name = "<init>") (hrt : t.2.2.2.2 = none) (hM : dMet l D b t d (.inr (.inr (Nat.succ a)) :: as) h v h1) (g1 : h.1 ≤ h1.1) (g2 : h.2.1 ≤ h1.2.1) (y1 : h1.1 ≤ h'.1) (y2 : h1.2.1 ≤ h'.2.1) (hc : dcat st ≤ 8) (G : dWp l D b q (d + 1) (pc + 3) L (dpush v st) h1 r h') : dWp l D b q (d + 1) pc L (as.reverse ++ .inr (.inr (Nat.succ a)) :: st) h r h' := by
  intro p e R s m args below meth c H locs cells slots mc ms ls C hR hS hl hm e1 e2
  obtain ⟨k1, k2, ⟨k, hk, hk2⟩, k4, k5, k6⟩ := K
  simp at hk; subst hk
  have hts := C.2.2.2.2.1
  have hG := dTs_c q (dMs_sub k2)
  have hw : ∀ w ∈ dWM q.1 (i, y, 2), w.before args s = true := fun w hw => hts w (List.mem_cons_of_mem _ (dTB_m ho hk2 hw))
  rw [dWM_2 k1] at hw
  have a1 := hw (.methodLink (cR q.1) i t.2.1) (by simp)
  have a2 := hw (.instanceMethod t.2.1) (by simp)
  have a3 := hw (.initialized t.2.1.cls) (by simp)
  have hrw : dTs t = Cond.code t.2.1 t.2.2.1 t.2.2.2.1 none :: dTB := by rw [← hrt]; exact dTs_p k2
  have cb := callB_of (R := R) (own := cR q.1) (index := i) (y := t.2.1) (rm := { frames := d, cells := h1.1 - h.1, slots := h1.2.1 - h.2.1, locals := d * 64 }) as.length hts hG hrw rfl rfl a3 a1 ⟨k4.1, k4.2, k5⟩ (droom hm k6)
  rw [dmap_rev2]
  refine ds_after (va_runI (b := b a) (As := as.map (dv b)) ⟨C.1, C.2.1, C.2.2.1, C.2.2.2.1, hts⟩ hM ⟨cb, hin, a2⟩ ⟨dblind, fun U hU hW => ⟨rfl, by rw [hU]; exact hR, by rw [hU]; exact dKK.warm hW (dKK.kept hS.2.1 C.2.2.2.2.2.2.2.2.1)⟩⟩ rfl (List.length_map _) hl.1 rfl (lv_room (by rw [dcat_eq]; exact hc)) hdg ⟨by have := hm.2.2.1; omega, by have := hm.2.2.2; omega⟩) hS fun H1 locs1 hR1 hS1 => ?_
  rw [← dpush_map]
  exact G p e R s m args below meth c H1 locs1 _ _ mc ms ls C hR1 hS1 hl hm (by omega) (by omega)
theorem dv_s (b : Nat → Nat) (k : Nat) : dv b (.inr (.inr (Nat.succ k))) = .ref (b k) := rfl
theorem dstr_inv {a : Nat} {k : Nat → Nat → dR} {z : Option dV × dH} (h : dstr a k = some z) : ∃ w n ct, a = dT0 + w ∧ dStr[w]? = some (n, ct) ∧ k n ct = some z := by
  unfold dstr at h
  generalize hw : a % 1048576 = w at h
  cases hb : Nat.beq (dT0 + w) a
  · rw [hb] at h; cases h
  · rw [hb] at h
    have hle := Nat.eq_of_beq_eq_true hb
    rw [nth_eq] at h
    cases e : dStr[w]? with
    | none => rw [e] at h; cases h
    | some q =>
      rw [e] at h
      exact ⟨w, q.1, q.2, hle.symm, e, h⟩
theorem dStr_at {w n ct : Nat} (h : dStr[w]? = some (n, ct)) : w < dStr.length ∧ dLen.getD w 0 = n ∧ ∀ j, j < n → (dByt.getD w []).getD j 0 = Int32.ofNat (wd 8 ct j) := by
  have hw := (List.getElem?_eq_some_iff.mp h).1
  refine ⟨hw, ?_, fun j hj => ?_⟩
  · simp [dLen, List.getD, List.getElem?_map, h]
  · simp [dByt, List.getD, List.getElem?_map, h, hj]
theorem dStr_len : ∀ e ∈ dStr, e.1 < 2147483648 := by decide +kernel
theorem ds_ldt {w : Nat} (hdg : decode q.2.2.1 pc = .ok (.ldc i, 2)) (hm2 : (q.1, i, w) ∈ dSR) (G : dWp l D b q d (pc + 2) L (.inr (.inr (Nat.succ (dT0 + w))) :: st) h r h') : dWp l D b q d pc L st h r h' := by
  generalize hk : dT0 + w = k at G
  intro p e R s m args below meth c H locs cells slots mc ms ls C hR hS hl hm e1 e2
  have hz := C.2.2.2.2.2.2.2.2.1.2.2.2.1 (q.1, i, w) hm2
  dsimp only at hz
  rw [hk] at hz
  exact va_ldcS C.1 C.2.1 C.2.2.2.1 hz hdg (G p e R s m args below meth c H locs cells slots mc ms ls C hR hS hl hm e1 e2)
theorem ds_ldtw {w : Nat} (hdg : decode q.2.2.1 pc = .ok (.ldc_w i, 3)) (hm2 : (q.1, i, w) ∈ dSR) (G : dWp l D b q d (pc + 3) L (.inr (.inr (Nat.succ (dT0 + w))) :: st) h r h') : dWp l D b q d pc L st h r h' := by
  generalize hk : dT0 + w = k at G
  intro p e R s m args below meth c H locs cells slots mc ms ls C hR hS hl hm e1 e2
  have hz := C.2.2.2.2.2.2.2.2.1.2.2.2.1 (q.1, i, w) hm2
  dsimp only at hz
  rw [hk] at hz
  intro T hT X
  obtain ⟨t, a1, b1⟩ := G p e R s m args below meth c H locs cells slots mc ms ls C hR hS hl hm e1 e2 T hT X
  exact ⟨t, X.ldcStringW C.1 C.2.2.2.1 hz.1 hz.2 rfl (by rw [C.2.1]; exact hdg) t a1, b1⟩
theorem ds_strlen {w : Nat} (hdg : decode q.2.2.1 pc = .ok (.invokevirtual i, 3)) (hm2 : (q.1, i, 1) ∈ dSM) (ht : dStr[w]? = some (n, ct)) (hd : 4 ≤ d) (hc : dcat st ≤ 8) (y1 : h.1 ≤ h'.1) (y2 : h.2.1 ≤ h'.2.1) (G : dWp l D b q d (pc + 3) L (.inl n :: st) h r h') : dWp l D b q d pc L (.inr (.inr (Nat.succ (dT0 + w))) :: st) h r h' := by
  intro p e R s m args below meth c H locs cells slots mc ms ls C hR hS hl hm e1 e2
  rw [List.map_cons, dv_s]
  obtain ⟨hw, hlen, -⟩ := dStr_at ht
  have hts := C.2.2.2.2.1
  have h1 := hm.1
  have h2 := hm.2.1
  have hj : ∀ w ∈ dTJ, w ∈ dTs q := fun w hw => List.mem_cons_of_mem _ (dTB_j hw)
  have hT : dKT2 b s H := (dKK.kept hS.2.1 C.2.2.2.2.2.2.2.2.1).2.2.2.2.1
  have cb := callB_of (R := R) (own := cR q.1) (index := i) (y := yJ0_length_8abf5) (rm := k2_rm 1 22) 0 hts (dGJ (k := Cond.code yJ0_length_8abf5 cJ0_length_8abf5 1 (some .int)) hj (by decide +kernel)) rfl rfl rfl (hts _ (hj (.initialized RJ0) (by decide +kernel))) (hts _ (List.mem_cons_of_mem _ (dTB_s hm2))) ⟨by decide, by decide, by decide +kernel⟩ ⟨by show 1 + 1 ≤ _; omega, by show 8 + (1 + 11) + 22 ≤ _; omega⟩
  obtain ⟨cell, g1, g2, g3, -⟩ := (hT.2.2.1 w hw).1
  refine dt_after (v := some (.int (Int32.ofNat (dLen.getD w 0)))) (va_runV (C := RJ0) (b := b (dT0 + w)) (As := []) (rest := st.map (dv b)) ⟨C.1, C.2.1, C.2.2.1, C.2.2.2.1, hts⟩ (jt_length l (adK := fun z => b (dT0 + z)) (adV := fun z => b (dT1 + z)) (A := fun q => b 0 ≤ q) (byt := dByt) hw) ⟨cb, hts _ (hj (.instanceMethod yJ0_length_8abf5) (by decide +kernel)), hts _ (hj (.selects RJ0 yJ0_length_8abf5 yJ0_length_8abf5) (by decide +kernel))⟩ ⟨dTblind, ⟨cell, g1, g2, g3⟩, fun U hU hW => ⟨rfl, by show dKT2 b U U.heap; rw [hU]; exact dTxt.moved hW.alike hT⟩⟩ rfl rfl hl.1 rfl (lv_room (by rw [dcat_eq]; exact hc)) hdg ⟨by have := hm.2.2.1; omega, by have := hm.2.2.2; omega⟩) ?_
  rw [hlen]
  exact G p e R s m args below meth c H locs cells slots mc ms ls C hR hS hl hm e1 e2
theorem ds_charAt {w x j : Nat} (hdg : decode q.2.2.1 pc = .ok (.invokevirtual i, 3)) (hm2 : (q.1, i, 2) ∈ dSM) (ht : dStr[w]? = some (n, ct)) (hx : x % 4294967296 = j) (hjn : j < n) (hd : 4 ≤ d) (hc : dcat st ≤ 8) (y1 : h.1 ≤ h'.1) (y2 : h.2.1 ≤ h'.2.1) (G : dWp l D b q d (pc + 3) L (.inl (wd 8 ct j) :: st) h r h') : dWp l D b q d pc L (.inl x :: .inr (.inr (Nat.succ (dT0 + w))) :: st) h r h' := by
  intro p e R s m args below meth c H locs cells slots mc ms ls C hR hS hl hm e1 e2
  rw [List.map_cons, List.map_cons, dv_s]
  subst hx
  obtain ⟨hw, hlen, hby⟩ := dStr_at ht
  have hn : n < 2147483648 := dStr_len _ (List.mem_of_getElem? ht)
  have hi := dix (i := x) (n := n) hjn (by omega)
  have hts := C.2.2.2.2.1
  have h1 := hm.1
  have h2 := hm.2.1
  have hj : ∀ w ∈ dTJ, w ∈ dTs q := fun w hw => List.mem_cons_of_mem _ (dTB_j hw)
  have hT : dKT2 b s H := (dKK.kept hS.2.1 C.2.2.2.2.2.2.2.2.1).2.2.2.2.1
  have cb := callB_of (R := R) (own := cR q.1) (index := i) (y := yJ0_charAt_5068e) (rm := k2_rm 3 64) 1 hts (dGJ (k := Cond.code yJ0_charAt_5068e cJ0_charAt_5068e 2 (some .char)) hj (by decide +kernel)) rfl rfl rfl (hts _ (hj (.initialized RJ0) (by decide +kernel))) (hts _ (List.mem_cons_of_mem _ (dTB_s hm2))) ⟨by decide, by decide, by decide +kernel⟩ ⟨by show 3 + 1 ≤ _; omega, by show 8 + (2 + 11) + 64 ≤ _; omega⟩
  obtain ⟨cell, g1, g2, g3, -⟩ := (hT.2.2.1 w hw).1
  have hwd : wd 8 ct (x % 4294967296) < 256 := wd_lt 8 ct _
  have hlt : Int32.ofNat x < Int32.ofNat (dLen.getD w 0) := by
    rw [hlen, Int32.lt_iff_toInt_lt, di_iv, di_iv, if_pos (by omega), if_pos (by omega)]
    omega
  refine dt_after (v := some (.int (Int32.ofNat (wd 8 ct (x % 4294967296))))) (va_runV (C := RJ0) (b := b (dT0 + w)) (As := [.int (Int32.ofNat x)]) (rest := st.map (dv b)) ⟨C.1, C.2.1, C.2.2.1, C.2.2.2.1, hts⟩ (jt_charAt l (adK := fun z => b (dT0 + z)) (adV := fun z => b (dT1 + z)) (A := fun q => b 0 ≤ q) (byt := dByt) hw (fun z => hi.1 (Or.inl z)) hlt (by rw [hlen]; exact hi.1) (by rw [hi.2]; exact hby _ hjn) hwd) ⟨cb, hts _ (hj (.instanceMethod yJ0_charAt_5068e) (by decide +kernel)), hts _ (hj (.selects RJ0 yJ0_charAt_5068e yJ0_charAt_5068e) (by decide +kernel))⟩ ⟨dTblind, ⟨cell, g1, g2, g3⟩, fun U hU hW => ⟨rfl, by show dKT2 b U U.heap; rw [hU]; exact dTxt.moved hW.alike hT⟩⟩ rfl rfl hl.1 rfl (lv_room (by rw [dcat_eq]; exact hc)) hdg ⟨by have := hm.2.2.1; omega, by have := hm.2.2.2; omega⟩) ?_
  exact G p e R s m args below meth c H locs cells slots mc ms ls C hR hS hl hm e1 e2
theorem ds_indexOf {w x j : Nat} (hdg : decode q.2.2.1 pc = .ok (.invokevirtual i, 3)) (hm2 : (q.1, i, 3) ∈ dSM) (ht : dStr[w]? = some (n, ct)) (hx : x % 4294967296 = j) (hd : 5 ≤ d) (hc : dcat st ≤ 8) (y1 : h.1 ≤ h'.1) (y2 : h.2.1 ≤ h'.2.1) (G : dWp l D b q d (pc + 3) L (.inl (cond (Nat.blt j 256) (dix9 ct (dI2b j) n 0) 4294967295) :: st) h r h') : dWp l D b q d pc L (.inl x :: .inr (.inr (Nat.succ (dT0 + w))) :: st) h r h' := absurd rfl ((show ∀ e ∈ dSM, e.2.2 ≠ 3 by decide) _ hm2)
theorem ds_mmax {x y : Nat} (hdg : decode q.2.2.1 pc = .ok (.invokestatic i, 3)) (hm2 : (q.1, i, 1) ∈ dMM) (hd : 1 ≤ d) (hc : dcat st ≤ 8) (y1 : h.1 ≤ h'.1) (y2 : h.2.1 ≤ h'.2.1) (G : dWp l D b q d (pc + 3) L (.inl (dMax x y) :: st) h r h') : dWp l D b q d pc L (.inl y :: .inl x :: st) h r h' := by
  intro p e R s m args below meth c H locs cells slots mc ms ls C hR hS hl hm e1 e2
  have hts := C.2.2.2.2.1
  have h1 := hm.1
  have h2 := hm.2.1
  have h3 := hm.2.2.1
  have h4 := hm.2.2.2
  refine va_mmax C.1 C.2.1 (C.2.2.1.trans hl.1.symm) C.2.2.2.1 (hts _ (List.mem_cons_of_mem _ (dTB_mm hm2))) (hts (.static Lib.Math.max.name) (List.mem_cons_of_mem _ (dTB_x (by decide +kernel)))) (hts (.initialized "java/lang/Math") (List.mem_cons_of_mem _ (dTB_x (by decide +kernel)))) (hts (.code Lib.Math.max.name Lib.Math.max.code 2 (some .int)) (List.mem_cons_of_mem _ (dTB_x (by decide +kernel)))) (by omega) (by rw [dcat_eq]; omega) (by omega) (by omega) hdg ?_
  rw [di_max]
  exact G p e R s m args below meth c H locs cells slots mc ms ls C hR hS hl hm e1 e2
theorem ds_mmin {x y : Nat} (hdg : decode q.2.2.1 pc = .ok (.invokestatic i, 3)) (hm2 : (q.1, i, 2) ∈ dMM) (hd : 1 ≤ d) (hc : dcat st ≤ 8) (y1 : h.1 ≤ h'.1) (y2 : h.2.1 ≤ h'.2.1) (G : dWp l D b q d (pc + 3) L (.inl (dMin x y) :: st) h r h') : dWp l D b q d pc L (.inl y :: .inl x :: st) h r h' := by
  intro p e R s m args below meth c H locs cells slots mc ms ls C hR hS hl hm e1 e2
  have hts := C.2.2.2.2.1
  have h1 := hm.1
  have h2 := hm.2.1
  have h3 := hm.2.2.1
  have h4 := hm.2.2.2
  refine va_mmin C.1 C.2.1 (C.2.2.1.trans hl.1.symm) C.2.2.2.1 (hts _ (List.mem_cons_of_mem _ (dTB_mm hm2))) (hts (.static Lib.Math.min.name) (List.mem_cons_of_mem _ (dTB_x (by decide +kernel)))) (hts (.initialized "java/lang/Math") (List.mem_cons_of_mem _ (dTB_x (by decide +kernel)))) (hts (.code Lib.Math.min.name Lib.Math.min.code 2 (some .int)) (List.mem_cons_of_mem _ (dTB_x (by decide +kernel)))) (by omega) (by rw [dcat_eq]; omega) (by omega) (by omega) hdg ?_
  rw [di_min]
  exact G p e R s m args below meth c H locs cells slots mc ms ls C hR hS hl hm e1 e2
theorem ds_mmaxl {x y : Nat} (hdg : decode q.2.2.1 pc = .ok (.invokestatic i, 3)) (hm2 : (q.1, i, 3) ∈ dMM) (hd : 1 ≤ d) (hc : dcat st ≤ 8) (y1 : h.1 ≤ h'.1) (y2 : h.2.1 ≤ h'.2.1) (G : dWp l D b q d (pc + 3) L (.inr (.inl (dLMax x y)) :: st) h r h') : dWp l D b q d pc L (.inr (.inl y) :: .inr (.inl x) :: st) h r h' := by
  intro p e R s m args below meth c H locs cells slots mc ms ls C hR hS hl hm e1 e2
  have hts := C.2.2.2.2.1
  have h1 := hm.1
  have h2 := hm.2.1
  have h3 := hm.2.2.1
  have h4 := hm.2.2.2
  refine va_mmax_long C.1 C.2.1 (C.2.2.1.trans hl.1.symm) C.2.2.2.1 (hts _ (List.mem_cons_of_mem _ (dTB_mm hm2))) (hts (.static Lib.MathLoose.max_long.x) (List.mem_cons_of_mem _ (dTB_tm (by decide +kernel)))) (hts (.initialized "java/lang/Math") (List.mem_cons_of_mem _ (dTB_x (by decide +kernel)))) (hts (.code Lib.MathLoose.max_long.x Lib.MathLoose.max_long.code 4 (some .long)) (List.mem_cons_of_mem _ (dTB_tm (by decide +kernel)))) (by omega) (by rw [dcat_eq]; omega) (by omega) (by omega) hdg ?_
  rw [di_lmax]
  exact G p e R s m args below meth c H locs cells slots mc ms ls C hR hS hl hm e1 e2
theorem ds_mminl {x y : Nat} (hdg : decode q.2.2.1 pc = .ok (.invokestatic i, 3)) (hm2 : (q.1, i, 4) ∈ dMM) (hd : 1 ≤ d) (hc : dcat st ≤ 8) (y1 : h.1 ≤ h'.1) (y2 : h.2.1 ≤ h'.2.1) (G : dWp l D b q d (pc + 3) L (.inr (.inl (dLMin x y)) :: st) h r h') : dWp l D b q d pc L (.inr (.inl y) :: .inr (.inl x) :: st) h r h' := by
  intro p e R s m args below meth c H locs cells slots mc ms ls C hR hS hl hm e1 e2
  have hts := C.2.2.2.2.1
  have h1 := hm.1
  have h2 := hm.2.1
  have h3 := hm.2.2.1
  have h4 := hm.2.2.2
  refine va_mmin_long C.1 C.2.1 (C.2.2.1.trans hl.1.symm) C.2.2.2.1 (hts _ (List.mem_cons_of_mem _ (dTB_mm hm2))) (hts (.static Lib.MathLoose.min_long.x) (List.mem_cons_of_mem _ (dTB_tm (by decide +kernel)))) (hts (.initialized "java/lang/Math") (List.mem_cons_of_mem _ (dTB_x (by decide +kernel)))) (hts (.code Lib.MathLoose.min_long.x Lib.MathLoose.min_long.code 4 (some .long)) (List.mem_cons_of_mem _ (dTB_tm (by decide +kernel)))) (by omega) (by rw [dcat_eq]; omega) (by omega) (by omega) hdg ?_
  rw [di_lmin]
  exact G p e R s m args below meth c H locs cells slots mc ms ls C hR hS hl hm e1 e2
theorem ds_objinit (hdg : decode q.2.2.1 pc = .ok (.invokespecial i, 3)) (ho : q.1 < 14) (hi : i ∈ dOT q.1) (hc : dcat st ≤ 8) (G : dWp l D b q (d + 1) (pc + 3) L st h r h') : dWp l D b q (d + 1) pc L (.inr (.inr (Nat.succ a)) :: st) h r h' := by
  intro p e R s m args below meth c H locs cells slots mc ms ls C hR hS hl hm e1 e2
  have hts := C.2.2.2.2.1
  have w1 : Cond.instanceMethod objectInit ∈ dTs q := List.mem_cons_of_mem _ (List.mem_append.mpr (Or.inl (by simp)))
  have w2 : Cond.code objectInit ⟨#[0xb1]⟩ 1 none ∈ dTs q := List.mem_cons_of_mem _ (List.mem_append.mpr (Or.inl (by simp)))
  have h1 := hm.1
  have h2 := hm.2.1
  refine W.objInit C.1 C.2.1 C.2.2.2.1 (hts _ (List.mem_cons_of_mem _ (dTB_i ho hi))) (hts _ w1) (hts _ w2) rfl (hl.1.trans C.2.2.1.symm) rfl hdg (by omega) (by
    have h3 := dcat_eq b st
    show 2 * 0 + _ + 12 ≤ _
    rw [h3]; omega) ?_
  exact G p e R s m args below meth c H locs cells slots mc ms ls C hR hS hl hm e1 e2
theorem dend {C9 : Prop} {s : State} {H : Heap} {locs : List Loc} {D : dD} {b : Nat → Nat} {h : dH} {v : Option dV} {args : Array Value} (hR : dRl D b h H) (hS : dS b s.heap H locs) : ∀ t : State, t.heap = H → s.WarmedH t.vm → dQ D b v h args s (.returned (v.map (dv b))) t :=
  fun t ht _ => ⟨rfl, by rw [ht]; exact hR, fun x hx => by rw [ht]; exact hS.2.1 x hx⟩
theorem ds_return (hdg : decode q.2.2.1 pc = .ok (.return_, 1)) (hr : q.2.2.2.2 = none) : dWp l D b q d pc L [] h none h := by
  intro p e R s m args below meth c H locs cells slots mc ms ls C hR hS hl hm e1 e2
  obtain rfl : mc = cells := by omega
  obtain rfl : ms = slots := by omega
  exact W.vret C.1 C.2.1 (C.2.2.2.2.2.1.trans hr) (dend (C9 := True) (v := none) hR hS) hS.2.2 hdg C.2.2.2.2.2.2.1
theorem ds_ireturn {x : Nat} {ty : FieldType} (hdg : decode q.2.2.1 pc = .ok (.ireturn, 1)) (hr : q.2.2.2.2 = some ty) (hn : narrow ty (.int (Int32.ofNat x)) = .int (Int32.ofNat x)) : dWp l D b q d pc L [.inl x] h (some (.inl x)) h := by
  intro p e R s m args below meth c H locs cells slots mc ms ls C hR hS hl hm e1 e2
  obtain rfl : mc = cells := by omega
  obtain rfl : ms = slots := by omega
  exact W.zret C.1 C.2.1 (C.2.2.2.2.2.1.trans hr) hn (dend (C9 := True) (v := some (.inl x)) hR hS) hS.2.2 hdg C.2.2.2.2.2.2.1
theorem ds_lreturn {x : Nat} (hdg : decode q.2.2.1 pc = .ok (.lreturn, 1)) (hr : q.2.2.2.2 = some .long) : dWp l D b q d pc L [.inr (.inl x)] h (some (.inr (.inl x))) h := by
  intro p e R s m args below meth c H locs cells slots mc ms ls C hR hS hl hm e1 e2
  obtain rfl : mc = cells := by omega
  obtain rfl : ms = slots := by omega
  exact W.lret C.1 C.2.1 (C.2.2.2.2.2.1.trans hr) (dend (C9 := True) (v := some (.inr (.inl x))) hR hS) hS.2.2 hdg C.2.2.2.2.2.2.1
end DX

/-! ===== throwing and catching ===== -/
def dQn (D : dD) (b : Nat → Nat) (v : Option dV) (h1 : dH) : Array Value → State → Outcome → State → Prop := fun a st o t => dthr v = false ∧ dQ D b v h1 a st o t
def dXn (D : dD) (b : Nat → Nat) (v : Option dV) (h1 : dH) : String → State → State → Prop := fun E st t => dthr v = true ∧ dXc D b h1 E st t
/-- a method's contract, whether it returns or throws -/
def dMetG (l : Launch) (D : dD) (b : Nat → Nat) (q : dMI) (d : Nat) (as : List dV) (h : dH) (v : Option dV) (h1 : dH) : Prop :=
  vx_Met l q.2.1 (dTs q) ({ frames := d, cells := h1.1 - h.1, slots := h1.2.1 - h.2.1, locals := d * 64 } : Room) (va_Pc (as.map (dv b)) (fun U => dRl D b h U.heap ∧ dKK D b U U.heap)) (dQn D b v h1) (dXn D b v h1) (h1.1 - h.1) (h1.2.1 - h.2.1) (fun x => b 0 ≤ x)
theorem dE_G {p : Program} {l : Launch} {e : Env} {R : Room} {s : State} {m : MethodId} {args : Array Value} {below : List Frame} {meth : Method} {c : Code} {H : Heap} {locs : List Loc} {cells slots mc ms : Nat} {D : dD} {b : Nat → Nat} {r : Option dV} {h' : dH} {g : JFrame} (k : W p l e R s m args below meth c H locs cells slots (dE D b r h' below args s mc ms) g) : W p l e R s m args below meth c H locs cells slots (vx_MQ below (dQn D b r h') (dXn D b r h') args s mc ms (fun x => b 0 ≤ x)) g := by
  intro T hT X
  obtain ⟨t, a1, z⟩ := k T hT X
  refine ⟨t, a1, ?_⟩
  cases hv : dthr r
  · rw [dE_n hv] at z
    obtain ⟨o, b1, b2, b3, b4⟩ := z
    exact ⟨o, b1, b2, Or.inl ⟨⟨hv, b3⟩, b4⟩⟩
  · rw [dE_x hv] at z
    obtain ⟨o, b1, b2, b3⟩ := z
    refine ⟨o, b1, b2, ?_⟩
    rcases b3 with ⟨f, -⟩ | ⟨q, ho, E, ce, L, hx, hr⟩
    · exact f.elim
    · exact Or.inr ⟨q, ho, E, ce, L, ⟨hv, hx⟩, hr⟩
theorem dMetG_of {l : Launch} {D : dD} {b : Nat → Nat} {q : dMI} {d : Nat} {as : List dV} {h : dH} {v : Option dV} {h1 : dH} (hp : plainName q.2.1.cls = true) (hc : q.2.1.cls = cR q.1) (hn : dsz as ≤ q.2.2.2.1) (g1 : h.1 ≤ h1.1) (g2 : h.2.1 ≤ h1.2.1) (G : dWp l D b q d 0 (dal 0 as) [] h v h1) : dMetG l D b q d as h v h1 := by
  have key : ∀ (p : Program) (e : Env) (s : State) (m : MethodId) (args : Array Value) (below : List Frame) (meth : Method) (c : Code) (s₁ : State), BodyLoose p l q.2.1 (headSpec (dTs q) ({ frames := d, cells := h1.1 - h.1, slots := h1.2.1 - h.2.1, locals := d * 64 } : Room)) q.2.2.1 q.2.2.2.1 q.2.2.2.2 e s m args below meth c s₁ → c.maxLocals = q.2.2.2.1 → c.exceptionTable.toList = tableOf (dHH q) → va_Pc (as.map (dv b)) (fun U => dRl D b h U.heap ∧ dKK D b U U.heap) args s → W p l e (headSpec (dTs q) ({ frames := d, cells := h1.1 - h.1, slots := h1.2.1 - h.2.1, locals := d * 64 } : Room)).room s m args below meth c s.heap [] 0 0 (vx_MQ below (dQn D b v h1) (dXn D b v h1) args s (h1.1 - h.1) (h1.2.1 - h.2.1) (fun x => b 0 ≤ x)) (entryFrame m args q.2.2.2.1) := by
    intro p e s m args below meth c s₁ B hml ht hv
    obtain ⟨rfl, hR, hK⟩ := hv
    rw [lg_entry_eq]
    have hlv := lv_entry (as.map (dv b)) (n := q.2.2.2.1) (by rw [dsz_lg]; exact hn)
    rw [dal_lv] at hlv
    have hown : s.vm.findClass q.2.1.cls = some m.cls := findClass_of_methodNamed B.named
    rw [hc] at hown
    exact dE_G (G p e ({ frames := d, cells := h1.1 - h.1, slots := h1.2.1 - h.2.1, locals := d * 64 } : Room) s m _ below meth c s.heap [] 0 0 (h1.1 - h.1) (h1.2.1 - h.2.1) _ ⟨B.exec, B.bytes, hml, hown, atoms_spec (ws := dTs q) B.pre, B.returns, B.notSynchronized, (name_of_methodNamed B.named B.method).1, hK, ht⟩ hR ⟨by rw [hR.1.1]; omega, fun _ _ => rfl, fun x hx => by cases hx⟩ hlv ⟨Nat.le_refl _, Nat.le_refl _, Nat.le_refl _, Nat.le_refl _⟩ (by omega) (by omega))
  cases hh : dHH q with
  | nil =>
    have hw : dTs q = Cond.code q.2.1 q.2.2.1 q.2.2.2.1 q.2.2.2.2 :: dTB := by
      show dWCh q (dHH q) :: dTB = _
      rw [hh]; rfl
    refine vx_ofW (cc := q.2.2.1) (maxL := q.2.2.2.1) (ret := q.2.2.2.2) hp hw ?_
    intro p e s m args below meth c s₁ B hml hx hv
    exact key p e s m args below meth c s₁ B hml (by rw [hh]; exact List.eq_nil_iff_forall_not_mem.mpr hx) hv
  | cons z zs =>
    have hw : dTs q = Cond.codeWith q.2.1 q.2.2.1 q.2.2.2.1 q.2.2.2.2 (z :: zs) :: dTB := by
      show dWCh q (dHH q) :: dTB = _
      rw [hh]; rfl
    refine vx_ofWH (cc := q.2.2.1) (maxL := q.2.2.2.1) (ret := q.2.2.2.2) (hh := z :: zs) hp hw ?_
    intro p e s m args below meth c s₁ B hml hv
    exact key p e s m args below meth c s₁ B hml (by rw [hh]; exact vx_table (x := q.2.1) B (atoms_spec (ws := dTs q) B.pre _ (by rw [hw]; exact List.mem_cons_self))) hv
theorem ds_afterG {p : Program} {l : Launch} {e : Env} {R : Room} {s : State} {m : MethodId} {args : Array Value} {below : List Frame} {meth : Method} {c : Code} {H : Heap} {locs : List Loc} {cells slots mc1 ms1 pc : Nat} {ls : Array Slot} {rest st0 : List Value} {Q : State → Prop} {D : dD} {b : Nat → Nat} {v : Option dV} {h1 : dH} {a : Array Value}
    (hr : vx_Run p l e R s m args below meth c H locs cells slots mc1 ms1 (F0 m pc ls st0) rest (dQn D b v h1 a) (dXn D b v h1) (fun x => b 0 ≤ x)) (hS : dS b s.heap H locs)
    (kk : dthr v = false → ∀ (H1 : Heap) (locs1 : List Loc), dRl D b h1 H1 → dS b s.heap H1 locs1 → W p l e R s m args below meth c H1 locs1 (cells + mc1) (slots + ms1) Q (F0 m (pc + 3) ls ((v.map (dv b)).toList ++ rest)))
    (kx : dthr v = true → ∀ (H1 : Heap) (locs1 : List Loc) (q9 : Nat) (ce : Cell), dRl D b h1 H1 → dS b s.heap H1 locs1 → H1[q9]? = some ce → ce.vm = .none → s.vm.findClass xE = some ce.cls → vx_W p l e R s m args below meth c H1 locs1 (cells + mc1) (slots + ms1) Q (F0 m pc ls rest) q9) : W p l e R s m args below meth c H locs cells slots Q (F0 m pc ls st0) := by
  intro T hT X
  rcases hr T hT X with ⟨v9, st₀, t, T', L, h0, X', hL, x1, x2, ⟨hn, hv, hR, hk⟩, st⟩ | ⟨q9, st₀, t, T', L, E, ce, h0, X', hL, x1, x2, ⟨hn, rfl, hR, hk⟩, hce, hcv, hcl, st⟩
  · cases hv
    rw [h0] at hk
    obtain ⟨t2, a1, b1⟩ := kk hn T'.heap (locs ++ L) (by rw [x1]; exact hR) ⟨hS.1, fun x hx => by rw [x1, hk x hx]; exact hS.2.1 x hx, fun x hx => by
        rcases List.mem_append.mp hx with g | g
        · exact hS.2.2 x g
        · exact hL x g⟩ T' rfl X'
    exact ⟨t2, st t2 a1, b1⟩
  · rw [h0] at hk
    obtain ⟨t2, a1, b1⟩ := kx hn T'.heap (locs ++ L) q9 ce (by rw [x1]; exact hR) ⟨hS.1, fun x hx => by rw [x1, hk x hx]; exact hS.2.1 x hx, fun x hx => by
        rcases List.mem_append.mp hx with g | g
        · exact hS.2.2 x g
        · exact hL x g⟩ (by rw [x1]; exact hce) hcv hcl T' rfl X'
    exact ⟨t2, st.trans a1, b1⟩
/-- what comes when an exception is thrown at a place -/
def dThrow (l : Launch) (D : dD) (b : Nat → Nat) (q : dMI) (d pc : Nat) (L : dL) (h1 : dH) (r : Option dV) (h' : dH) : Prop :=
  ∀ (p : Program) (e : Env) (R : Room) (s : State) (m : MethodId) (args : Array Value) (below : List Frame) (meth : Method) (c : Code) (H1 : Heap) (locs1 : List Loc) (cells slots mc ms : Nat) (ls : Array Slot) (q9 : Nat) (ce : Cell) (rest : List Value),
    dCx p s m args meth c q D b → dRl D b h1 H1 → dS b s.heap H1 locs1 → lv_has ls q.2.2.2.1 (dLv b L) → dRm R d mc ms → mc + h1.1 = cells + h'.1 → ms + h1.2.1 = slots + h'.2.1 → H1[q9]? = some ce → ce.vm = .none → s.vm.findClass xE = some ce.cls →
    vx_W p l e R s m args below meth c H1 locs1 cells slots (dE D b r h' below args s mc ms) (F0 m pc ls rest) q9
theorem dfree_out {q : dMI} {pc : Nat} (hf : dfree q pc = true) : ∀ x ∈ tableOf (dHH q), covers x pc = false := by
  intro x hx
  obtain ⟨z, hz, rfl⟩ := List.mem_map.mp hx
  have h1 := List.all_eq_true.mp hf z hz
  simp only [Bool.not_eq_true', Bool.and_eq_false_iff] at h1
  show (decide (z.1 ≤ pc) && decide (pc < z.2.1)) = false
  rw [Bool.and_eq_false_iff]
  rcases h1 with h1 | h1
  · left
    exact decide_eq_false fun g => by rw [Nat.ble_eq_true_of_le g] at h1; cases h1
  · right
    exact decide_eq_false fun g => by rw [di_blt.mpr g] at h1; cases h1
theorem dThrow_out {l : Launch} {D : dD} {b : Nat → Nat} {q : dMI} {d pc : Nat} {L : dL} {h1 : dH} {v : Option dV} (hf : dfree q pc = true) (hv : dthr v = true) : dThrow l D b q d pc L h1 v h1 := by
  intro p e R s m args below meth c H1 locs1 cells slots mc ms ls q9 ce rest C hR hS hl hm e1 e2 hce hcv hcl
  rw [dE_x hv]
  refine vx_out (by rw [C.2.2.2.2.2.2.2.2.2]; exact dfree_out hf) C.2.2.2.2.2.2.1 hce hcv hcl (fun t ht _ => ⟨rfl, by rw [ht]; exact hR, fun x hx => by rw [ht]; exact hS.2.1 x hx⟩) hS.2.2 (by omega) (by omega)
theorem dflt_tl (b : Nat → Nat) (x : Nat) (L : dL) : (dLv b L).filter (fun q => !(q.1 == x) && !(q.1 + 1 == x && q.2.category == 2)) = dLv b (L.filter (dp1 x)) := by
  have h := dflt1 b x (.inl 0) L
  simp only [dLv, List.map_cons, List.cons.injEq] at h
  exact h.2
theorem dThrow_catch {l : Launch} {D : dD} {b : Nat → Nat} {q : dMI} {d pc n t : Nat} {L : dL} {h1 : dH} {r : Option dV} {h' : dH} (hk : dhook q pc n t = true) (G : dWp l D b q d t (L.filter (dp1 n)) [] h1 r h') : dThrow l D b q d pc L h1 r h' := by
  have e : dHH q = [] := rfl
  unfold dhook at hk
  rw [e] at hk
  cases hk
section DXT
variable {l : Launch} {D : dD} {b : Nat → Nat} {q t : dMI} {d pc i y : Nat} {L : dL} {st as : List dV} {h h1 : dH} {r v : Option dV} {h' : dH} {a n ct ci : Nat}
theorem ds_athrow (hdg : decode q.2.2.1 pc = .ok (.athrow, 1)) (hf : dfree q pc = true) (ha : hat h a = some (18, n, ct)) (hv : dthr v = true) : dWp l D b q d pc L (.inr (.inr (Nat.succ a)) :: st) h v h := by
  intro p e R s m args below meth c H locs cells slots mc ms ls C hR hS hl hm e1 e2
  rcases hR.2.2 a _ ha with ⟨h1, -⟩ | ⟨ci, h1, h2, -⟩ | ⟨-, ce, -, h3⟩
  · exact absurd (show (18 : Nat) < 4 from h1) (by decide)
  · have h2 : 18 = ci + 4 := h2
    omega
  · exact h3.elim
/-- what is known of a method that is called, whether it has handlers or not -/
def dlnkG (q t : dMI) (i y : Nat) (as : List dV) (ks : List Nat) : Prop := dMis[y]? = some t ∧ t ∈ dMis ∧ (∃ k, k ∈ ks ∧ (i, y, k) ∈ dMT q.1) ∧ (t.2.1.cls ≠ "java/lang/invoke/MethodHandle" ∧ t.2.1.cls ≠ "java/lang/invoke/VarHandle") ∧ (parseMethodDescriptor t.2.1.desc).map (fun d => d.parameters.length) = some as.length ∧ t.2.2.2.1 ≤ 40
theorem ds_virtG (hdg : decode q.2.2.1 pc = .ok (.invokevirtual i, 3)) (ho : q.1 < 14) (K : dlnkG q t i y as [1]) (hci : ci < 14) (hcl : t.2.1.cls = cR ci) (ha : hat h a = some (ci + 4, n, ct)) (hM : dMetG l D b t d (.inr (.inr (Nat.succ a)) :: as) h v h1) (g1 : h.1 ≤ h1.1) (g2 : h.2.1 ≤ h1.2.1) (y1 : h1.1 ≤ h'.1) (y2 : h1.2.1 ≤ h'.2.1) (hc : dcat st ≤ 8) (Gn : dthr v = false → dWp l D b q (d + 1) (pc + 3) L (dpush v st) h1 r h') (Gx : dthr v = true → dThrow l D b q (d + 1) pc L h1 r h') : dWp l D b q (d + 1) pc L (as.reverse ++ .inr (.inr (Nat.succ a)) :: st) h r h' := by
  intro p e R s m args below meth c H locs cells slots mc ms ls C hR hS hl hm e1 e2
  obtain ⟨k1, k2, ⟨k, hk, hk2⟩, k4, k5, k6⟩ := K
  simp at hk; subst hk
  have hts := C.2.2.2.2.1
  have hG := dTs_c q k2
  have hw : ∀ w ∈ dWM q.1 (i, y, 1), w.before args s = true := fun w hw => hts w (List.mem_cons_of_mem _ (dTB_m ho hk2 hw))
  have hwm : ∀ w ∈ dWM q.1 (i, y, 1), w ∈ dTs q := fun w hw => List.mem_cons_of_mem _ (dTB_m ho hk2 hw)
  rw [dWM_1 k1] at hw hwm
  have a1 := hw (.methodLink (cR q.1) i t.2.1) (by simp)
  have a2 := hw (.instanceMethod t.2.1) (by simp)
  have a3 := hw (.initialized t.2.1.cls) (by simp)
  have a4 := hw (.selects t.2.1.cls t.2.1 t.2.1) (by simp)
  have hci := dCR.lt13 (hR.2.2 a _ ha)
  obtain ⟨cell, q1, q2, q3, -⟩ := (hR.2.2 a _ ha).obj hci
  have hfc := (C.2.2.2.2.2.2.2.2.1.1.1 ci _ (dCl_at ci hci)).2.1
  have hpre : PreV s H t.2.1.cls (b a) (va_Pc ((.inr (.inr (Nat.succ a)) :: as : List dV).map (dv b)) (fun U => dRl D b h U.heap ∧ dKK D b U U.heap)) (as.map (dv b)) := ⟨dblind, ⟨cell, q1, by rw [q3]; rfl, by rw [q2, hcl]; exact hfc⟩, fun U hU hW => ⟨rfl, by rw [hU]; exact hR, by rw [hU]; exact dKK.warm hW (dKK.kept hS.2.1 C.2.2.2.2.2.2.2.2.1)⟩⟩
  have hfin : ∀ a9, vx_Run p l e R s m args below meth c H locs cells slots (h1.1 - h.1) (h1.2.1 - h.2.1) (F0 m pc ls ((as.map (dv b)).reverse ++ .ref (b a) :: st.map (dv b))) (st.map (dv b)) (dQn D b v h1 a9) (dXn D b v h1) (fun x => b 0 ≤ x) → W p l e R s m args below meth c H locs cells slots (dE D b r h' below args s mc ms) (F0 m pc ls ((as.map (dv b)).reverse ++ .ref (b a) :: st.map (dv b))) := fun a9 run =>
    ds_afterG run hS (fun hv H1 locs1 hR1 hS1 => by
      rw [← dpush_map]
      exact Gn hv p e R s m args below meth c H1 locs1 _ _ mc ms ls C hR1 hS1 hl hm (by omega) (by omega)) (fun hv H1 locs1 q9 ce hR1 hS1 hce hcv hcl9 => Gx hv p e R s m args below meth c H1 locs1 _ _ mc ms ls q9 ce _ C hR1 hS1 hl hm (by omega) (by omega) hce hcv hcl9)
  rw [dmap_rev2]
  cases hh : dHH t with
  | nil =>
    have hwt : dTs t = Cond.code t.2.1 t.2.2.1 t.2.2.2.1 t.2.2.2.2 :: dTB := by
      show dWCh t (dHH t) :: dTB = _
      rw [hh]; rfl
    have cb := callB_of (R := R) (own := cR q.1) (index := i) (y := t.2.1) (rm := { frames := d, cells := h1.1 - h.1, slots := h1.2.1 - h.2.1, locals := d * 64 }) as.length hts hG hwt rfl rfl a3 a1 ⟨k4.1, k4.2, k5⟩ (droom hm k6)
    exact hfin _ (vx_runV (C := t.2.1.cls) (b := b a) (As := as.map (dv b)) ⟨C.1, C.2.1, C.2.2.1, C.2.2.2.1, hts⟩ hM ⟨cb, a2, a4⟩ hpre rfl (List.length_map _) hl.1 rfl (lv_room (by rw [dcat_eq]; exact hc)) hdg ⟨by have := hm.2.2.1; omega, by have := hm.2.2.2; omega⟩)
  | cons z zs =>
    have hwt : dTs t = Cond.codeWith t.2.1 t.2.2.1 t.2.2.2.1 t.2.2.2.2 (z :: zs) :: dTB := by
      show dWCh t (dHH t) :: dTB = _
      rw [hh]; rfl
    have hGV : GoodIn (dTs q) (wsV (cR q.1) i t.2.1.cls t.2.1 (dTs t)) := by
      intro w hw9
      unfold wsV at hw9
      have hgw : w ∈ dTs q := by
        rcases List.mem_append.mp hw9 with g | g
        · exact hwm w (by simpa using g)
        · exact (hG w g).1
      rcases List.mem_append.mp hw9 with g | g
      · exact ⟨hgw, dTB_gd (dTB_m ho hk2 (by rw [dWM_1 k1]; simpa using g))⟩
      · exact hG w g
    have cw := vx_cwVW (R := R) (own := cR q.1) (C := t.2.1.cls) (index := i) (y := t.2.1) (rm := { frames := d, cells := h1.1 - h.1, slots := h1.2.1 - h.2.1, locals := d * 64 }) as.length hts hGV hwt rfl rfl ⟨rfl, k4.1, k4.2, k5⟩ (droom hm k6)
    exact hfin _ (vx_runVX (C := t.2.1.cls) (b := b a) (As := as.map (dv b)) ⟨C.1, C.2.1, C.2.2.1, C.2.2.2.1, hts⟩ hM cw hpre rfl (List.length_map _) hl.1 rfl (lv_room (by rw [dcat_eq]; exact hc)) hdg ⟨by have := hm.2.2.1; omega, by have := hm.2.2.2; omega⟩)
end DXT

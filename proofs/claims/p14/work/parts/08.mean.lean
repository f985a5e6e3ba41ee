/-! ===== what the words mean on the machine: the heap behind b, and a lemma for each instruction ===== -/
abbrev dD : Type := va_G × (Nat → ClassId)
def dTy (kd : Nat) : FieldType := match kd with
  | 0 => .int
  | 1 => .long
  | 2 => .byte
  | _ => .boolean
def dEl (kd ct j : Nat) : Value := match kd with
  | 0 => .int (Int32.ofNat (wd 32 ct j))
  | 1 => .long (Int64.ofNat (wd 64 ct j))
  | 2 => .int (Int32.ofNat (dI2b (wd 8 ct j)))
  | _ => .int (Int32.ofNat (wd 8 ct j))
def dFld (b : Nat → Nat) (ci ct k : Nat) : Value := dv b (fv (tcode (cY ci k)) (wd 64 ct k))
def dCR (D : dD) (b : Nat → Nat) (a : Nat) (c : dC) (H : Heap) : Prop := (c.1 < 4 ∧ H[a]? = some (arrV (D.2 c.1) c.2.1 (dEl c.1 c.2.2))) ∨ (∃ ci, ci < 13 ∧ c.1 = ci + 4 ∧ t_OB a (D.1.1 ci) (cN ci) (D.1.2 ci) H (dFld b ci c.2.2)) ∨ (c.1 = 18 ∧ ∃ ce : Cell, H[a]? = some ce ∧ False)
theorem dCR.kept {D : dD} {b : Nat → Nat} {a : Nat} {c : dC} {H H1 : Heap} (h : dCR D b a c H) (e : H1[a]? = H[a]?) : dCR D b a c H1 := by
  rcases h with ⟨h1, h2⟩ | ⟨ci, h1, h2, h3⟩ | ⟨h1, ce, h2, h3⟩
  · exact Or.inl ⟨h1, e.trans h2⟩
  · exact Or.inr (Or.inl ⟨ci, h1, h2, h3.kept e⟩)
  · exact Or.inr (Or.inr ⟨h1, ce, e.trans h2, h3⟩)
/-- where cells lie: those of this heap one behind the other, behind all that was there -/
def dLn (b : Nat → Nat) : Prop := ∀ k, k < 1099511627776 → b k = b 0 + k
def dRl (D : dD) (b : Nat → Nat) (h : dH) (H : Heap) : Prop := (H.size = b 0 + h.1 ∧ h.1 < 1099511627776 ∧ dLn b) ∧ hwf h ∧ ∀ (k : Nat) (c : dC), hat h k = some c → dCR D b (b k) c H
def dS (b : Nat → Nat) (H0 H : Heap) (locs : List Loc) : Prop := b 0 ≤ H0.size ∧ (∀ q : Nat, q < b 0 → H[q]? = H0[q]?) ∧ ∀ l ∈ locs, b 0 ≤ l.base
theorem dRl.at {D : dD} {b : Nat → Nat} {h : dH} {H : Heap} (hR : dRl D b h H) {k : Nat} (hk : k ≤ h.1) : b k = b 0 + k := hR.1.2.2 k (by have := hR.1.2.1; omega)
theorem dRl.set {D : dD} {b : Nat → Nat} {h h' : dH} {H H1 : Heap} {k : Nat} {c c0 : dC} (hR : dRl D b h H) (hc0 : hat h k = some c0) (z : H1.size = H.size) (o : ∀ q, q ≠ b k → H1[q]? = H[q]?) (hc : dCR D b (b k) c H1) (e1 : h'.1 = h.1) (hw : hwf h') (e : ∀ j, hat h' j = if j = k then some c else hat h j) : dRl D b h' H1 := by
  refine ⟨⟨by rw [z, e1]; exact hR.1.1, by rw [e1]; exact hR.1.2.1, hR.1.2.2⟩, hw, fun j d hj => ?_⟩
  rw [e] at hj
  split at hj
  · rename_i hk
    subst hk
    cases hj
    exact hc
  · rename_i hk
    refine (hR.2.2 j d hj).kept (o _ ?_)
    have h1 := hR.at (Nat.le_of_lt (hat_lt hR.2.1 hj))
    have h2 := hR.at (Nat.le_of_lt (hat_lt hR.2.1 hc0))
    omega
theorem dRl.push {D : dD} {b : Nat → Nat} {h h' : dH} {H H1 : Heap} {c : dC} (hR : dRl D b h H) (hn : h.1 < 1073741824) (z : H1.size = H.size + 1) (o : ∀ q, q < H.size → H1[q]? = H[q]?) (hc : dCR D b H.size c H1) (e1 : h'.1 = h.1 + 1) (hw : hwf h') (e : ∀ j, hat h' j = if j = h.1 then some c else hat h j) : dRl D b h' H1 := by
  refine ⟨⟨by rw [z, e1, hR.1.1]; omega, by rw [e1]; omega, hR.1.2.2⟩, hw, fun j d hj => ?_⟩
  rw [e] at hj
  split at hj
  · rename_i hk
    subst hk
    cases hj
    rw [hR.at (Nat.le_refl _), ← hR.1.1]
    exact hc
  · have h1 := hat_lt hR.2.1 hj
    have h2 := hR.at (Nat.le_of_lt h1)
    exact (hR.2.2 j d hj).kept (o _ (by rw [hR.1.1]; omega))
theorem dS.put {b : Nat → Nat} {H0 H H1 : Heap} {locs : List Loc} {a k : Nat} (h : dS b H0 H locs) (o : ∀ q : Nat, q ≠ a → H1[q]? = H[q]?) (ha : b 0 ≤ a) : dS b H0 H1 (locs ++ [⟨a, k⟩]) := by
  refine ⟨h.1, fun q hq => (o q (by omega)).trans (h.2.1 q hq), fun x hx => ?_⟩
  rcases List.mem_append.mp hx with hx | hx
  · exact h.2.2 x hx
  · rw [List.mem_singleton.mp hx]; exact ha
theorem dS.push {b : Nat → Nat} {H0 H H1 : Heap} {locs : List Loc} {n : Nat} (h : dS b H0 H locs) (z : H.size = b 0 + n) (o : ∀ q : Nat, q < H.size → H1[q]? = H[q]?) : dS b H0 H1 locs :=
  ⟨h.1, fun q hq => (o q (by omega)).trans (h.2.1 q hq), h.2.2⟩
def dNm (y : Nat) : MethodName := match dMis[y]? with
  | some q => q.2.1
  | none => objectInit
def dLen : List Nat := dStr.map (·.1)
def dByt : List (List Int32) := dStr.map fun e => (List.range e.1).map fun j => Int32.ofNat (wd 8 e.2 j)
/-- the texts: where they lie, what they hold -/
def dKT2 (b : Nat → Nat) (U : State) (H : Heap) : Prop := dTxt (fun q => b 0 ≤ q) dStr.length dLen dByt (fun z => b (dT0 + z)) (fun z => b (dT1 + z)) U H
theorem dXt_tab {w : Cond} (h : dXt w = true) : w.onTables = true := by
  cases w <;> first | rfl | (exact absurd h (by simp [dXt]))
theorem dXt_warm {w : Cond} (h : dXt w = true) {s U : State} (hW : s.WarmedH U.vm) (hz : va_Nw w s) : va_Nw w U := by
  cases w <;> first | (exact va_Nw.warmC hW hz) | (exact va_Nw.warmD hW hz) | (exact absurd h (by simp [dXt]))
theorem dXB_t {w : Cond} (h : w ∈ dXB) : dXt w = true := List.all_eq_true.mp dXB_ok w h
/-- what exceptions need: their class, the words that are none of the tables', and what lies in two statics -/
def dKE (D : dD) (b : Nat → Nat) (U : State) (H : Heap) : Prop := True ∧ (∀ w ∈ dXB, va_Nw w U) ∧ True ∧ True
theorem dKE.same {D : dD} {b : Nat → Nat} {u U : State} {H : Heap} (h : u.vm = U.vm) (hK : dKE D b u H) : dKE D b U H := by
  have ha : u.vm.Alike U.vm := by rw [h]; exact Vm.Alike.refl _
  exact ⟨trivial, fun w hw => va_Nw.same (dXt_tab (dXB_t hw)) h (hK.2.1 w hw), trivial, trivial⟩
theorem dKE.warm {D : dD} {b : Nat → Nat} {s U : State} {H : Heap} (h : s.WarmedH U.vm) (hK : dKE D b s H) : dKE D b U H :=
  ⟨trivial, fun w hw => dXt_warm (dXB_t hw) h (hK.2.1 w hw), trivial, trivial⟩
theorem dKE.kept {D : dD} {b : Nat → Nat} {U : State} {H H1 : Heap} (h : ∀ q : Nat, q < b 0 → H1[q]? = H[q]?) (hK : dKE D b U H) : dKE D b U H1 :=
  ⟨hK.1, hK.2.1, trivial, trivial⟩
/-- what the machine's tables say, and the texts -/
def dKK (D : dD) (b : Nat → Nat) (U : State) (H : Heap) : Prop := va_K D.1 diCl [] U ∧ (∀ kd, kd < 4 → ArrOfT U (D.2 kd) (dTy kd) ∧ U.vm.findClass ("[" ++ (dTy kd).toString) = some (D.2 kd)) ∧ (∀ e ∈ dNT, va_Nw (.methodLinkNest (cR e.1) e.2.1 (dNm e.2.2) "ItemJudge") U) ∧ (∀ e ∈ dSR, vk_R (cR e.1) e.2.1 (dTn.getD e.2.2 "") (b (dT0 + e.2.2)) U) ∧ dKT2 b U H ∧ dKE D b U H
theorem dKK.same {D : dD} {b : Nat → Nat} {u U : State} {H : Heap} (h : u.vm = U.vm) (hK : dKK D b u H) : dKK D b U H := by
  have ha : u.vm.Alike U.vm := by rw [h]; exact Vm.Alike.refl _
  exact ⟨hK.1.moved ha, fun kd hk => ⟨arrOfT_moved ha (hK.2.1 kd hk).1, by rw [← h]; exact (hK.2.1 kd hk).2⟩, fun e he => va_Nw.same rfl h (hK.2.2.1 e he), fun e he => vk_R.same h.symm (hK.2.2.2.1 e he), dTxt.moved ha hK.2.2.2.2.1, dKE.same h hK.2.2.2.2.2⟩
theorem dKK.warm {D : dD} {b : Nat → Nat} {s U : State} {H : Heap} (h : s.WarmedH U.vm) (hK : dKK D b s H) : dKK D b U H :=
  ⟨hK.1.moved h.alike, fun kd hk => ⟨arrOfT_moved h.alike (hK.2.1 kd hk).1, by rw [h.alike.findClass]; exact (hK.2.1 kd hk).2⟩, fun e he => va_Nw.warmM h (hK.2.2.1 e he), fun e he => vk_R.warm h (hK.2.2.2.1 e he), dTxt.moved h.alike hK.2.2.2.2.1, dKE.warm h hK.2.2.2.2.2⟩
theorem dKK.kept {D : dD} {b : Nat → Nat} {U : State} {H H1 : Heap} (h : ∀ q : Nat, q < b 0 → H1[q]? = H[q]?) (hK : dKK D b U H) : dKK D b U H1 :=
  ⟨hK.1, hK.2.1, hK.2.2.1, hK.2.2.2.1, dTxt.kept hK.2.2.2.2.1 fun a _ ha => h a (Nat.not_le.mp ha), dKE.kept h hK.2.2.2.2.2⟩
def dQ (D : dD) (b : Nat → Nat) (r : Option dV) (h' : dH) : Array Value → State → Outcome → State → Prop := fun _ st oc t => oc = .returned (r.map (dv b)) ∧ dRl D b h' t.heap ∧ ∀ q : Nat, q < b 0 → t.heap[q]? = st.heap[q]?
/-- what holds where a method has thrown -/
def dXc (D : dD) (b : Nat → Nat) (h' : dH) : String → State → State → Prop := fun E st t => E = xE ∧ dRl D b h' t.heap ∧ ∀ q : Nat, q < b 0 → t.heap[q]? = st.heap[q]?
/-- a method's end: it has returned, or thrown -/
def dE (D : dD) (b : Nat → Nat) (r : Option dV) (h' : dH) (below : List Frame) (args : Array Value) (s : State) (mc ms : Nat) : State → Prop := match r with
  | some (.inr (.inr _)) => vx_MQ below (fun _ _ _ _ => False) (dXc D b h') args s mc ms (fun x => b 0 ≤ x)
  | r => MQ below (dQ D b r h') args s mc ms (fun x => b 0 ≤ x)
theorem dE_n {D : dD} {b : Nat → Nat} {r : Option dV} {h' : dH} {below : List Frame} {args : Array Value} {s : State} {mc ms : Nat} (hr : dthr r = false) : dE D b r h' below args s mc ms = MQ below (dQ D b r h') args s mc ms (fun x => b 0 ≤ x) := by
  match r, hr with
  | none, _ => rfl
  | some (.inl _), _ => rfl
  | some (.inr (.inl _)), _ => rfl
  | some (.inr (.inr _)), hr => cases hr
theorem dE_x {D : dD} {b : Nat → Nat} {r : Option dV} {h' : dH} {below : List Frame} {args : Array Value} {s : State} {mc ms : Nat} (hr : dthr r = true) : dE D b r h' below args s mc ms = vx_MQ below (fun _ _ _ _ => False) (dXc D b h') args s mc ms (fun x => b 0 ≤ x) := by
  match r, hr with
  | none, hr => cases hr
  | some (.inl _), hr => cases hr
  | some (.inr (.inl _)), hr => cases hr
  | some (.inr (.inr _)), _ => rfl
def dLv (b : Nat → Nat) (L : dL) : List (Nat × Value) := L.map fun e => (e.1, dv b e.2)
def dCx (p : Program) (s : State) (m : MethodId) (args : Array Value) (meth : Method) (c : Code) (q : dMI) (D : dD) (b : Nat → Nat) : Prop :=
  p.tables.exec = Jvm.exec ∧ c.code = q.2.2.1 ∧ c.maxLocals = q.2.2.2.1 ∧ s.vm.findClass (cR q.1) = some m.cls ∧ (∀ w ∈ dTs q, w.before args s = true) ∧ meth.sig.returnType = q.2.2.2.2 ∧ meth.locks = false ∧ meth.name = q.2.1.name ∧ dKK D b s s.heap ∧ c.exceptionTable.toList = tableOf (dHH q)
def dRm (R : Room) (d mc ms : Nat) : Prop := d ≤ R.frames ∧ d * 64 ≤ R.locals ∧ mc ≤ R.cells ∧ ms ≤ R.slots
def dWp (l : Launch) (D : dD) (b : Nat → Nat) (q : dMI) (d pc : Nat) (L : dL) (st : List dV) (h : dH) (r : Option dV) (h' : dH) : Prop :=
  ∀ (p : Program) (e : Env) (R : Room) (s : State) (m : MethodId) (args : Array Value) (below : List Frame) (meth : Method) (c : Code) (H : Heap) (locs : List Loc) (cells slots mc ms : Nat) (ls : Array Slot),
    dCx p s m args meth c q D b → dRl D b h H → dS b s.heap H locs → lv_has ls q.2.2.2.1 (dLv b L) → dRm R d mc ms → mc + h.1 = cells + h'.1 → ms + h.2.1 = slots + h'.2.1 →
    W p l e R s m args below meth c H locs cells slots (dE D b r h' below args s mc ms) (F0 m pc ls (st.map (dv b)))
theorem dlk_mem {L : dL} {i : Nat} {v : dV} (h : dlk L i = some v) : (i, v) ∈ L := by
  induction L with
  | nil => cases h
  | cons a t ih =>
    have h2 : cond (Nat.beq a.1 i) (some a.2) (dlk t i) = some v := h
    cases e : Nat.beq a.1 i
    · rw [e] at h2
      exact List.mem_cons_of_mem _ (ih h2)
    · rw [e] at h2
      cases h2
      have := Nat.eq_of_beq_eq_true e
      subst this
      exact List.mem_cons_self
theorem dlk_at {b : Nat → Nat} {nL : Nat} {ls : Array Slot} {L : dL} {i : Nat} {v : dV} (hl : lv_has ls nL (dLv b L)) (h : dlk L i = some v) : ls[i]? = some (.val (dv b v)) :=
  hl.2.2 (i, dv b v) (List.mem_map.mpr ⟨(i, v), dlk_mem h, rfl⟩)
theorem fltc_eq {α β : Type} (p : α → Bool) (L : List α) (k : List α → β) : fltc p L k = k (L.filter p) := by
  induction L generalizing k with
  | nil => rfl
  | cons a t ih =>
    show cond (p a) (fltc p t (fun u => k (a :: u))) (fltc p t k) = _
    cases e : p a
    · rw [List.filter_cons_of_neg (by simp [e])]; exact ih k
    · rw [List.filter_cons_of_pos e]; exact ih _
theorem dcat1 (b : Nat → Nat) (v : dV) : (dv b v).category = if disl v = true then 2 else 1 := by
  match v with
  | .inl n => rfl
  | .inr (.inl n) => rfl
  | .inr (.inr 0) => rfl
  | .inr (.inr (k + 1)) => rfl
theorem dbeq (a b : Nat) : Nat.beq a b = (a == b) := by
  rw [Bool.eq_iff_iff]; simp [Nat.beq_eq]
theorem dflt1 (b : Nat → Nat) (x : Nat) (v : dV) (L : dL) : (x, dv b v) :: (dLv b L).filter (fun q => !(q.1 == x) && !(q.1 + 1 == x && q.2.category == 2)) = dLv b ((x, v) :: L.filter (dp1 x)) := by
  simp only [dLv, List.map_cons, List.filter_map]
  congr 2
  congr 1
  funext e
  have hc := dcat1 b e.2
  simp only [Function.comp, dp1, hc]
  have e1 : Nat.beq e.1 x = (e.1 == x) := dbeq _ _
  have e2 : Nat.beq (Nat.succ e.1) x = (e.1 + 1 == x) := dbeq _ _
  rw [e1, e2]
  cases (e.1 == x) <;> cases (e.1 + 1 == x) <;> cases disl e.2 <;> rfl
theorem dflt2 (b : Nat → Nat) (x : Nat) (v : dV) (L : dL) : (x, dv b v) :: (dLv b L).filter (fun q => !(q.1 == x) && (!(q.1 == x + 1) && !(q.1 + 1 == x && q.2.category == 2))) = dLv b ((x, v) :: L.filter (dp2 x)) := by
  simp only [dLv, List.map_cons, List.filter_map]
  congr 2
  congr 1
  funext e
  have hc := dcat1 b e.2
  simp only [Function.comp, dp2, hc]
  have e1 : Nat.beq e.1 x = (e.1 == x) := dbeq _ _
  have e3 : Nat.beq e.1 (Nat.succ x) = (e.1 == x + 1) := dbeq _ _
  have e2 : Nat.beq (Nat.succ e.1) x = (e.1 + 1 == x) := dbeq _ _
  rw [e1, e2, e3]
  cases (e.1 == x) <;> cases (e.1 == x + 1) <;> cases (e.1 + 1 == x) <;> cases disl e.2 <;> rfl
theorem di_le (a b : Nat) : dLt a b = false ↔ Int32.ofNat b ≤ Int32.ofNat a := by
  rw [← Int32.not_lt, ← di_lt]
  cases dLt a b <;> simp
theorem dcond_f {x : Bool} : cond x false true = false ↔ x = true := by cases x <;> simp
theorem dcond_t {x : Bool} : cond x false true = true ↔ x = false := by cases x <;> simp
theorem dcd_ge_t {a k : Nat} (z : Int32.ofNat k ≤ Int32.ofNat a) : dcd .ge a k = true := by
  unfold dcd
  dsimp only
  rw [(di_le a k).mpr z]; rfl
theorem dcd_ge_f {a k : Nat} (z : ¬ Int32.ofNat k ≤ Int32.ofNat a) : dcd .ge a k = false := by
  unfold dcd
  dsimp only
  cases w : dLt a k
  · exact absurd ((di_le a k).mp w) z
  · rfl
theorem dcd_le_t {a k : Nat} (z : Int32.ofNat a ≤ Int32.ofNat k) : dcd .le a k = true := by
  unfold dcd
  dsimp only
  rw [(di_le k a).mpr z]; rfl
theorem dcd_le_f {a k : Nat} (z : ¬ Int32.ofNat a ≤ Int32.ofNat k) : dcd .le a k = false := by
  unfold dcd
  dsimp only
  cases w : dLt k a
  · exact absurd ((di_le k a).mp w) z
  · rfl
theorem dcd_lt_t {a k : Nat} (z : Int32.ofNat a < Int32.ofNat k) : dcd .lt a k = true := (di_lt a k).mpr z
theorem dcd_lt_f {a k : Nat} (z : ¬ Int32.ofNat a < Int32.ofNat k) : dcd .lt a k = false := Bool.eq_false_iff.mpr fun w => z ((di_lt a k).mp w)
theorem dcd_gt_t {a k : Nat} (z : Int32.ofNat k < Int32.ofNat a) : dcd .gt a k = true := (di_lt k a).mpr z
theorem dcd_gt_f {a k : Nat} (z : ¬ Int32.ofNat k < Int32.ofNat a) : dcd .gt a k = false := Bool.eq_false_iff.mpr fun w => z ((di_lt k a).mp w)
theorem dcd_eq_t {a k : Nat} (z : Int32.ofNat a = Int32.ofNat k) : dcd .eq a k = true := (di_eq a k).mpr z
theorem dcd_eq_f {a k : Nat} (z : ¬ Int32.ofNat a = Int32.ofNat k) : dcd .eq a k = false := Bool.eq_false_iff.mpr fun w => z ((di_eq a k).mp w)
theorem dcd_ne_t {a k : Nat} (z : ¬ Int32.ofNat a = Int32.ofNat k) : dcd .ne a k = true := by
  unfold dcd
  dsimp only
  rw [show dEq a k = false from Bool.eq_false_iff.mpr fun w => z ((di_eq a k).mp w)]; rfl
theorem dcd_ne_f {a k : Nat} (z : Int32.ofNat a = Int32.ofNat k) : dcd .ne a k = false := by
  unfold dcd
  dsimp only
  rw [(di_eq a k).mpr z]; rfl
section DS
variable {l : Launch} {D : dD} {b : Nat → Nat} {q : dMI} {d pc : Nat} {L : dL} {st : List dV} {h : dH} {r : Option dV} {h' : dH}

theorem ds_iconst {n : Int} {x : Nat} (hdg : decode q.2.2.1 pc = .ok (.iconst n, 1)) (hv : Int32.ofInt n = Int32.ofNat x) (G : dWp l D b q d (pc + 1) L (.inl x :: st) h r h') : dWp l D b q d pc L st h r h' := by
  intro p e R s m args below meth c H locs cells slots mc ms ls C hR hS hl hm e1 e2
  refine lv_iconst C.1 C.2.1 hdg hv ?_
  exact G p e R s m args below meth c H locs cells slots mc ms ls C hR hS hl hm e1 e2

theorem ds_bipush {n : Int} {x : Nat} (hdg : decode q.2.2.1 pc = .ok (.bipush n, 2)) (hv : (Int8.ofInt n).toInt32 = Int32.ofNat x) (G : dWp l D b q d (pc + 2) L (.inl x :: st) h r h') : dWp l D b q d pc L st h r h' := by
  intro p e R s m args below meth c H locs cells slots mc ms ls C hR hS hl hm e1 e2
  refine lv_bipush C.1 C.2.1 hdg hv ?_
  exact G p e R s m args below meth c H locs cells slots mc ms ls C hR hS hl hm e1 e2

theorem ds_sipush {n : Int} {x : Nat} (hdg : decode q.2.2.1 pc = .ok (.sipush n, 3)) (hv : (Int16.ofInt n).toInt32 = Int32.ofNat x) (G : dWp l D b q d (pc + 3) L (.inl x :: st) h r h') : dWp l D b q d pc L st h r h' := by
  intro p e R s m args below meth c H locs cells slots mc ms ls C hR hS hl hm e1 e2
  refine lv_sipush C.1 C.2.1 hdg hv ?_
  exact G p e R s m args below meth c H locs cells slots mc ms ls C hR hS hl hm e1 e2

theorem ds_lconst {n : Fin 2} {x : Nat} (hdg : decode q.2.2.1 pc = .ok (.lconst n, 1)) (hv : Int64.ofNat (n : Nat) = Int64.ofNat x) (G : dWp l D b q d (pc + 1) L (.inr (.inl x) :: st) h r h') : dWp l D b q d pc L st h r h' := by
  intro p e R s m args below meth c H locs cells slots mc ms ls C hR hS hl hm e1 e2
  refine lv_lconst C.1 C.2.1 hdg hv ?_
  exact G p e R s m args below meth c H locs cells slots mc ms ls C hR hS hl hm e1 e2

theorem ds_ldc {i x : Nat} (hdg : decode q.2.2.1 pc = .ok (.ldc i, 2)) (ho : q.1 < 14) (hx : (i, x) ∈ dKT q.1) (G : dWp l D b q d (pc + 2) L (.inl x :: st) h r h') : dWp l D b q d pc L st h r h' := by
  intro p e R s m args below meth c H locs cells slots mc ms ls C hR hS hl hm e1 e2
  have hw : Cond.constant (cR q.1) i (Int32.ofNat x) ∈ dTs q := List.mem_cons_of_mem _ (dTB_l ho (by unfold dWL; simp only [List.mem_append]; exact Or.inr (Or.inl (List.mem_map.mpr ⟨(i, x), hx, rfl⟩))))
  refine lv_ldc C.1 C.2.1 C.2.2.2.1 (C.2.2.2.2.1 _ hw) hdg ?_
  exact G p e R s m args below meth c H locs cells slots mc ms ls C hR hS hl hm e1 e2

theorem ds_ldcw {i x : Nat} (hdg : decode q.2.2.1 pc = .ok (.ldc_w i, 3)) (ho : q.1 < 14) (hx : (i, x) ∈ dKT q.1) (G : dWp l D b q d (pc + 3) L (.inl x :: st) h r h') : dWp l D b q d pc L st h r h' := by
  intro p e R s m args below meth c H locs cells slots mc ms ls C hR hS hl hm e1 e2
  have hw : Cond.constant (cR q.1) i (Int32.ofNat x) ∈ dTs q := List.mem_cons_of_mem _ (dTB_l ho (by unfold dWL; simp only [List.mem_append]; exact Or.inr (Or.inl (List.mem_map.mpr ⟨(i, x), hx, rfl⟩))))
  refine lv_ldcw C.1 C.2.1 C.2.2.2.1 (C.2.2.2.2.1 _ hw) hdg ?_
  exact G p e R s m args below meth c H locs cells slots mc ms ls C hR hS hl hm e1 e2

theorem ds_ldc2 {i x : Nat} (hdg : decode q.2.2.1 pc = .ok (.ldc2_w i, 3)) (ho : q.1 < 14) (hx : (i, x) ∈ dJT q.1) (G : dWp l D b q d (pc + 3) L (.inr (.inl x) :: st) h r h') : dWp l D b q d pc L st h r h' := by
  intro p e R s m args below meth c H locs cells slots mc ms ls C hR hS hl hm e1 e2
  have hw : Cond.constantLong (cR q.1) i (Int64.ofNat x) ∈ dTs q := List.mem_cons_of_mem _ (dTB_l ho (by unfold dWL; simp only [List.mem_append]; exact Or.inr (Or.inr (List.mem_map.mpr ⟨(i, x), hx, rfl⟩))))
  refine lv_ldc2 C.1 C.2.1 C.2.2.2.1 (C.2.2.2.2.1 _ hw) hdg ?_
  exact G p e R s m args below meth c H locs cells slots mc ms ls C hR hS hl hm e1 e2

theorem ds_iload_n {n : Fin 4} {x v : Nat} (hdg : decode q.2.2.1 pc = .ok (.iload_n n, 1)) (hi : (n : Nat) = x) (hv : dlk L x = some (.inl v)) (G : dWp l D b q d (pc + 1) L (.inl v :: st) h r h') : dWp l D b q d pc L st h r h' := by
  intro p e R s m args below meth c H locs cells slots mc ms ls C hR hS hl hm e1 e2
  refine lv_iload_n C.1 C.2.1 hdg hi (dlk_at hl hv) ?_
  exact G p e R s m args below meth c H locs cells slots mc ms ls C hR hS hl hm e1 e2

theorem ds_iload {x v : Nat} (hdg : decode q.2.2.1 pc = .ok (.iload x, 2)) (hv : dlk L x = some (.inl v)) (G : dWp l D b q d (pc + 2) L (.inl v :: st) h r h') : dWp l D b q d pc L st h r h' := by
  intro p e R s m args below meth c H locs cells slots mc ms ls C hR hS hl hm e1 e2
  refine lv_iload C.1 C.2.1 hdg (dlk_at hl hv) ?_
  exact G p e R s m args below meth c H locs cells slots mc ms ls C hR hS hl hm e1 e2

theorem ds_lload_n {n : Fin 4} {x v : Nat} (hdg : decode q.2.2.1 pc = .ok (.lload_n n, 1)) (hi : (n : Nat) = x) (hv : dlk L x = some (.inr (.inl v))) (G : dWp l D b q d (pc + 1) L (.inr (.inl v) :: st) h r h') : dWp l D b q d pc L st h r h' := by
  intro p e R s m args below meth c H locs cells slots mc ms ls C hR hS hl hm e1 e2
  refine lv_lload_n C.1 C.2.1 hdg hi (dlk_at hl hv) ?_
  exact G p e R s m args below meth c H locs cells slots mc ms ls C hR hS hl hm e1 e2

theorem ds_lload {x v : Nat} (hdg : decode q.2.2.1 pc = .ok (.lload x, 2)) (hv : dlk L x = some (.inr (.inl v))) (G : dWp l D b q d (pc + 2) L (.inr (.inl v) :: st) h r h') : dWp l D b q d pc L st h r h' := by
  intro p e R s m args below meth c H locs cells slots mc ms ls C hR hS hl hm e1 e2
  refine lv_lload C.1 C.2.1 hdg (dlk_at hl hv) ?_
  exact G p e R s m args below meth c H locs cells slots mc ms ls C hR hS hl hm e1 e2

theorem ds_aload_n {n : Fin 4} {x v : Nat} (hdg : decode q.2.2.1 pc = .ok (.aload_n n, 1)) (hi : (n : Nat) = x) (hv : dlk L x = some (.inr (.inr (Nat.succ v)))) (G : dWp l D b q d (pc + 1) L (.inr (.inr (Nat.succ v)) :: st) h r h') : dWp l D b q d pc L st h r h' := by
  intro p e R s m args below meth c H locs cells slots mc ms ls C hR hS hl hm e1 e2
  refine lv_aload_n C.1 C.2.1 hdg hi (dlk_at hl hv) ?_
  exact G p e R s m args below meth c H locs cells slots mc ms ls C hR hS hl hm e1 e2

theorem ds_aload {x v : Nat} (hdg : decode q.2.2.1 pc = .ok (.aload x, 2)) (hv : dlk L x = some (.inr (.inr (Nat.succ v)))) (G : dWp l D b q d (pc + 2) L (.inr (.inr (Nat.succ v)) :: st) h r h') : dWp l D b q d pc L st h r h' := by
  intro p e R s m args below meth c H locs cells slots mc ms ls C hR hS hl hm e1 e2
  refine lv_aload C.1 C.2.1 hdg (dlk_at hl hv) ?_
  exact G p e R s m args below meth c H locs cells slots mc ms ls C hR hS hl hm e1 e2

theorem ds_istore_n {n : Fin 4} {x v : Nat} (hdg : decode q.2.2.1 pc = .ok (.istore_n n, 1)) (hi : (n : Nat) = x) (hn : x < q.2.2.2.1) (G : dWp l D b q d (pc + 1) ((x, .inl v) :: L.filter (dp1 x)) st h r h') : dWp l D b q d pc L (.inl v :: st) h r h' := by
  intro p e R s m args below meth c H locs cells slots mc ms ls C hR hS hl hm e1 e2
  refine lv_istore_n C.1 C.2.1 hdg hi hl hn (dflt1 b x (.inl v) L) (fun ls2 hl2 => ?_)
  exact G p e R s m args below meth c H locs cells slots mc ms ls2 C hR hS hl2 hm e1 e2

theorem ds_istore {x v : Nat} (hdg : decode q.2.2.1 pc = .ok (.istore x, 2)) (hn : x < q.2.2.2.1) (G : dWp l D b q d (pc + 2) ((x, .inl v) :: L.filter (dp1 x)) st h r h') : dWp l D b q d pc L (.inl v :: st) h r h' := by
  intro p e R s m args below meth c H locs cells slots mc ms ls C hR hS hl hm e1 e2
  refine lv_istore C.1 C.2.1 hdg hl hn (dflt1 b x (.inl v) L) (fun ls2 hl2 => ?_)
  exact G p e R s m args below meth c H locs cells slots mc ms ls2 C hR hS hl2 hm e1 e2

theorem ds_lstore_n {n : Fin 4} {x v : Nat} (hdg : decode q.2.2.1 pc = .ok (.lstore_n n, 1)) (hi : (n : Nat) = x) (hn : x + 1 < q.2.2.2.1) (G : dWp l D b q d (pc + 1) ((x, .inr (.inl v)) :: L.filter (dp2 x)) st h r h') : dWp l D b q d pc L (.inr (.inl v) :: st) h r h' := by
  intro p e R s m args below meth c H locs cells slots mc ms ls C hR hS hl hm e1 e2
  refine lv_lstore_n C.1 C.2.1 hdg hi hl hn (dflt2 b x (.inr (.inl v)) L) (fun ls2 hl2 => ?_)
  exact G p e R s m args below meth c H locs cells slots mc ms ls2 C hR hS hl2 hm e1 e2

theorem ds_lstore {x v : Nat} (hdg : decode q.2.2.1 pc = .ok (.lstore x, 2)) (hn : x + 1 < q.2.2.2.1) (G : dWp l D b q d (pc + 2) ((x, .inr (.inl v)) :: L.filter (dp2 x)) st h r h') : dWp l D b q d pc L (.inr (.inl v) :: st) h r h' := by
  intro p e R s m args below meth c H locs cells slots mc ms ls C hR hS hl hm e1 e2
  refine lv_lstore C.1 C.2.1 hdg hl hn (dflt2 b x (.inr (.inl v)) L) (fun ls2 hl2 => ?_)
  exact G p e R s m args below meth c H locs cells slots mc ms ls2 C hR hS hl2 hm e1 e2

theorem ds_astore_n {n : Fin 4} {x v : Nat} (hdg : decode q.2.2.1 pc = .ok (.astore_n n, 1)) (hi : (n : Nat) = x) (hn : x < q.2.2.2.1) (G : dWp l D b q d (pc + 1) ((x, .inr (.inr (Nat.succ v))) :: L.filter (dp1 x)) st h r h') : dWp l D b q d pc L (.inr (.inr (Nat.succ v)) :: st) h r h' := by
  intro p e R s m args below meth c H locs cells slots mc ms ls C hR hS hl hm e1 e2
  refine lv_astore_n C.1 C.2.1 hdg hi hl hn (dflt1 b x (.inr (.inr (Nat.succ v))) L) (fun ls2 hl2 => ?_)
  exact G p e R s m args below meth c H locs cells slots mc ms ls2 C hR hS hl2 hm e1 e2

theorem ds_astore {x v : Nat} (hdg : decode q.2.2.1 pc = .ok (.astore x, 2)) (hn : x < q.2.2.2.1) (G : dWp l D b q d (pc + 2) ((x, .inr (.inr (Nat.succ v))) :: L.filter (dp1 x)) st h r h') : dWp l D b q d pc L (.inr (.inr (Nat.succ v)) :: st) h r h' := by
  intro p e R s m args below meth c H locs cells slots mc ms ls C hR hS hl hm e1 e2
  refine lv_astore C.1 C.2.1 hdg hl hn (dflt1 b x (.inr (.inr (Nat.succ v))) L) (fun ls2 hl2 => ?_)
  exact G p e R s m args below meth c H locs cells slots mc ms ls2 C hR hS hl2 hm e1 e2

theorem ds_iinc {i v w : Nat} {n : Int} (hdg : decode q.2.2.1 pc = .ok (.iinc i n, 3)) (hw : Int32.ofInt n = Int32.ofNat w) (hv : dlk L i = some (.inl v)) (hn : i < q.2.2.2.1) (G : dWp l D b q d (pc + 3) ((i, .inl (dAdd v w)) :: L.filter (dp1 i)) st h r h') : dWp l D b q d pc L st h r h' := by
  intro p e R s m args below meth c H locs cells slots mc ms ls C hR hS hl hm e1 e2
  obtain ⟨k, hk, hk2⟩ := List.getElem_of_mem (List.mem_map.mpr ⟨(i, (.inl v : dV)), dlk_mem hv, rfl⟩ : (i, dv b (.inl v)) ∈ dLv b L)
  refine lv_iinc (k := k) (x := Int32.ofNat v) (v := Int32.ofNat (dAdd v w)) C.1 C.2.1 hdg hl (show (List.map (fun e => (e.1, dv b e.2)) L)[k]? = _ from by rw [List.getElem?_eq_getElem hk, hk2]; rfl) (by rw [hw, di_add]) hn (dflt1 b i (.inl (dAdd v w)) L) (fun ls2 hl2 => ?_)
  exact G p e R s m args below meth c H locs cells slots mc ms ls2 C hR hS hl2 hm e1 e2

theorem ds_iadd {x y : Nat} (hdg : decode q.2.2.1 pc = .ok (.iadd, 1)) (G : dWp l D b q d (pc + 1) L (.inl (dAdd x y) :: st) h r h') : dWp l D b q d pc L (.inl y :: .inl x :: st) h r h' := by
  intro p e R s m args below meth c H locs cells slots mc ms ls C hR hS hl hm e1 e2
  refine lv_iadd C.1 C.2.1 hdg ?_
  rw [di_add]
  exact G p e R s m args below meth c H locs cells slots mc ms ls C hR hS hl hm e1 e2

theorem ds_isub {x y : Nat} (hdg : decode q.2.2.1 pc = .ok (.isub, 1)) (G : dWp l D b q d (pc + 1) L (.inl (dSub x y) :: st) h r h') : dWp l D b q d pc L (.inl y :: .inl x :: st) h r h' := by
  intro p e R s m args below meth c H locs cells slots mc ms ls C hR hS hl hm e1 e2
  refine lv_isub C.1 C.2.1 hdg ?_
  rw [di_sub]
  exact G p e R s m args below meth c H locs cells slots mc ms ls C hR hS hl hm e1 e2

theorem ds_imul {x y : Nat} (hdg : decode q.2.2.1 pc = .ok (.imul, 1)) (G : dWp l D b q d (pc + 1) L (.inl (dMul x y) :: st) h r h') : dWp l D b q d pc L (.inl y :: .inl x :: st) h r h' := by
  intro p e R s m args below meth c H locs cells slots mc ms ls C hR hS hl hm e1 e2
  refine lv_imul C.1 C.2.1 hdg ?_
  rw [di_mul]
  exact G p e R s m args below meth c H locs cells slots mc ms ls C hR hS hl hm e1 e2

theorem ds_iand {x y : Nat} (hdg : decode q.2.2.1 pc = .ok (.iand, 1)) (G : dWp l D b q d (pc + 1) L (.inl (dAnd x y) :: st) h r h') : dWp l D b q d pc L (.inl y :: .inl x :: st) h r h' := by
  intro p e R s m args below meth c H locs cells slots mc ms ls C hR hS hl hm e1 e2
  refine lv_iand C.1 C.2.1 hdg ?_
  rw [di_and]
  exact G p e R s m args below meth c H locs cells slots mc ms ls C hR hS hl hm e1 e2

theorem ds_ior {x y : Nat} (hdg : decode q.2.2.1 pc = .ok (.ior, 1)) (G : dWp l D b q d (pc + 1) L (.inl (dOr x y) :: st) h r h') : dWp l D b q d pc L (.inl y :: .inl x :: st) h r h' := by
  intro p e R s m args below meth c H locs cells slots mc ms ls C hR hS hl hm e1 e2
  refine lv_ior C.1 C.2.1 hdg ?_
  rw [di_or]
  exact G p e R s m args below meth c H locs cells slots mc ms ls C hR hS hl hm e1 e2

theorem ds_ixor {x y : Nat} (hdg : decode q.2.2.1 pc = .ok (.ixor, 1)) (G : dWp l D b q d (pc + 1) L (.inl (dXor x y) :: st) h r h') : dWp l D b q d pc L (.inl y :: .inl x :: st) h r h' := by
  intro p e R s m args below meth c H locs cells slots mc ms ls C hR hS hl hm e1 e2
  refine lv_ixor C.1 C.2.1 hdg ?_
  rw [di_xor]
  exact G p e R s m args below meth c H locs cells slots mc ms ls C hR hS hl hm e1 e2

theorem ds_ishl {x y : Nat} (hdg : decode q.2.2.1 pc = .ok (.ishl, 1)) (G : dWp l D b q d (pc + 1) L (.inl (dShl x y) :: st) h r h') : dWp l D b q d pc L (.inl y :: .inl x :: st) h r h' := by
  intro p e R s m args below meth c H locs cells slots mc ms ls C hR hS hl hm e1 e2
  refine lv_ishl C.1 C.2.1 hdg ?_
  rw [di_shl]
  exact G p e R s m args below meth c H locs cells slots mc ms ls C hR hS hl hm e1 e2

theorem ds_ishr {x y : Nat} (hdg : decode q.2.2.1 pc = .ok (.ishr, 1)) (G : dWp l D b q d (pc + 1) L (.inl (dShr x y) :: st) h r h') : dWp l D b q d pc L (.inl y :: .inl x :: st) h r h' := by
  intro p e R s m args below meth c H locs cells slots mc ms ls C hR hS hl hm e1 e2
  refine lv_ishr C.1 C.2.1 hdg ?_
  rw [di_shr]
  exact G p e R s m args below meth c H locs cells slots mc ms ls C hR hS hl hm e1 e2

theorem ds_ladd {x y : Nat} (hdg : decode q.2.2.1 pc = .ok (.ladd, 1)) (G : dWp l D b q d (pc + 1) L (.inr (.inl (dLAdd x y)) :: st) h r h') : dWp l D b q d pc L (.inr (.inl y) :: .inr (.inl x) :: st) h r h' := by
  intro p e R s m args below meth c H locs cells slots mc ms ls C hR hS hl hm e1 e2
  refine lv_ladd C.1 C.2.1 hdg ?_
  rw [di_ladd]
  exact G p e R s m args below meth c H locs cells slots mc ms ls C hR hS hl hm e1 e2

theorem ds_lsub {x y : Nat} (hdg : decode q.2.2.1 pc = .ok (.lsub, 1)) (G : dWp l D b q d (pc + 1) L (.inr (.inl (dLSub x y)) :: st) h r h') : dWp l D b q d pc L (.inr (.inl y) :: .inr (.inl x) :: st) h r h' := by
  intro p e R s m args below meth c H locs cells slots mc ms ls C hR hS hl hm e1 e2
  refine lv_lsub C.1 C.2.1 hdg ?_
  rw [di_lsub]
  exact G p e R s m args below meth c H locs cells slots mc ms ls C hR hS hl hm e1 e2

theorem ds_lmul {x y : Nat} (hdg : decode q.2.2.1 pc = .ok (.lmul, 1)) (G : dWp l D b q d (pc + 1) L (.inr (.inl (dLMul x y)) :: st) h r h') : dWp l D b q d pc L (.inr (.inl y) :: .inr (.inl x) :: st) h r h' := by
  intro p e R s m args below meth c H locs cells slots mc ms ls C hR hS hl hm e1 e2
  refine lv_lmul C.1 C.2.1 hdg ?_
  rw [di_lmul]
  exact G p e R s m args below meth c H locs cells slots mc ms ls C hR hS hl hm e1 e2

theorem ds_land {x y : Nat} (hdg : decode q.2.2.1 pc = .ok (.land, 1)) (G : dWp l D b q d (pc + 1) L (.inr (.inl (dLAnd x y)) :: st) h r h') : dWp l D b q d pc L (.inr (.inl y) :: .inr (.inl x) :: st) h r h' := by
  intro p e R s m args below meth c H locs cells slots mc ms ls C hR hS hl hm e1 e2
  refine lv_land C.1 C.2.1 hdg ?_
  rw [di_land]
  exact G p e R s m args below meth c H locs cells slots mc ms ls C hR hS hl hm e1 e2

theorem ds_lor {x y : Nat} (hdg : decode q.2.2.1 pc = .ok (.lor, 1)) (G : dWp l D b q d (pc + 1) L (.inr (.inl (dLOr x y)) :: st) h r h') : dWp l D b q d pc L (.inr (.inl y) :: .inr (.inl x) :: st) h r h' := by
  intro p e R s m args below meth c H locs cells slots mc ms ls C hR hS hl hm e1 e2
  refine lv_lor C.1 C.2.1 hdg ?_
  rw [di_lor]
  exact G p e R s m args below meth c H locs cells slots mc ms ls C hR hS hl hm e1 e2

theorem ds_lxor {x y : Nat} (hdg : decode q.2.2.1 pc = .ok (.lxor, 1)) (G : dWp l D b q d (pc + 1) L (.inr (.inl (dLXor x y)) :: st) h r h') : dWp l D b q d pc L (.inr (.inl y) :: .inr (.inl x) :: st) h r h' := by
  intro p e R s m args below meth c H locs cells slots mc ms ls C hR hS hl hm e1 e2
  refine lv_lxor C.1 C.2.1 hdg ?_
  rw [di_lxor]
  exact G p e R s m args below meth c H locs cells slots mc ms ls C hR hS hl hm e1 e2

theorem ds_idiv {x y : Nat} (hz : dZ y = false) (hdg : decode q.2.2.1 pc = .ok (.idiv, 1)) (G : dWp l D b q d (pc + 1) L (.inl (dDiv x y) :: st) h r h') : dWp l D b q d pc L (.inl y :: .inl x :: st) h r h' := by
  intro p e R s m args below meth c H locs cells slots mc ms ls C hR hS hl hm e1 e2
  refine lv_idiv C.1 C.2.1 hdg (di_z hz) ?_
  rw [di_div]
  exact G p e R s m args below meth c H locs cells slots mc ms ls C hR hS hl hm e1 e2

theorem ds_irem {x y : Nat} (hz : dZ y = false) (hdg : decode q.2.2.1 pc = .ok (.irem, 1)) (G : dWp l D b q d (pc + 1) L (.inl (dRem x y) :: st) h r h') : dWp l D b q d pc L (.inl y :: .inl x :: st) h r h' := by
  intro p e R s m args below meth c H locs cells slots mc ms ls C hR hS hl hm e1 e2
  refine lv_irem C.1 C.2.1 hdg (di_z hz) ?_
  rw [di_rem]
  exact G p e R s m args below meth c H locs cells slots mc ms ls C hR hS hl hm e1 e2

theorem ds_ldiv {x y : Nat} (hz : dLZ y = false) (hdg : decode q.2.2.1 pc = .ok (.ldiv, 1)) (G : dWp l D b q d (pc + 1) L (.inr (.inl (dLDiv x y)) :: st) h r h') : dWp l D b q d pc L (.inr (.inl y) :: .inr (.inl x) :: st) h r h' := by
  intro p e R s m args below meth c H locs cells slots mc ms ls C hR hS hl hm e1 e2
  refine lv_ldiv C.1 C.2.1 hdg (di_lz hz) ?_
  rw [di_ldiv]
  exact G p e R s m args below meth c H locs cells slots mc ms ls C hR hS hl hm e1 e2

theorem ds_lcmp {x y : Nat} (hdg : decode q.2.2.1 pc = .ok (.lcmp, 1)) (G : dWp l D b q d (pc + 1) L (.inl (dCmp x y) :: st) h r h') : dWp l D b q d pc L (.inr (.inl y) :: .inr (.inl x) :: st) h r h' := by
  intro p e R s m args below meth c H locs cells slots mc ms ls C hR hS hl hm e1 e2
  refine W.lcmp C.1 C.2.1 hdg ?_
  rw [di_cmp]
  exact G p e R s m args below meth c H locs cells slots mc ms ls C hR hS hl hm e1 e2

theorem ds_lshl {x y : Nat} (hdg : decode q.2.2.1 pc = .ok (.lshl, 1)) (G : dWp l D b q d (pc + 1) L (.inr (.inl (dLShl x y)) :: st) h r h') : dWp l D b q d pc L (.inl y :: .inr (.inl x) :: st) h r h' := by
  intro p e R s m args below meth c H locs cells slots mc ms ls C hR hS hl hm e1 e2
  refine lv_lshl C.1 C.2.1 hdg (di_lshl x y) ?_
  exact G p e R s m args below meth c H locs cells slots mc ms ls C hR hS hl hm e1 e2

theorem ds_lushr {x y : Nat} (hdg : decode q.2.2.1 pc = .ok (.lushr, 1)) (G : dWp l D b q d (pc + 1) L (.inr (.inl (dLUshr x y)) :: st) h r h') : dWp l D b q d pc L (.inl y :: .inr (.inl x) :: st) h r h' := by
  intro p e R s m args below meth c H locs cells slots mc ms ls C hR hS hl hm e1 e2
  refine lv_lushr C.1 C.2.1 hdg (di_lushr x y) ?_
  exact G p e R s m args below meth c H locs cells slots mc ms ls C hR hS hl hm e1 e2

theorem ds_ineg {x : Nat} (hdg : decode q.2.2.1 pc = .ok (.ineg, 1)) (G : dWp l D b q d (pc + 1) L (.inl (dNeg x) :: st) h r h') : dWp l D b q d pc L (.inl x :: st) h r h' := by
  intro p e R s m args below meth c H locs cells slots mc ms ls C hR hS hl hm e1 e2
  refine lv_ineg C.1 C.2.1 hdg ?_
  rw [di_neg]
  exact G p e R s m args below meth c H locs cells slots mc ms ls C hR hS hl hm e1 e2

theorem ds_i2b {x : Nat} (hdg : decode q.2.2.1 pc = .ok (.i2b, 1)) (G : dWp l D b q d (pc + 1) L (.inl (dI2b x) :: st) h r h') : dWp l D b q d pc L (.inl x :: st) h r h' := by
  intro p e R s m args below meth c H locs cells slots mc ms ls C hR hS hl hm e1 e2
  refine lv_i2b C.1 C.2.1 hdg (di_i2b x) ?_
  exact G p e R s m args below meth c H locs cells slots mc ms ls C hR hS hl hm e1 e2

theorem ds_i2l {x : Nat} (hdg : decode q.2.2.1 pc = .ok (.i2l, 1)) (G : dWp l D b q d (pc + 1) L (.inr (.inl (dI2l x)) :: st) h r h') : dWp l D b q d pc L (.inl x :: st) h r h' := by
  intro p e R s m args below meth c H locs cells slots mc ms ls C hR hS hl hm e1 e2
  refine lv_i2l C.1 C.2.1 hdg (di_i2l x) ?_
  exact G p e R s m args below meth c H locs cells slots mc ms ls C hR hS hl hm e1 e2

theorem ds_l2i {x : Nat} (hdg : decode q.2.2.1 pc = .ok (.l2i, 1)) (G : dWp l D b q d (pc + 1) L (.inl (dL2i x) :: st) h r h') : dWp l D b q d pc L (.inr (.inl x) :: st) h r h' := by
  intro p e R s m args below meth c H locs cells slots mc ms ls C hR hS hl hm e1 e2
  refine lv_l2i C.1 C.2.1 hdg (di_l2i x) ?_
  exact G p e R s m args below meth c H locs cells slots mc ms ls C hR hS hl hm e1 e2

theorem ds_if {cn : ClassFile.Cond} {off : Int} {x a : Nat} (hdg : decode q.2.2.1 pc = .ok (.ifCond cn off, 3)) (ht : (pc : Int) + off = (x : Int)) (G1 : dcd cn a 0 = true → dWp l D b q d x L st h r h') (G2 : dcd cn a 0 = false → dWp l D b q d (pc + 3) L st h r h') : dWp l D b q d pc L (.inl a :: st) h r h' := by
  intro p e R s m args below meth c H locs cells slots mc ms ls C hR hS hl hm e1 e2
  cases cn
  · exact lv_if_eq C.1 C.2.1 hdg ht (fun z => G1 (dcd_eq_t (k := 0) z) p e R s m args below meth c H locs cells slots mc ms ls C hR hS hl hm e1 e2) (fun z => G2 (dcd_eq_f (k := 0) z) p e R s m args below meth c H locs cells slots mc ms ls C hR hS hl hm e1 e2)
  · exact lv_if_ne C.1 C.2.1 hdg ht (fun z => G1 (dcd_ne_t (k := 0) z) p e R s m args below meth c H locs cells slots mc ms ls C hR hS hl hm e1 e2) (fun z => G2 (dcd_ne_f (k := 0) z) p e R s m args below meth c H locs cells slots mc ms ls C hR hS hl hm e1 e2)
  · exact lv_if_lt C.1 C.2.1 hdg ht (fun z => G1 (dcd_lt_t (k := 0) z) p e R s m args below meth c H locs cells slots mc ms ls C hR hS hl hm e1 e2) (fun z => G2 (dcd_lt_f (k := 0) z) p e R s m args below meth c H locs cells slots mc ms ls C hR hS hl hm e1 e2)
  · exact lv_if_ge C.1 C.2.1 hdg ht (fun z => G1 (dcd_ge_t (k := 0) z) p e R s m args below meth c H locs cells slots mc ms ls C hR hS hl hm e1 e2) (fun z => G2 (dcd_ge_f (k := 0) z) p e R s m args below meth c H locs cells slots mc ms ls C hR hS hl hm e1 e2)
  · exact lv_if_gt C.1 C.2.1 hdg ht (fun z => G1 (dcd_gt_t (k := 0) z) p e R s m args below meth c H locs cells slots mc ms ls C hR hS hl hm e1 e2) (fun z => G2 (dcd_gt_f (k := 0) z) p e R s m args below meth c H locs cells slots mc ms ls C hR hS hl hm e1 e2)
  · exact lv_if_le C.1 C.2.1 hdg ht (fun z => G1 (dcd_le_t (k := 0) z) p e R s m args below meth c H locs cells slots mc ms ls C hR hS hl hm e1 e2) (fun z => G2 (dcd_le_f (k := 0) z) p e R s m args below meth c H locs cells slots mc ms ls C hR hS hl hm e1 e2)

theorem ds_icmp {cn : ClassFile.Cond} {off : Int} {x a k : Nat} (hdg : decode q.2.2.1 pc = .ok (.if_icmp cn off, 3)) (ht : (pc : Int) + off = (x : Int)) (G1 : dcd cn a k = true → dWp l D b q d x L st h r h') (G2 : dcd cn a k = false → dWp l D b q d (pc + 3) L st h r h') : dWp l D b q d pc L (.inl k :: .inl a :: st) h r h' := by
  intro p e R s m args below meth c H locs cells slots mc ms ls C hR hS hl hm e1 e2
  cases cn
  · exact lv_icmp_eq C.1 C.2.1 hdg ht (fun z => G1 (dcd_eq_t z) p e R s m args below meth c H locs cells slots mc ms ls C hR hS hl hm e1 e2) (fun z => G2 (dcd_eq_f z) p e R s m args below meth c H locs cells slots mc ms ls C hR hS hl hm e1 e2)
  · exact lv_icmp_ne C.1 C.2.1 hdg ht (fun z => G1 (dcd_ne_t z) p e R s m args below meth c H locs cells slots mc ms ls C hR hS hl hm e1 e2) (fun z => G2 (dcd_ne_f z) p e R s m args below meth c H locs cells slots mc ms ls C hR hS hl hm e1 e2)
  · exact lv_icmp_lt C.1 C.2.1 hdg ht (fun z => G1 (dcd_lt_t z) p e R s m args below meth c H locs cells slots mc ms ls C hR hS hl hm e1 e2) (fun z => G2 (dcd_lt_f z) p e R s m args below meth c H locs cells slots mc ms ls C hR hS hl hm e1 e2)
  · exact lv_icmp_ge C.1 C.2.1 hdg ht (fun z => G1 (dcd_ge_t z) p e R s m args below meth c H locs cells slots mc ms ls C hR hS hl hm e1 e2) (fun z => G2 (dcd_ge_f z) p e R s m args below meth c H locs cells slots mc ms ls C hR hS hl hm e1 e2)
  · exact lv_icmp_gt C.1 C.2.1 hdg ht (fun z => G1 (dcd_gt_t z) p e R s m args below meth c H locs cells slots mc ms ls C hR hS hl hm e1 e2) (fun z => G2 (dcd_gt_f z) p e R s m args below meth c H locs cells slots mc ms ls C hR hS hl hm e1 e2)
  · exact lv_icmp_le C.1 C.2.1 hdg ht (fun z => G1 (dcd_le_t z) p e R s m args below meth c H locs cells slots mc ms ls C hR hS hl hm e1 e2) (fun z => G2 (dcd_le_f z) p e R s m args below meth c H locs cells slots mc ms ls C hR hS hl hm e1 e2)

theorem ds_goto {off : Int} {x : Nat} (hdg : decode q.2.2.1 pc = .ok (.goto off, 3)) (ht : (pc : Int) + off = (x : Int)) (G : dWp l D b q d x L st h r h') : dWp l D b q d pc L st h r h' := by
  intro p e R s m args below meth c H locs cells slots mc ms ls C hR hS hl hm e1 e2
  refine lv_goto C.1 C.2.1 hdg ht ?_
  exact G p e R s m args below meth c H locs cells slots mc ms ls C hR hS hl hm e1 e2

theorem ds_dup {v : dV} (hdg : decode q.2.2.1 pc = .ok (.dup, 1)) (hv : disl v = false) (G : dWp l D b q d (pc + 1) L (v :: v :: st) h r h') : dWp l D b q d pc L (v :: st) h r h' := by
  intro p e R s m args below meth c H locs cells slots mc ms ls C hR hS hl hm e1 e2
  refine lv_dup C.1 C.2.1 hdg (by rw [dcat1, hv]; rfl) ?_
  exact G p e R s m args below meth c H locs cells slots mc ms ls C hR hS hl hm e1 e2

theorem ds_pop {v : dV} (hdg : decode q.2.2.1 pc = .ok (.pop, 1)) (hv : disl v = false) (G : dWp l D b q d (pc + 1) L st h r h') : dWp l D b q d pc L (v :: st) h r h' := by
  intro p e R s m args below meth c H locs cells slots mc ms ls C hR hS hl hm e1 e2
  refine lv_pop C.1 C.2.1 hdg (by rw [dcat1, hv]; rfl) ?_
  exact G p e R s m args below meth c H locs cells slots mc ms ls C hR hS hl hm e1 e2

theorem ds_dup2_2 {v : dV} (hdg : decode q.2.2.1 pc = .ok (.dup2, 1)) (hv : disl v = true) (G : dWp l D b q d (pc + 1) L (v :: v :: st) h r h') : dWp l D b q d pc L (v :: st) h r h' := by
  intro p e R s m args below meth c H locs cells slots mc ms ls C hR hS hl hm e1 e2
  refine lv_dup2_2 C.1 C.2.1 hdg (by rw [dcat1, hv]; rfl) ?_
  exact G p e R s m args below meth c H locs cells slots mc ms ls C hR hS hl hm e1 e2

theorem ds_dup2_11 {v w : dV} (hdg : decode q.2.2.1 pc = .ok (.dup2, 1)) (hv : disl v = false) (hw : disl w = false) (G : dWp l D b q d (pc + 1) L (v :: w :: v :: w :: st) h r h') : dWp l D b q d pc L (v :: w :: st) h r h' := by
  intro p e R s m args below meth c H locs cells slots mc ms ls C hR hS hl hm e1 e2
  refine lv_dup2_11 C.1 C.2.1 hdg (by rw [dcat1, hv]; rfl) (by rw [dcat1, hw]; rfl) ?_
  exact G p e R s m args below meth c H locs cells slots mc ms ls C hR hS hl hm e1 e2

end DS

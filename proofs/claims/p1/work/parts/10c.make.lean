/-! ===== an exception made ===== -/
section
variable {p : Program} {l : Launch} {e : Env} {R : Room} {s : State} {m : MethodId} {args : Array Value} {below : List Frame} {meth : Method} {c : Code} {H : Heap} {locs : List Loc} {cells slots : Nat}
/-- a frame seen from a rebased start, seen from the first start again -/
theorem vx_back9 {T S : State} {R' : Room} {k n : Nat} (X : Stand p l e R s m args below meth c T locs cells slots) (Y : Stand p l e R' ((T.setVm s.vm).setFrames (.invoking m args :: below)) m args below meth c T [] 0 0) (Z : Stand p l e R' ((T.setVm s.vm).setFrames (.invoking m args :: below)) m args below meth c S [] k n) :
    Stand p l e R s m args below meth c S locs (cells + k) (slots + n) := by
  have hW0 : s.WarmedH ((T.setVm s.vm).setFrames (.invoking m args :: below)).vm := State.WarmedH.refl s
  refine { admits := X.admits, cas := X.cas, clock := X.clock, frames := X.frames, room := X.room, hears := X.hears, method := X.method, code := X.code, here := Z.here, tail := Z.tail, warmed := State.WarmedH.trans hW0 Z.warmed, limits := Z.limits.trans (Y.limits.symm.trans X.limits), bytes := Z.bytes.trans (Y.bytes.symm.trans X.bytes), same := ?_ }
  obtain ⟨e1, e2⟩ := Z.same
  rw [State.setFrames_setFrames] at e1
  have h2 : (T.setVm s.vm).sameButNew (S.setVm s.vm) [] k n := ⟨e1, e2⟩
  have h3 := X.same.trans h2
  rw [List.append_nil] at h3
  exact h3
end
section
variable {p : Program} {l : Launch} {e : Env} {R : Room} {s : State} {m : MethodId} {args : Array Value} {below : List Frame} {meth : Method} {c : Code} {H : Heap} {locs : List Loc} {cells slots : Nat} {Q : State → Prop} {ls : Array Slot} {rest : List Value}
/-- 'new E("text")' that isn't thrown at once, whatever else the heap holds (after the kit's vx_makeS) -/
theorem dx_make {cc : ByteArray} {pc : Nat} (hexec : p.tables.exec = Jvm.exec) (hb : c.code = cc) (hl : l.stackTraces = false) {own cls text : String} {names : List String} {ik is ic sa : Nat} {A : Nat → Prop} {cX9 : ClassId}
    (hown : s.vm.findClass own = some m.cls) (hcls : Bundle.fit cls = true) (hnames : ∀ n ∈ names, Bundle.fit n = true)
    (hk : (Cond.classLink own ik cls).before args s = true) (hini : (Cond.initialized cls).before args s = true) (hstr : vk_R own is text sa s) (hat : ∀ w ∈ vx_atS own ic cls names, w.before args s = true)
    (hgood : ∀ w ∈ Cond.classLink own ik cls :: Cond.initialized cls :: vx_atS own ic cls names, vx_ot w = true)
    (hU : vx_Zq Bundle.tN "UNASSIGNED_STACK" Bundle.steD A s s.heap) (hN : vx_Zq Bundle.tN "SUPPRESSED_SENTINEL" Bundle.listD A s s.heap) (hS : ∀ a : Nat, a < s.heap.size → ¬ A a → H[a]? = s.heap[a]?) (hsize : ls.size = c.maxLocals)
    (d0 : decode cc pc = .ok (.new ik, 3)) (d3 : decode cc (pc + 3) = .ok (.dup, 1)) (d4 : decode cc (pc + 4) = .ok (.ldc is, 2)) (d6 : decode cc (pc + 6) = .ok (.invokespecial ic, 3)) (hcX9 : s.vm.findClass cls = some cX9)
    (hRframes : names.length + 3 < R.frames) (hRlocals : (rest.map fun v => v.category).sum + (13 * (names.length + 1) + 43) ≤ R.locals) (hRcells : cells + 1 ≤ R.cells) (hRslots : slots + 6 ≤ R.slots)
    (kk : ∀ (H1 : Heap) (ce : Cell), H1.size = H.size + 1 → (∀ q : Nat, q < H.size → H1[q]? = H[q]?) → H1[H.size]? = some ce → ce.cls = cX9 → ce.vm = .none → W p l e R s m args below meth c H1 locs (cells + 1) (slots + 6) Q (F0 m (pc + 9) ls (.ref H.size :: rest))) :
    W p l e R s m args below meth c H locs cells slots Q (F0 m pc ls rest) := by
  intro T hT X
  subst hT
  have htr : e.platform.stackTraces = false := (show e.platform.stackTraces = l.stackTraces by rw [X.admits.platform]).trans hl
  have Y := vx_rebase X (R' := { frames := R.frames, locals := R.locals, cells := 1, slots := 6 }) (Nat.le_refl _) (Nat.le_refl _) hRcells hRslots
  obtain ⟨s', hA'⟩ : ∃ z, z = (T.setVm s.vm).setFrames (.invoking m args :: below) := ⟨_, rfl⟩
  rw [← hA'] at Y
  have hvm : s'.vm = s.vm := by rw [hA']; rfl
  have hhp : s'.heap = T.heap := by rw [hA']; rfl
  have hW0 : s.WarmedH s'.vm := by rw [hvm]; exact State.WarmedH.refl s
  have hat' : ∀ w ∈ vx_atS own ic cls names, w.before args s' = true := fun w hw => vx_ot_at hW0 hvm.symm (hgood w (List.mem_cons_of_mem _ (List.mem_cons_of_mem _ hw))) (hat w hw)
  have hk' : (Cond.classLink own ik cls).before args s' = true := vx_ot_at hW0 hvm.symm (hgood _ List.mem_cons_self) hk
  have hini' : (Cond.initialized cls).before args s' = true := vx_ot_at hW0 hvm.symm (hgood _ (List.mem_cons_of_mem _ List.mem_cons_self)) hini
  have hU' : vx_Zq Bundle.tN "UNASSIGNED_STACK" Bundle.steD A s' s'.heap := by rw [hhp]; exact vx_Zq.moved hW0.alike (hU.kept hS)
  have hN' : vx_Zq Bundle.tN "SUPPRESSED_SENTINEL" Bundle.listD A s' s'.heap := by rw [hhp]; exact vx_Zq.moved hW0.alike (hN.kept hS)
  have h : ∀ w ∈ Bundle.ownAtoms own ic cls names, w.before args s' = true := vx_own hat' (vx_isRefq hU'.1) (vx_isRefq hN'.1) hU'.2.word hN'.2.word
  have hown' : s'.vm.findClass own = some m.cls := by rw [hvm]; exact hown
  have hins : (Cond.instantiable cls 6).before args s' = true := h _ (by simp [Bundle.ownAtoms])
  obtain ⟨vm₁, cX, kX, hfX, hkX, -, -, X₁, st1⟩ := Y.newCold hexec (own := own) (C := cls) (index := ik) (n := 6) hown' hk' hins hini'
    (g := F0 m pc ls rest) rfl (by rw [hb]; exact d0) (Nat.le_refl _) (Nat.le_refl _)
  generalize hT1 : (T.setVm vm₁).pushCell { cls := cX, slots := kX.instanceTypes.map defaultValue, vm := .none } = T1 at X₁ st1
  have hcat : (Value.ref T.heap.size).category = 1 := rfl
  have hcellA : T1.heap[T.heap.size]? = some (freshCell cX kX) := by rw [← hT1]; exact State.heap_pushCell_size _ _
  have d3' : decode c.code (pc + 3) = .ok (.dup, 1) := by rw [hb]; exact d3
  have d4' : decode c.code (pc + 4) = .ok (.ldc is, 2) := by rw [hb]; exact d4
  have hstr' : vk_R own is text sa s' := vk_R.warm hW0 hstr
  obtain ⟨V, ce, L, Z, hL, hlt, hcl9, hvm9, st⟩ := vx_ctorMadeS X₁ hexec htr (own := own) (cls := cls) (names := names) (ic := ic) hown' hcls hnames h (fun x hx => nomatch hx) hfX hkX hcellA (by rw [hhp]; exact Nat.le_refl _) (msg := .ref sa) rfl
    (g := { method := m, pc := pc + 6, locals := ls, stack := .ref sa :: .ref T.heap.size :: .ref T.heap.size :: rest, locked := none }) rfl hsize (rest := rest) rfl
    (by rw [hb]; exact d6) hRframes (by simp only [List.map_cons, List.sum_cons, hcat]; omega)
  have Z0 := Stand.forget (locs := []) Z (fun y hy => by rw [hL y hy, hhp]; exact Nat.le_refl _)
  obtain ⟨f1, f2⟩ := vx_frame Z0.same
  rw [hhp] at f1 f2
  have hcid : ce.cls = cX9 := by
    rw [hcl9]
    rw [hvm] at hfX
    exact Option.some.inj (hfX.symm.trans hcX9)
  have hh : (V.setCell T.heap.size ce).heap[T.heap.size]? = some ce := heapAt_setCell_self (s := V) ce hlt
  subst hA'
  have X5 := vx_back9 X Y Z0
  have X6 : Stand p l e R s m args below meth c (V.setCell T.heap.size ce) locs (cells + 1) (slots + 6) := { X5 with same := X5.same.mono (by omega) (by omega) }
  have f3 : (V.setCell T.heap.size ce).heap.size = T.heap.size + 1 := by
    have g1 := Z0.same.2.2.1
    have g2 := (Array.getElem?_eq_some_iff.mp hh).1
    have g3 : (V.setCell T.heap.size ce).heap.size ≤ T.heap.size + 1 := g1
    omega
  obtain ⟨t, a1, b1⟩ := kk (V.setCell T.heap.size ce).heap ce f3 (fun q hq => f2 q hq (fun z hz => nomatch hz)) hh hcid hvm9 _ rfl X6
  refine ⟨t, st1 _ ?_, b1⟩
  show Steps p.tables e below (T1.setTop { method := m, pc := pc + 3, locals := ls, stack := .ref T.heap.size :: rest, locked := none }) _
  jvm_step X₁.here [X₁.here.top, hexec, d3', Value.category]
  exact X₁.ldcString hexec (own := own) (text := text) (index := is) (a := sa) hown' hstr'.1 hstr'.2
    (g := { method := m, pc := pc + 4, locals := ls, stack := .ref T.heap.size :: .ref T.heap.size :: rest, locked := none }) rfl d4' _ (st _ a1)
end
theorem dXA_at {q : dMI} {s : State} {args : Array Value} (hts : ∀ w ∈ dTs q, w.before args s = true) (hB : ∀ w ∈ dXB, va_Nw w s) : ∀ w ∈ dXA, w.before args s = true := by
  intro w hw
  cases hg : goodWord w
  · have hb : w ∈ dXB := List.mem_filter.mpr ⟨hw, by show (!goodWord w) = true; rw [hg]; rfl⟩
    exact va_Nw.use (dXt_tab (dXB_t hb)) (hB w hb)
  · exact hts w (List.mem_cons_of_mem _ (dTB_xw (List.mem_filter.mpr ⟨hw, hg⟩)))
theorem dXA_good {w : Cond} (hw : w ∈ dXA) : vx_ot w = true := by
  have h := List.all_eq_true.mp dXA_ot w hw
  rcases (Bool.or_eq_true _ _).mp h with h | h
  · exact h
  · unfold vx_ot
    rw [dXt_tab h]; rfl
theorem dXA_mem {o ik is w ic : Nat} (h : (o, ik, is, w, ic) ∈ dXN) : ∀ x ∈ Cond.classLink (cR o) ik xE :: Cond.initialized xE :: vx_atS (cR o) ic xE xU, x ∈ dXA := by
  intro x hx
  exact List.mem_append.mpr (Or.inr (List.mem_flatMap.mpr ⟨_, h, hx⟩))
section DXM
variable {l : Launch} {D : dD} {b : Nat → Nat} {q : dMI} {d pc : Nat} {L : dL} {st : List dV} {h h1 : dH} {r : Option dV} {h' : dH}
theorem ds_xnew (hfl : l.stackTraces = false) {ik is w ic : Nat} (hn : h.1 < 1073741824) (hxn : (q.1, ik, is, w, ic) ∈ dXN) (hsr : (q.1, is, w) ∈ dSR) (d0 : decode q.2.2.1 pc = .ok (.new ik, 3)) (d3 : decode q.2.2.1 (pc + 3) = .ok (.dup, 1)) (d4 : decode q.2.2.1 (pc + 4) = .ok (.ldc is, 2)) (d6 : decode q.2.2.1 (pc + 6) = .ok (.invokespecial ic, 3)) (hd : 10 ≤ d) (hc : dcat st ≤ 8)
    (z1 : h1.1 = h.1 + 1) (z2 : h1.2.1 = h.2.1 + 6) (hw1 : hwf h1) (eh : ∀ j, hat h1 j = if j = h.1 then some (18, 6, 0) else hat h j) (y1 : h1.1 ≤ h'.1) (y2 : h1.2.1 ≤ h'.2.1) (G : dWp l D b q d (pc + 9) L (.inr (.inr (Nat.succ h.1)) :: st) h1 r h') : dWp l D b q d pc L st h r h' := by
  intro p e R s m args below meth c H locs cells slots mc ms ls C hR hS hl hm e1 e2
  have hts := C.2.2.2.2.1
  have hK := C.2.2.2.2.2.2.2.2.1
  have hE := hK.2.2.2.2.2
  have hat := dXA_at hts hE.2.1
  have hmem := dXA_mem hxn
  have m1 := hm.1
  have m2 := hm.2.1
  have m3 := hm.2.2.1
  have m4 := hm.2.2.2
  have w1 : (Cond.classLink (cR q.1) ik xE).before args s = true := hat _ (hmem _ List.mem_cons_self)
  have w2 : (Cond.initialized xE).before args s = true := hat _ (hmem _ (List.mem_cons_of_mem _ List.mem_cons_self))
  have w3 : vk_R (cR q.1) is (dTn.getD w "") (b (dT0 + w)) s := hK.2.2.2.1 (q.1, is, w) hsr
  have w4 : ∀ x ∈ vx_atS (cR q.1) ic xE xU, x.before args s = true := fun x hx => hat x (hmem x (List.mem_cons_of_mem _ (List.mem_cons_of_mem _ hx)))
  have w5 : ∀ x ∈ Cond.classLink (cR q.1) ik xE :: Cond.initialized xE :: vx_atS (cR q.1) ic xE xU, vx_ot x = true := fun x hx => dXA_good (hmem x hx)
  have w6 : Bundle.fit xE = true := by decide +kernel
  have w7 : ∀ n ∈ xU, Bundle.fit n = true := by decide +kernel
  have w8 : xU.length + 3 < R.frames := by
    have : xU.length = 2 := rfl
    omega
  have w9 : ((st.map (dv b)).map fun v => v.category).sum + (13 * (xU.length + 1) + 43) ≤ R.locals := by
    have : xU.length = 2 := rfl
    rw [dcat_eq]
    omega
  refine dx_make (own := cR q.1) (cls := xE) (names := xU) (text := dTn.getD w "") (ik := ik) (is := is) (ic := ic) (sa := b (dT0 + w)) (A := fun q => b 0 ≤ q) (cX9 := D.2 4) C.1 C.2.1 hfl C.2.2.2.1 w6 w7 w1 w2 w3 w4 w5 hE.2.2.1 hE.2.2.2 (fun a _ ha => hS.2.1 a (Nat.not_le.mp ha)) (hl.1.trans C.2.2.1.symm) d0 d3 d4 d6 hE.1 w8 w9 (by omega) (by omega) ?_
  intro H1 ce x2 x3 x1 xc xv
  have hz : Value.ref H.size = dv b (.inr (.inr (Nat.succ h.1))) := by
    rw [dv_s, hR.at (Nat.le_refl _), hR.1.1]
  rw [hz]
  exact G p e R s m args below meth c H1 locs (cells + 1) (slots + 6) mc ms ls C (hR.push hn x2 x3 (Or.inr (Or.inr ⟨rfl, ce, x1, xc, xv⟩)) z1 hw1 eh) (hS.push hR.1.1 x3) hl hm (by omega) (by omega)
end DXM

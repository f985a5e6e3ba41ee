section
/-! ===== BEGIN words of one list among another's, by their places ===== -/
theorem goodIn_r {big : List Cond} (ws : List Cond) (ps : List Nat) (hp : ws = ps.filterMap (fun i => big[i]?)) (h : ws.all goodWord = true) : GoodIn big ws := by
  intro w hw
  have h1 := List.all_eq_true.mp h w hw
  rw [hp] at hw
  obtain ⟨i, -, hi⟩ := List.mem_filterMap.mp hw
  have hm : w ∈ big := by first | exact List.mem_of_getElem? hi | exact List.getElem?_mem hi
  exact ⟨hm, good_of_word h1⟩
theorem goodIn_app {big a b : List Cond} (ha : GoodIn big a) (hb : GoodIn big b) : GoodIn big (a ++ b) := fun w h => (List.mem_append.mp h).elim (ha w) (hb w)
theorem goodIn_ca {big a b : List Cond} {c : Cond} (ha : GoodIn big (c :: a)) (hb : GoodIn big b) : GoodIn big (c :: (a ++ b)) := fun w h => (List.mem_cons.mp h).elim (fun e => ha w (List.mem_cons.mpr (Or.inl e))) (fun h => (List.mem_append.mp h).elim (fun h => ha w (List.mem_cons.mpr (Or.inr h))) (hb w))
theorem goodIn_sub {big ws : List Cond} (hm : ∀ w ∈ ws, w ∈ big) (h : ws.all goodWord = true) : GoodIn big ws := fun w hw => ⟨hm w hw, good_of_word (List.all_eq_true.mp h w hw)⟩
/-! ===== END ===== -/
/-! ===== BEGIN exceptions that leave a method, and their catching by the caller (launches without stack traces) ===== -/
section VXA
/-! The laws vx_back, vx_callV, vx_callS, vx_callSW, vx_throw0, vx_throwS follow proofs of the library, with one case more: JvmDerived/Free/Laws.lean (Back.of_free), Shelf42/LK1.lean (callV, callS), Shelf/KitTraced.lean (throwNew0V, throwNewS). -/
/-- where a method has thrown q: the class by its name, the cell, what was written, the world -/
def vx_T (XC : String → State → State → Prop) (st : State) (q : Addr) (t : State) (mc ms : Nat) (free : Addr → Prop) : Prop :=
  ∃ (E : String) (ce : Cell) (L : List Loc), XC E st t ∧ t.heap[q]? = some ce ∧ ce.vm = .none ∧ st.vm.findClass E = some ce.cls ∧ st.WarmedH t.vm ∧ st.sameButNew ({ t with vm := st.vm } : State) L mc ms ∧ ∀ z ∈ L, free z.base
def vx_Q (Qc : Array Value → State → Outcome → State → Prop) (XC : String → State → State → Prop) (mc ms : Nat) (free : Addr → Prop) : Array Value → State → Outcome → State → Prop := fun a st o t =>
  (Qc a st o t ∧ ∃ L, FrameEnd st o t L mc ms ∧ ∀ q ∈ L, free q.base) ∨ ∃ q, o = .threw q ∧ vx_T XC st q t mc ms free
/-- a callee that returns or throws -/
def vx_Met (l : Launch) (y : MethodName) (ws : List Cond) (rm : Room) (Pc : Array Value → State → Prop) (Qc : Array Value → State → Outcome → State → Prop) (XC : String → State → State → Prop) (mc ms : Nat) (free : Addr → Prop) : Prop :=
  MetFree l y (headSpec ws rm) Pc (fun _ _ _ _ _ => True) (vx_Q Qc XC mc ms free)
def vx_Post (XC : String → State → State → Prop) (mc ms : Nat) (free : Addr → Prop) : Pt → Array Value → Addr → Pt → Prop := fun A a q B =>
  ∃ (g : JFrame) (mk : MethodId) (t : State) (L : List Loc) (E : String) (ce : Cell), B.U.heap = t.heap ∧ B.U.vm = t.vm ∧ XC E (A.U.calling g mk a) t ∧ t.heap[q]? = some ce ∧ ce.vm = .none ∧ A.U.vm.findClass E = some ce.cls ∧ B.locs = A.locs ++ L ∧ (∀ z ∈ L, free z.base) ∧ B.cells = A.cells + mc ∧ B.slots = A.slots + ms
def vx_Back (l : Launch) (R : Room) (p : Program) (e : Env) (below : List Frame) (s : State) (sargs : Array Value) (y : MethodName) (len W9 : Nat)
    (Pre : Pt → Array Value → Prop) (Post : Pt → Array Value → Option Value → Pt → Prop) (PostX : Pt → Array Value → Addr → Pt → Prop) : Prop :=
  ∀ (m : MethodId) (meth : Method) (c : Code) (A : Pt) (g : JFrame) (ig : Instr) (mk : MethodId) (a : Array Value),
    Stand p l e R s m sargs below meth c A.U A.locs A.cells A.slots → g.method = m → g.locals.size = c.maxLocals → decode c.code g.pc = .ok (ig, len) →
    2 * g.monitorRoom + (g.stack.map fun v => v.category).sum ≤ W9 → A.U.methodNamed? y = some mk → Pre A a →
    (∃ (v : Option Value) (B : Pt), Stand p l e R s m sargs below meth c B.U B.locs B.cells B.slots ∧ Post A a v B ∧
      Steps p.tables e below (doInvoke e (A.U.setTop g) [] mk a).1 (B.U.setTop { g with pc := g.pc + len, stack := v.toList ++ g.stack })) ∨
    (∃ (q : Addr) (B : Pt), Stand p l e R s m sargs below meth c B.U B.locs B.cells B.slots ∧ PostX A a q B ∧
      Steps p.tables e below (doInvoke e (A.U.setTop g) [] mk a).1 ((B.U.setTop g).pushFrame (.throwing q)))
section Payer
variable {l : Launch} {R : Room} {p : Program} {e : Env} {below : List Frame} {s : State} {sargs : Array Value} {y : MethodName} {len W9 : Nat}
theorem vx_back {ws : List Cond} {rm : Room} {Pc : Array Value → State → Prop} {Qc : Array Value → State → Outcome → State → Prop} {XC : String → State → State → Prop} {mc ms : Nat} {free : Addr → Prop} {bytes : ByteArray} {maxL : Nat} {ret : Option FieldType}
    (hM : vx_Met l y ws rm Pc Qc XC mc ms free) (hblind : FrameBlind Pc) (hrc : rm.cells = mc) (hrs : rm.slots = ms)
    (hframes : rm.frames + 1 ≤ R.frames) (hlocals : W9 + (maxL + 11) + rm.locals ≤ R.locals)
    (hws : ∀ w ∈ ws, ∀ a' U, s.WarmedH U.vm → w.before a' U = true) (hcode : Cond.code y bytes maxL ret ∈ ws) (hinit : ∀ a' U, s.WarmedH U.vm → (Cond.initialized y.cls).before a' U = true) :
    vx_Back l R p e below s sargs y len W9 (PreOf R mc ms Pc) (PostOf Qc mc ms free) (vx_Post XC mc ms free) := by
  intro m meth c A g ig mk a X hg hsize hdg hW hn hp
  have h1 : (headSpec ws rm).pre.before a A.U = true := atoms_intro fun w hw => hws w hw _ _ X.warmed
  have h2 : (Cond.code y bytes maxL ret).before a A.U = true := hws _ hcode _ _ X.warmed
  have h3 : (Cond.initialized y.cls).before a A.U = true := hinit _ _ X.warmed
  have h4 : A.cells + (headSpec ws rm).room.cells ≤ R.cells := by rw [show (headSpec ws rm).room.cells = mc from hrc]; exact hp.1
  have h5 : A.slots + (headSpec ws rm).room.slots ≤ R.slots := by rw [show (headSpec ws rm).room.slots = ms from hrs]; exact hp.2.1
  have hPc : Pc a (A.U.calling g mk a) := hblind _ _ _ _ hp.2.2
  obtain ⟨U, Ls, c0, s0⟩ := A
  dsimp only [Pt.U, Pt.locs, Pt.cells, Pt.slots] at h1 h2 h3 h4 h5 X hn hPc ⊢
  obtain ⟨methY, cY, hmY, hcY, -, hlY, -, -, -, -⟩ := Cond.code_spec hn h2
  obtain ⟨kY, hkY, -⟩ := className_of_methodNamed hn
  have hinitY : kY.init = .initialized := Cond.initialized_spec (findClass_of_methodNamed hn) hkY h3
  have h : At U g.method c below := by rw [hg]; exact X.here
  have hlocals9 : W9 + (maxL + 11) + (headSpec ws rm).room.locals ≤ R.locals := hlocals
  have happ : (headSpec ws rm).appliesLoose y e.platform (U.calling g mk a) = true :=
    Spec.appliesLoose_calling (g := g) h hdg hn hkY hinitY
      (X.room_calling (g := g) (R' := (headSpec ws rm).room) hsize hmY hcY hframes (by rw [hlY]; omega) h4 h5) h1
  obtain ⟨mid, hmid⟩ := h.above
  have hfr : (U.setTop g).frames = (.java g :: mid) ++ below := by rw [State.frames_setTop' g h.top, hmid]; rfl
  obtain ⟨o, s₂, hsteps, -, hend, hq⟩ := Steps.callFree hM p X.admits X.cas X.clock (acts := []) hfr happ hPc trivial
  have hq' : vx_Q Qc XC mc ms free a (U.calling g mk a) o s₂ := hq
  rw [State.frames_setTop' g h.top] at hend
  obtain ⟨g₀, hg0⟩ := Option.isSome_iff_exists.mp h.top
  obtain ⟨r, hr⟩ := State.topJava?_eq_some.mp hg0
  have hr' : (({ U with heap := s₂.heap, slotsUsed := s₂.slotsUsed } : State).setVm s₂.vm).frames = .java g₀ :: r := hr
  rcases hq' with ⟨hqc, L, hfe, hL⟩ | ⟨q, rfl, E, ce, L, hx, hce, hcv, hcl, hW₂, hsm, hL⟩
  · obtain ⟨⟨v, rfl⟩, hW₂, e2, q2, q3, q4, q5, q6⟩ := id hfe
    have e3 : s₂ = ({ (U.calling g mk a).setFrames s₂.frames with heap := s₂.heap, slotsUsed := s₂.slotsUsed } : State).setVm s₂.vm := by
      have : s₂ = ({ s₂ with vm := (U.calling g mk a).vm } : State).setVm s₂.vm := rfl
      rw [e2] at this
      exact this
    obtain ⟨c₂, i₂, len₂, hc₂, hd₂, hf₂⟩ := hend
    have hW' : U.WarmedH s₂.vm := hW₂
    have hcc : c₂ = c := by
      have h1 : s₂.code? g.method = U.code? g.method := by
        rw [State.code?_eq, State.code?_eq, hW'.alike.method?]
      exact Option.some.inj (hc₂.symm.trans (h1.trans h.code))
    subst hcc
    have hlen : len₂ = len := by rw [hdg] at hd₂; cases hd₂; rfl
    subst hlen
    have hs₂ : s₂ = (({ U with heap := s₂.heap, slotsUsed := s₂.slotsUsed } : State).setVm s₂.vm).setTop { g with pc := g.pc + len₂, stack := v.toList ++ g.stack } := by
      refine e3.trans ?_
      rw [hf₂, State.calling_eq h.top, State.setFrames_setFrames, State.setTop_of_frames _ hr', hr]
      rfl
    have hsame : U.sameButNew ({ U with heap := s₂.heap, slotsUsed := s₂.slotsUsed } : State) L mc ms := by
      refine ⟨?_, q2, q3, q4, q5, q6⟩
      obtain ⟨t, ht, -⟩ := State.frames_cons hr
      show ({ U with heap := s₂.heap, slotsUsed := s₂.slotsUsed } : State) = { U.setFrames U.frames with heap := s₂.heap, slotsUsed := s₂.slotsUsed }
      rw [State.setFrames_self ht]
    subst hg
    refine Or.inl ⟨v, ⟨(({ U with heap := s₂.heap, slotsUsed := s₂.slotsUsed } : State).setVm s₂.vm), Ls ++ L, c0 + mc, s0 + ms⟩,
      ⟨X.admits, X.cas, X.clock, X.frames, X.room, X.hears, X.method, X.code, (X.here.setHeapUsed s₂.heap s₂.slotsUsed).setVm hW'.alike, X.tail, State.WarmedH.trans X.warmed hW', X.limits, X.bytes, X.same.trans (hsame.setVm s.vm)⟩,
      ⟨g, mk, s₂, L, rfl, rfl, hqc, rfl, hL, rfl, rfl⟩, ?_⟩
    show Steps p.tables e below _ ((({ U with heap := s₂.heap, slotsUsed := s₂.slotsUsed } : State).setVm s₂.vm).setTop { g with pc := g.pc + len₂, stack := v.toList ++ g.stack })
    rw [← hs₂]
    exact hsteps
  · obtain ⟨e2, q2, q3, q4, q5, q6⟩ := id hsm
    have e3 : s₂ = ({ (U.calling g mk a).setFrames s₂.frames with heap := s₂.heap, slotsUsed := s₂.slotsUsed } : State).setVm s₂.vm := by
      have : s₂ = ({ s₂ with vm := (U.calling g mk a).vm } : State).setVm s₂.vm := rfl
      rw [e2] at this
      exact this
    have hf₂ : s₂.frames = .throwing q :: .java g :: U.frames.tail := hend
    have hW' : U.WarmedH s₂.vm := hW₂
    have hs₂ : s₂ = ((({ U with heap := s₂.heap, slotsUsed := s₂.slotsUsed } : State).setVm s₂.vm).setTop g).pushFrame (.throwing q) := by
      refine e3.trans ?_
      rw [hf₂, State.calling_eq h.top, State.setFrames_setFrames, State.pushFrame, State.frames_setTop _ hr', State.setTop_of_frames _ hr', State.setFrames_setFrames, hr]
      rfl
    have hsame : U.sameButNew ({ U with heap := s₂.heap, slotsUsed := s₂.slotsUsed } : State) L mc ms := by
      refine ⟨?_, q2, q3, q4, q5, q6⟩
      obtain ⟨t, ht, -⟩ := State.frames_cons hr
      show ({ U with heap := s₂.heap, slotsUsed := s₂.slotsUsed } : State) = { U.setFrames U.frames with heap := s₂.heap, slotsUsed := s₂.slotsUsed }
      rw [State.setFrames_self ht]
    subst hg
    refine Or.inr ⟨q, ⟨(({ U with heap := s₂.heap, slotsUsed := s₂.slotsUsed } : State).setVm s₂.vm), Ls ++ L, c0 + mc, s0 + ms⟩,
      ⟨X.admits, X.cas, X.clock, X.frames, X.room, X.hears, X.method, X.code, (X.here.setHeapUsed s₂.heap s₂.slotsUsed).setVm hW'.alike, X.tail, State.WarmedH.trans X.warmed hW', X.limits, X.bytes, X.same.trans (hsame.setVm s.vm)⟩,
      ⟨g, mk, s₂, L, E, ce, rfl, rfl, hx, hce, hcv, hcl, rfl, hL, rfl, rfl⟩, ?_⟩
    show Steps p.tables e below _ (((({ U with heap := s₂.heap, slotsUsed := s₂.slotsUsed } : State).setVm s₂.vm).setTop g).pushFrame (.throwing q))
    rw [← hs₂]
    exact hsteps
end Payer
section Calls
variable {p : Program} {l : Launch} {e : Env} {R : Room} {s : State} {m : MethodId} {args : Array Value} {below : List Frame} {meth : Method} {c : Code} {T : State} {locs : List Loc} {cells slots : Nat}
theorem vx_callV (X : Stand p l e R s m args below meth c T locs cells slots) (hexec : p.tables.exec = Jvm.exec) {own C : String} {index : Nat} {y : MethodName} {bytes : ByteArray} {maxL : Nat} {ret : Option FieldType}
    (hown : s.vm.findClass own = some m.cls) (hlink : (Cond.methodLink own index y).before args s = true) (hinst : (Cond.instanceMethod y).before args s = true) (hsel : (Cond.selects C y y).before args s = true)
    (hcode : (Cond.code y bytes maxL ret).before args s = true) (hy : y.cls ≠ "java/lang/invoke/MethodHandle" ∧ y.cls ≠ "java/lang/invoke/VarHandle")
    {W9 : Nat} {Pre : Pt → Array Value → Prop} {Post : Pt → Array Value → Option Value → Pt → Prop} {PostX : Pt → Array Value → Addr → Pt → Prop} (hK : vx_Back l R p e below s args y 3 W9 Pre Post PostX)
    {b : Addr} {cellB : Cell} (hcell : T.heap[b]? = some cellB) (hobj : cellB.vm.isStatics = false) (hcls : s.vm.findClass C = some cellB.cls)
    {g : JFrame} (hg : g.method = m) (hsize : g.locals.size = c.maxLocals) {argsL rest : List Value} (hlen : ∀ sig, parseMethodDescriptor y.desc = some sig → argsL.length = sig.parameters.length)
    (hstack : g.stack = argsL.reverse ++ .ref b :: rest) (hW : 2 * g.monitorRoom + (rest.map fun v => v.category).sum ≤ W9) (hdg : decode c.code g.pc = .ok (.invokevirtual index, 3))
    (hpre : ∀ vm₁, s.WarmedH vm₁ → Pre ⟨T.setVm vm₁, locs, cells, slots⟩ (Value.ref b :: argsL).toArray) :
    (∃ (v : Option Value) (vm₁ : Vm) (B : Pt), s.WarmedH vm₁ ∧ Stand p l e R s m args below meth c B.U B.locs B.cells B.slots ∧ Post ⟨T.setVm vm₁, locs, cells, slots⟩ (Value.ref b :: argsL).toArray v B ∧
      ∀ target, Steps p.tables e below (B.U.setTop { g with pc := g.pc + 3, stack := v.toList ++ rest }) target → Steps p.tables e below (T.setTop g) target) ∨
    (∃ (q : Addr) (vm₁ : Vm) (B : Pt), s.WarmedH vm₁ ∧ Stand p l e R s m args below meth c B.U B.locs B.cells B.slots ∧ PostX ⟨T.setVm vm₁, locs, cells, slots⟩ (Value.ref b :: argsL).toArray q B ∧
      Steps p.tables e below (T.setTop g) ((B.U.setTop { g with stack := rest }).pushFrame (.throwing q))) := by
  obtain ⟨mk, methM, hnamed, hmethM, hstM, habM⟩ := Cond.instanceMethod_spec hinst
  obtain ⟨methM', cM, hmethM', -, -, -, -, -, -, hsigM⟩ := Cond.code_spec hnamed hcode
  cases hmethM.symm.trans hmethM'
  obtain ⟨c2, r2, m2, q1, q2, q3, q4, kP, hkP, hkPi⟩ := Cond.selects_spec hsel
  cases hcls.symm.trans q1
  cases (State.methodFound?_of_named hnamed hy).symm.trans q2
  cases hnamed.symm.trans q3
  have hselP : selectMethod e.platform s.vm cellB.cls mk = .method mk := by rw [Launch.admits_selectMethod X.admits]; exact q4
  obtain ⟨vm₁, X₁, hstep₁⟩ := X.invokevirtual hexec hown hlink hnamed hmethM hstM hkP hkPi hy (a := b) (cell := cellB) hcell
    (fun z h => by rw [h] at hobj; cases hobj) hselP hmethM habM hkP hkPi (g := g) hg (argsL := argsL) (rest := rest) (hlen _ hsigM) hstack hdg
  rcases hK m meth c ⟨T.setVm vm₁, locs, cells, slots⟩ { g with stack := rest } (.invokevirtual index) mk (Value.ref b :: argsL).toArray X₁ hg hsize hdg hW (X₁.named hnamed) (hpre vm₁ X₁.warmed) with ⟨v, B, X', hpost, hsteps⟩ | ⟨q, B, X', hpost, hsteps⟩
  · exact Or.inl ⟨v, vm₁, B, X₁.warmed, X', hpost, fun target h => hstep₁ _ fun acts => by rw [doInvoke_state]; exact hsteps.trans h⟩
  · exact Or.inr ⟨q, vm₁, B, X₁.warmed, X', hpost, hstep₁ _ fun acts => by rw [doInvoke_state]; exact hsteps⟩
theorem vx_callS (X : Stand p l e R s m args below meth c T locs cells slots) (hexec : p.tables.exec = Jvm.exec) {own : String} {index : Nat} {y : MethodName} {bytes : ByteArray} {maxL : Nat} {ret : Option FieldType}
    (hown : s.vm.findClass own = some m.cls) (hlink : (Cond.methodLink own index y).before args s = true) (hstat : (Cond.static y).before args s = true) (hinit : (Cond.initialized y.cls).before args s = true)
    (hcode : (Cond.code y bytes maxL ret).before args s = true) (hy : y.cls ≠ "java/lang/invoke/MethodHandle" ∧ y.cls ≠ "java/lang/invoke/VarHandle")
    {W9 : Nat} {Pre : Pt → Array Value → Prop} {Post : Pt → Array Value → Option Value → Pt → Prop} {PostX : Pt → Array Value → Addr → Pt → Prop} (hK : vx_Back l R p e below s args y 3 W9 Pre Post PostX)
    {g : JFrame} (hg : g.method = m) (hsize : g.locals.size = c.maxLocals) {argsL rest : List Value} (hlen : ∀ sig, parseMethodDescriptor y.desc = some sig → argsL.length = sig.parameters.length)
    (hstack : g.stack = argsL.reverse ++ rest) (hW : 2 * g.monitorRoom + (rest.map fun v => v.category).sum ≤ W9) (hdg : decode c.code g.pc = .ok (.invokestatic index, 3))
    (hpre : ∀ vm₁, s.WarmedH vm₁ → Pre ⟨T.setVm vm₁, locs, cells, slots⟩ argsL.toArray) :
    (∃ (v : Option Value) (vm₁ : Vm) (B : Pt), s.WarmedH vm₁ ∧ Stand p l e R s m args below meth c B.U B.locs B.cells B.slots ∧ Post ⟨T.setVm vm₁, locs, cells, slots⟩ argsL.toArray v B ∧
      ∀ target, Steps p.tables e below (B.U.setTop { g with pc := g.pc + 3, stack := v.toList ++ rest }) target → Steps p.tables e below (T.setTop g) target) ∨
    (∃ (q : Addr) (vm₁ : Vm) (B : Pt), s.WarmedH vm₁ ∧ Stand p l e R s m args below meth c B.U B.locs B.cells B.slots ∧ PostX ⟨T.setVm vm₁, locs, cells, slots⟩ argsL.toArray q B ∧
      Steps p.tables e below (T.setTop g) ((B.U.setTop { g with stack := rest }).pushFrame (.throwing q))) := by
  obtain ⟨mk, hnamed⟩ := Cond.code_named hcode
  obtain ⟨methM, cM, hmethM, -, -, -, -, -, -, hsigM⟩ := Cond.code_spec hnamed hcode
  have hstatic : methM.isStatic = true := Cond.static_spec hnamed hmethM hstat
  obtain ⟨kP, hkP, -⟩ := className_of_methodNamed hnamed
  have hinitP : kP.init = .initialized := Cond.initialized_spec (findClass_of_methodNamed hnamed) hkP hinit
  obtain ⟨vm₁, X₁, hstep₁⟩ := X.invokestatic hexec hown hlink hnamed hmethM hstatic hkP hinitP hy (g := g) hg (argsL := argsL) (rest := rest) (hlen _ hsigM) hstack hdg
  rcases hK m meth c ⟨T.setVm vm₁, locs, cells, slots⟩ { g with stack := rest } (.invokestatic index) mk argsL.toArray X₁ hg hsize hdg hW (X₁.named hnamed) (hpre vm₁ X₁.warmed) with ⟨v, B, X', hpost, hsteps⟩ | ⟨q, B, X', hpost, hsteps⟩
  · exact Or.inl ⟨v, vm₁, B, X₁.warmed, X', hpost, fun target h => hstep₁ _ fun acts => by rw [doInvoke_state]; exact hsteps.trans h⟩
  · exact Or.inr ⟨q, vm₁, B, X₁.warmed, X', hpost, hstep₁ _ fun acts => by rw [doInvoke_state]; exact hsteps⟩
end Calls
theorem vx_cls {s : State} {T : State} {vm₁ : Vm} {E : String} {k : ClassId} (hW : s.WarmedH vm₁) (h : (T.setVm vm₁).vm.findClass E = some k) : s.vm.findClass E = some k := by
  have h1 : vm₁.findClass E = some k := h
  rw [hW.alike.findClass] at h1
  exact h1
/-- the method's frame g, with q thrown over it -/
def vx_W (p : Program) (l : Launch) (e : Env) (R : Room) (s : State) (m : MethodId) (args : Array Value) (below : List Frame) (meth : Method) (c : Code) (H : Heap) (locs : List Loc) (cells slots : Nat) (Q : State → Prop) (g : JFrame) (q : Addr) : Prop :=
  ∀ T : State, T.heap = H → Stand p l e R s m args below meth c T locs cells slots → ∃ t, Steps p.tables e below ((T.setTop g).pushFrame (.throwing q)) t ∧ Q t
def vx_Run (p : Program) (l : Launch) (e : Env) (R : Room) (s : State) (m : MethodId) (args : Array Value) (below : List Frame) (meth : Method) (c : Code) (H : Heap) (locs : List Loc) (cells slots mc ms : Nat) (g : JFrame) (rest : List Value) (Qa : State → Outcome → State → Prop) (XC : String → State → State → Prop) (free : Addr → Prop) : Prop :=
  ∀ T : State, T.heap = H → Stand p l e R s m args below meth c T locs cells slots →
    (∃ (v : Option Value) (st₀ t T' : State) (L : List Loc), st₀.heap = H ∧ Stand p l e R s m args below meth c T' (locs ++ L) (cells + mc) (slots + ms) ∧ (∀ q ∈ L, free q.base) ∧ T'.heap = t.heap ∧ T'.vm = t.vm ∧ Qa st₀ (.returned v) t ∧
      Goes p e below T g T' { g with pc := g.pc + 3, stack := v.toList ++ rest }) ∨
    (∃ (q : Addr) (st₀ t T' : State) (L : List Loc) (E : String) (ce : Cell), st₀.heap = H ∧ Stand p l e R s m args below meth c T' (locs ++ L) (cells + mc) (slots + ms) ∧ (∀ z ∈ L, free z.base) ∧ T'.heap = t.heap ∧ T'.vm = t.vm ∧ XC E st₀ t ∧ t.heap[q]? = some ce ∧ ce.vm = .none ∧ s.vm.findClass E = some ce.cls ∧
      Steps p.tables e below (T.setTop g) ((T'.setTop { g with stack := rest }).pushFrame (.throwing q)))
def vx_X {S : Type} (px : S → Prop) (B : String → S → State → Prop) (A : Nat → Prop) : String → State → State → Prop := fun E st t => ∃ u : S, px u ∧ B E u t ∧ va_F A st t
section Runs
variable {p : Program} {l : Launch} {e : Env} {R : Room} {s : State} {m : MethodId} {args : Array Value} {below : List Frame} {meth : Method} {c : Code} {H : Heap} {locs : List Loc} {cells slots : Nat}
variable {y : MethodName} {bytes cc : ByteArray} {maxL nL mc ms n index : Nat} {ret : Option FieldType} {ws : List Cond} {rm : Room} {Pc : Array Value → State → Prop} {Qc : Array Value → State → Outcome → State → Prop} {XC : String → State → State → Prop} {free : Addr → Prop} {Ts : List Cond} {own C : String} {b : Addr} {As rest : List Value} {g : JFrame}
theorem vx_callBack (cb : CallB R s args own index y bytes maxL ret ws rm mc ms n) (hM : vx_Met l y ws rm Pc Qc XC mc ms free) (hbl : FrameBlind Pc) : vx_Back l R p e below s args y 3 8 (PreOf R mc ms Pc) (PostOf Qc mc ms free) (vx_Post XC mc ms free) := by
  obtain ⟨hrc, hrs, hfr, hlo, hws, hcw, -, hini, -⟩ := cb
  exact vx_back (bytes := bytes) (maxL := maxL) (ret := ret) hM hbl hrc hrs hfr hlo hws hcw (fun a' U hW => word_at hW (Or.inl (by first | rfl | simp [Cond.onTables, Cond.keeps, Cond.steady])) hini)
theorem vx_runV (S : CallFix p m c cc nL s args Ts own) (hM : vx_Met l y ws rm Pc Qc XC mc ms free) (cw : CallW R s args own C index y bytes maxL ret ws rm mc ms n) (hp : PreV s H C b Pc As)
    (hg : g.method = m) (hn : As.length = n) (hsize : g.locals.size = nL) (hstack : g.stack = As.reverse ++ .ref b :: rest) (hW : 2 * g.monitorRoom + (rest.map fun v => v.category).sum ≤ 8) (hdg : decode cc g.pc = .ok (.invokevirtual index, 3)) (hf : cells + mc ≤ R.cells ∧ slots + ms ≤ R.slots) :
    vx_Run p l e R s m args below meth c H locs cells slots mc ms g rest (Qc (Value.ref b :: As).toArray) XC free := by
  have hK : vx_Back l R p e below s args y 3 8 (PreOf R mc ms Pc) (PostOf Qc mc ms free) (vx_Post XC mc ms free) := vx_callBack cw.1 hM hp.1
  obtain ⟨⟨-, -, -, -, -, -, hcode, -, hy, hlen, hl⟩, hin, hse⟩ := cw
  obtain ⟨hx, hb, hml, ho, -⟩ := S
  obtain ⟨-, ⟨cellB, hcB, hoB, hclB⟩, hPc⟩ := hp
  intro T hT X
  rcases vx_callV X hx (C := C) (bytes := bytes) (maxL := maxL) (ret := ret) ho hl hin hse hcode hy hK (by rw [hT]; exact hcB) hoB hclB hg (hsize.trans hml.symm) (argsL := As) (rest := rest) (fun sig h => hn.trans (hlen sig h)) hstack hW (by rw [hb]; exact hdg)
    (fun vm₁ hW₁ => ⟨hf.1, hf.2, hPc (T.setVm vm₁) hT hW₁⟩) with ⟨v, vm₁, ⟨U', l2, c2, s2⟩, hW₁, X', ⟨g', mk, t, L, e1, e2, hq, h1, hL, h2, h3⟩, st⟩ | ⟨q, vm₁, ⟨U', l2, c2, s2⟩, hW₁, X', ⟨g', mk, t, L, E, ce, e1, e2, hq, hce, hcv, hcl, h1, hL, h2, h3⟩, st⟩
  · dsimp only [Pt.U, Pt.locs, Pt.cells, Pt.slots] at X' e1 e2 h1 h2 h3 st
    subst h1; subst h2; subst h3
    exact Or.inl ⟨v, (T.setVm vm₁).calling g' mk (Value.ref b :: As).toArray, t, U', L, hT, X', hL, e1, e2, hq, st⟩
  · dsimp only [Pt.U, Pt.locs, Pt.cells, Pt.slots] at X' e1 e2 h1 h2 h3 st hcl
    subst h1; subst h2; subst h3
    exact Or.inr ⟨q, (T.setVm vm₁).calling g' mk (Value.ref b :: As).toArray, t, U', L, E, ce, hT, X', hL, e1, e2, hq, hce, hcv, vx_cls hW₁ hcl, st⟩
theorem vx_runS (S : CallFix p m c cc nL s args Ts own) (hM : vx_Met l y ws rm Pc Qc XC mc ms free) (cw : CallB R s args own index y bytes maxL ret ws rm mc ms n ∧ (Cond.static y).before args s = true) (hp : PreS s H Pc As)
    (hg : g.method = m) (hn : As.length = n) (hsize : g.locals.size = nL) (hstack : g.stack = As.reverse ++ rest) (hW : 2 * g.monitorRoom + (rest.map fun v => v.category).sum ≤ 8) (hdg : decode cc g.pc = .ok (.invokestatic index, 3)) (hf : cells + mc ≤ R.cells ∧ slots + ms ≤ R.slots) :
    vx_Run p l e R s m args below meth c H locs cells slots mc ms g rest (Qc As.toArray) XC free := by
  have hK : vx_Back l R p e below s args y 3 8 (PreOf R mc ms Pc) (PostOf Qc mc ms free) (vx_Post XC mc ms free) := vx_callBack cw.1 hM hp.1
  obtain ⟨⟨-, -, -, -, -, -, hcode, hini, hy, hlen, hl⟩, hstt⟩ := cw
  obtain ⟨hx, hb, hml, ho, -⟩ := S
  intro T hT X
  rcases vx_callS X hx (bytes := bytes) (maxL := maxL) (ret := ret) ho hl hstt hini hcode hy hK hg (hsize.trans hml.symm) (argsL := As) (rest := rest) (fun sig h => hn.trans (hlen sig h)) hstack hW (by rw [hb]; exact hdg)
    (fun vm₁ hW₁ => ⟨hf.1, hf.2, hp.2 (T.setVm vm₁) hT hW₁⟩) with ⟨v, vm₁, ⟨U', l2, c2, s2⟩, hW₁, X', ⟨g', mk, t, L, e1, e2, hq, h1, hL, h2, h3⟩, st⟩ | ⟨q, vm₁, ⟨U', l2, c2, s2⟩, hW₁, X', ⟨g', mk, t, L, E, ce, e1, e2, hq, hce, hcv, hcl, h1, hL, h2, h3⟩, st⟩
  · dsimp only [Pt.U, Pt.locs, Pt.cells, Pt.slots] at X' e1 e2 h1 h2 h3 st
    subst h1; subst h2; subst h3
    exact Or.inl ⟨v, (T.setVm vm₁).calling g' mk As.toArray, t, U', L, hT, X', hL, e1, e2, hq, st⟩
  · dsimp only [Pt.U, Pt.locs, Pt.cells, Pt.slots] at X' e1 e2 h1 h2 h3 st hcl
    subst h1; subst h2; subst h3
    exact Or.inr ⟨q, (T.setVm vm₁).calling g' mk As.toArray, t, U', L, E, ce, hT, X', hL, e1, e2, hq, hce, hcv, vx_cls hW₁ hcl, st⟩
end Runs
section Rows
variable {p : Program} {l : Launch} {e : Env} {R : Room} {s : State} {m : MethodId} {args : Array Value} {below : List Frame} {meth : Method} {c : Code} {H : Heap} {locs : List Loc} {cells slots : Nat} {Q : State → Prop}
variable {mc ms : Nat} {free : Addr → Prop} {A0 A1 : Nat → Prop} {H0 : Heap} {a : Array Value} {pc : Nat} {ls : Array Slot} {st0 rest : List Value}
theorem vx_keep {st₀ t T' : State} {L : List Loc} (h0 : st₀.heap = H) (e1 : T'.heap = t.heap) (hS : va_S A0 H0 H locs) (hA : ∀ q, q < H.size → A1 q → A0 q) (hf : ∀ q, free q → A0 q) (hL : ∀ q ∈ L, free q.base) (hF : va_F A1 st₀ t) :
    H.size ≤ T'.heap.size ∧ (∀ q : Nat, q < H.size → ¬ A1 q → T'.heap[q]? = H[q]?) ∧ va_S A0 H0 T'.heap (locs ++ L) := by
  obtain ⟨hz, hk⟩ := hF
  rw [h0] at hz hk
  exact ⟨by rw [e1]; exact hz, fun q h1 h2 => by rw [e1]; exact hk q h1 h2,
    ⟨Nat.le_trans hS.1 (by rw [e1]; exact hz), fun q h1 h2 => by rw [e1, hk q (Nat.lt_of_lt_of_le h1 hS.1) (fun z => h2 (hA q (Nat.lt_of_lt_of_le h1 hS.1) z))]; exact hS.2.1 q h1 h2, fun q hq => by
      rcases List.mem_append.mp hq with h | h
      · exact hS.2.2 q h
      · exact hf _ (hL q h)⟩⟩
theorem vx_calli {S SX : Type} {post : Int32 → S → Prop} {px : SX → Prop} {B : S → State → Prop} {BX : String → SX → State → Prop} {AX : Nat → Prop} (hr : vx_Run p l e R s m args below meth c H locs cells slots mc ms (F0 m pc ls st0) rest (va_Qi post B A1 a) (vx_X px BX AX) free) (hS : va_S A0 H0 H locs) (hA : ∀ q, q < H.size → A1 q → A0 q) (hf : ∀ q, free q → A0 q) (hAX : ∀ q, q < H.size → AX q → A0 q)
    (kx : ∀ (E : String) (ce : Cell) (q9 : Addr) (u : SX) (t : State) (H1 : Heap) (locs1 : List Loc), t.heap = H1 → s.vm.Alike t.vm → px u → BX E u t → H.size ≤ H1.size → (∀ q : Nat, q < H.size → ¬ AX q → H1[q]? = H[q]?) → va_S A0 H0 H1 locs1 → H1[q9]? = some ce → ce.vm = .none → s.vm.findClass E = some ce.cls → vx_W p l e R s m args below meth c H1 locs1 (cells + mc) (slots + ms) Q (F0 m pc ls rest) q9)
    (kk : ∀ (r : Int32) (u : S) (t : State) (H1 : Heap) (locs1 : List Loc), t.heap = H1 → s.vm.Alike t.vm → post r u → B u t → H.size ≤ H1.size → (∀ q : Nat, q < H.size → ¬ A1 q → H1[q]? = H[q]?) → va_S A0 H0 H1 locs1 → W p l e R s m args below meth c H1 locs1 (cells + mc) (slots + ms) Q (F0 m (pc + 3) ls (.int r :: rest))) : W p l e R s m args below meth c H locs cells slots Q (F0 m pc ls st0) := by
  intro T hT X
  rcases hr T hT X with ⟨v, st₀, t, T', L, h0, X', hL, e1, e2, ⟨⟨r, u, hv, hp, hb⟩, hF⟩, st⟩ | ⟨q, st₀, t, T', L, E, ce, h0, X', hL, e1, e2, ⟨u, hp, hb, hF⟩, hce, hcv, hcl, st⟩
  · cases hv
    obtain ⟨k1, k2, k3⟩ := vx_keep h0 e1 hS hA hf hL hF
    obtain ⟨t2, a1, b1⟩ := kk r u t T'.heap (locs ++ L) e1.symm (by rw [← e2]; exact X'.warmed.alike) hp hb k1 k2 k3 T' rfl X'
    exact ⟨t2, st t2 a1, b1⟩
  · obtain ⟨k1, k2, k3⟩ := vx_keep h0 e1 hS hAX hf hL hF
    obtain ⟨t2, a1, b1⟩ := kx E ce q u t T'.heap (locs ++ L) e1.symm (by rw [← e2]; exact X'.warmed.alike) hp hb k1 k2 k3 (by rw [e1]; exact hce) hcv hcl T' rfl X'
    exact ⟨t2, st.trans a1, b1⟩
theorem vx_calll {S SX : Type} {post : Int64 → S → Prop} {px : SX → Prop} {B : S → State → Prop} {BX : String → SX → State → Prop} {AX : Nat → Prop} (hr : vx_Run p l e R s m args below meth c H locs cells slots mc ms (F0 m pc ls st0) rest (va_Ql post B A1 a) (vx_X px BX AX) free) (hS : va_S A0 H0 H locs) (hA : ∀ q, q < H.size → A1 q → A0 q) (hf : ∀ q, free q → A0 q) (hAX : ∀ q, q < H.size → AX q → A0 q)
    (kx : ∀ (E : String) (ce : Cell) (q9 : Addr) (u : SX) (t : State) (H1 : Heap) (locs1 : List Loc), t.heap = H1 → s.vm.Alike t.vm → px u → BX E u t → H.size ≤ H1.size → (∀ q : Nat, q < H.size → ¬ AX q → H1[q]? = H[q]?) → va_S A0 H0 H1 locs1 → H1[q9]? = some ce → ce.vm = .none → s.vm.findClass E = some ce.cls → vx_W p l e R s m args below meth c H1 locs1 (cells + mc) (slots + ms) Q (F0 m pc ls rest) q9)
    (kk : ∀ (r : Int64) (u : S) (t : State) (H1 : Heap) (locs1 : List Loc), t.heap = H1 → s.vm.Alike t.vm → post r u → B u t → H.size ≤ H1.size → (∀ q : Nat, q < H.size → ¬ A1 q → H1[q]? = H[q]?) → va_S A0 H0 H1 locs1 → W p l e R s m args below meth c H1 locs1 (cells + mc) (slots + ms) Q (F0 m (pc + 3) ls (.long r :: rest))) : W p l e R s m args below meth c H locs cells slots Q (F0 m pc ls st0) := by
  intro T hT X
  rcases hr T hT X with ⟨v, st₀, t, T', L, h0, X', hL, e1, e2, ⟨⟨r, u, hv, hp, hb⟩, hF⟩, st⟩ | ⟨q, st₀, t, T', L, E, ce, h0, X', hL, e1, e2, ⟨u, hp, hb, hF⟩, hce, hcv, hcl, st⟩
  · cases hv
    obtain ⟨k1, k2, k3⟩ := vx_keep h0 e1 hS hA hf hL hF
    obtain ⟨t2, a1, b1⟩ := kk r u t T'.heap (locs ++ L) e1.symm (by rw [← e2]; exact X'.warmed.alike) hp hb k1 k2 k3 T' rfl X'
    exact ⟨t2, st t2 a1, b1⟩
  · obtain ⟨k1, k2, k3⟩ := vx_keep h0 e1 hS hAX hf hL hF
    obtain ⟨t2, a1, b1⟩ := kx E ce q u t T'.heap (locs ++ L) e1.symm (by rw [← e2]; exact X'.warmed.alike) hp hb k1 k2 k3 (by rw [e1]; exact hce) hcv hcl T' rfl X'
    exact ⟨t2, st.trans a1, b1⟩
theorem vx_callf {S SX : Type} {post : UInt32 → S → Prop} {px : SX → Prop} {B : S → State → Prop} {BX : String → SX → State → Prop} {AX : Nat → Prop} (hr : vx_Run p l e R s m args below meth c H locs cells slots mc ms (F0 m pc ls st0) rest (va_Qf post B A1 a) (vx_X px BX AX) free) (hS : va_S A0 H0 H locs) (hA : ∀ q, q < H.size → A1 q → A0 q) (hf : ∀ q, free q → A0 q) (hAX : ∀ q, q < H.size → AX q → A0 q)
    (kx : ∀ (E : String) (ce : Cell) (q9 : Addr) (u : SX) (t : State) (H1 : Heap) (locs1 : List Loc), t.heap = H1 → s.vm.Alike t.vm → px u → BX E u t → H.size ≤ H1.size → (∀ q : Nat, q < H.size → ¬ AX q → H1[q]? = H[q]?) → va_S A0 H0 H1 locs1 → H1[q9]? = some ce → ce.vm = .none → s.vm.findClass E = some ce.cls → vx_W p l e R s m args below meth c H1 locs1 (cells + mc) (slots + ms) Q (F0 m pc ls rest) q9)
    (kk : ∀ (r : UInt32) (u : S) (t : State) (H1 : Heap) (locs1 : List Loc), t.heap = H1 → s.vm.Alike t.vm → post r u → B u t → H.size ≤ H1.size → (∀ q : Nat, q < H.size → ¬ A1 q → H1[q]? = H[q]?) → va_S A0 H0 H1 locs1 → W p l e R s m args below meth c H1 locs1 (cells + mc) (slots + ms) Q (F0 m (pc + 3) ls (.float r :: rest))) : W p l e R s m args below meth c H locs cells slots Q (F0 m pc ls st0) := by
  intro T hT X
  rcases hr T hT X with ⟨v, st₀, t, T', L, h0, X', hL, e1, e2, ⟨⟨r, u, hv, hp, hb⟩, hF⟩, st⟩ | ⟨q, st₀, t, T', L, E, ce, h0, X', hL, e1, e2, ⟨u, hp, hb, hF⟩, hce, hcv, hcl, st⟩
  · cases hv
    obtain ⟨k1, k2, k3⟩ := vx_keep h0 e1 hS hA hf hL hF
    obtain ⟨t2, a1, b1⟩ := kk r u t T'.heap (locs ++ L) e1.symm (by rw [← e2]; exact X'.warmed.alike) hp hb k1 k2 k3 T' rfl X'
    exact ⟨t2, st t2 a1, b1⟩
  · obtain ⟨k1, k2, k3⟩ := vx_keep h0 e1 hS hAX hf hL hF
    obtain ⟨t2, a1, b1⟩ := kx E ce q u t T'.heap (locs ++ L) e1.symm (by rw [← e2]; exact X'.warmed.alike) hp hb k1 k2 k3 (by rw [e1]; exact hce) hcv hcl T' rfl X'
    exact ⟨t2, st.trans a1, b1⟩
theorem vx_calld {S SX : Type} {post : UInt64 → S → Prop} {px : SX → Prop} {B : S → State → Prop} {BX : String → SX → State → Prop} {AX : Nat → Prop} (hr : vx_Run p l e R s m args below meth c H locs cells slots mc ms (F0 m pc ls st0) rest (va_Qd post B A1 a) (vx_X px BX AX) free) (hS : va_S A0 H0 H locs) (hA : ∀ q, q < H.size → A1 q → A0 q) (hf : ∀ q, free q → A0 q) (hAX : ∀ q, q < H.size → AX q → A0 q)
    (kx : ∀ (E : String) (ce : Cell) (q9 : Addr) (u : SX) (t : State) (H1 : Heap) (locs1 : List Loc), t.heap = H1 → s.vm.Alike t.vm → px u → BX E u t → H.size ≤ H1.size → (∀ q : Nat, q < H.size → ¬ AX q → H1[q]? = H[q]?) → va_S A0 H0 H1 locs1 → H1[q9]? = some ce → ce.vm = .none → s.vm.findClass E = some ce.cls → vx_W p l e R s m args below meth c H1 locs1 (cells + mc) (slots + ms) Q (F0 m pc ls rest) q9)
    (kk : ∀ (r : UInt64) (u : S) (t : State) (H1 : Heap) (locs1 : List Loc), t.heap = H1 → s.vm.Alike t.vm → post r u → B u t → H.size ≤ H1.size → (∀ q : Nat, q < H.size → ¬ A1 q → H1[q]? = H[q]?) → va_S A0 H0 H1 locs1 → W p l e R s m args below meth c H1 locs1 (cells + mc) (slots + ms) Q (F0 m (pc + 3) ls (.double r :: rest))) : W p l e R s m args below meth c H locs cells slots Q (F0 m pc ls st0) := by
  intro T hT X
  rcases hr T hT X with ⟨v, st₀, t, T', L, h0, X', hL, e1, e2, ⟨⟨r, u, hv, hp, hb⟩, hF⟩, st⟩ | ⟨q, st₀, t, T', L, E, ce, h0, X', hL, e1, e2, ⟨u, hp, hb, hF⟩, hce, hcv, hcl, st⟩
  · cases hv
    obtain ⟨k1, k2, k3⟩ := vx_keep h0 e1 hS hA hf hL hF
    obtain ⟨t2, a1, b1⟩ := kk r u t T'.heap (locs ++ L) e1.symm (by rw [← e2]; exact X'.warmed.alike) hp hb k1 k2 k3 T' rfl X'
    exact ⟨t2, st t2 a1, b1⟩
  · obtain ⟨k1, k2, k3⟩ := vx_keep h0 e1 hS hAX hf hL hF
    obtain ⟨t2, a1, b1⟩ := kx E ce q u t T'.heap (locs ++ L) e1.symm (by rw [← e2]; exact X'.warmed.alike) hp hb k1 k2 k3 (by rw [e1]; exact hce) hcv hcl T' rfl X'
    exact ⟨t2, st.trans a1, b1⟩
theorem vx_callv {S SX : Type} {post : S → Prop} {px : SX → Prop} {B : S → State → Prop} {BX : String → SX → State → Prop} {AX : Nat → Prop} (hr : vx_Run p l e R s m args below meth c H locs cells slots mc ms (F0 m pc ls st0) rest (va_Qv post B A1 a) (vx_X px BX AX) free) (hS : va_S A0 H0 H locs) (hA : ∀ q, q < H.size → A1 q → A0 q) (hf : ∀ q, free q → A0 q) (hAX : ∀ q, q < H.size → AX q → A0 q)
    (kx : ∀ (E : String) (ce : Cell) (q9 : Addr) (u : SX) (t : State) (H1 : Heap) (locs1 : List Loc), t.heap = H1 → s.vm.Alike t.vm → px u → BX E u t → H.size ≤ H1.size → (∀ q : Nat, q < H.size → ¬ AX q → H1[q]? = H[q]?) → va_S A0 H0 H1 locs1 → H1[q9]? = some ce → ce.vm = .none → s.vm.findClass E = some ce.cls → vx_W p l e R s m args below meth c H1 locs1 (cells + mc) (slots + ms) Q (F0 m pc ls rest) q9)
    (kk : ∀ (u : S) (t : State) (H1 : Heap) (locs1 : List Loc), t.heap = H1 → s.vm.Alike t.vm → post u → B u t → H.size ≤ H1.size → (∀ q : Nat, q < H.size → ¬ A1 q → H1[q]? = H[q]?) → va_S A0 H0 H1 locs1 → W p l e R s m args below meth c H1 locs1 (cells + mc) (slots + ms) Q (F0 m (pc + 3) ls (rest))) : W p l e R s m args below meth c H locs cells slots Q (F0 m pc ls st0) := by
  intro T hT X
  rcases hr T hT X with ⟨v, st₀, t, T', L, h0, X', hL, e1, e2, ⟨⟨u, hv, hp, hb⟩, hF⟩, st⟩ | ⟨q, st₀, t, T', L, E, ce, h0, X', hL, e1, e2, ⟨u, hp, hb, hF⟩, hce, hcv, hcl, st⟩
  · cases hv
    obtain ⟨k1, k2, k3⟩ := vx_keep h0 e1 hS hA hf hL hF
    obtain ⟨t2, a1, b1⟩ := kk u t T'.heap (locs ++ L) e1.symm (by rw [← e2]; exact X'.warmed.alike) hp hb k1 k2 k3 T' rfl X'
    exact ⟨t2, st t2 a1, b1⟩
  · obtain ⟨k1, k2, k3⟩ := vx_keep h0 e1 hS hAX hf hL hF
    obtain ⟨t2, a1, b1⟩ := kx E ce q u t T'.heap (locs ++ L) e1.symm (by rw [← e2]; exact X'.warmed.alike) hp hb k1 k2 k3 (by rw [e1]; exact hce) hcv hcl T' rfl X'
    exact ⟨t2, st.trans a1, b1⟩
/-- caught by the row x of this method's table; the rows ahead don't take it -/
theorem vx_catch {own name : String} {E : String} {ce : Cell} {q : Addr} (hown : s.vm.findClass own = some m.cls) (pre : List ExceptionTableEntry) (x : ExceptionTableEntry) (suf : List ExceptionTableEntry) (hsplit : c.exceptionTable.toList = pre ++ x :: suf)
    (hpass : ∀ z ∈ pre, covers z pc = false ∨ (z.catchType ≠ 0 ∧ ∃ nm : String, (Cond.classLink own z.catchType nm).before args s = true ∧ va_Nc E nm s)) (hx : covers x pc = true) (h0 : x.catchType ≠ 0)
    (hlink : (Cond.classLink own x.catchType name).before args s = true) (hcast : (Cond.castable E name).before args s = true) (hcell : H[q]? = some ce) (hv : ce.vm = .none) (hcl : s.vm.findClass E = some ce.cls)
    (kk : W p l e R s m args below meth c H locs cells slots Q (F0 m x.handlerPc ls [.ref q])) : vx_W p l e R s m args below meth c H locs cells slots Q (F0 m pc ls rest) q := by
  intro T hT X
  have hpl : e.platform.magicAccessors = ({} : Platform).magicAccessors := by rw [X.admits.platform]
  obtain ⟨c3, c4, hc3, hc4, hasg⟩ := Cond.castable_spec hcast
  cases Option.some.inj (hc3.symm.trans hcl)
  obtain ⟨c5, hc5, hcl5⟩ := Cond.classLink_spec hown hlink e.platform hpl
  cases Option.some.inj (hc4.symm.trans hc5)
  obtain ⟨vm', X', st⟩ := X.thenCaughtThrough q (g := F0 m pc ls rest) rfl (Steps.refl _) (by rw [hT]; exact hcell) (by rw [hv]; rfl) (by obtain ⟨k9, h9, -⟩ := Vm.findClass_spec hcl; exact ⟨k9, h9⟩) pre x suf hsplit
    (fun z hz => by
      rcases hpass z hz with h | ⟨hz0, nm, hl1, hn1⟩
      · exact Or.inl h
      · obtain ⟨c6, hc6, hcl6⟩ := Cond.classLink_spec hown hl1 e.platform hpl
        obtain ⟨a8, b8, h1, h2, h3⟩ := hn1
        cases Option.some.inj (h1.symm.trans hcl)
        cases Option.some.inj (h2.symm.trans hc6)
        exact Or.inr ⟨hz0, _, hcl6, h3⟩) hx (Or.inr ⟨h0, c4, hcl5, hasg⟩)
  obtain ⟨t, a1, b1⟩ := kk (T.setVm vm') hT X'
  exact ⟨t, st.trans a1, b1⟩
end Rows
section Ends
variable {p : Program} {l : Launch} {e : Env} {R : Room} {s : State} {m : MethodId} {args : Array Value} {below : List Frame} {meth : Method} {c : Code} {H : Heap} {locs : List Loc} {cells slots : Nat} {Q : State → Prop}
variable {mc ms : Nat} {free : Addr → Prop} {A0 A1 : Nat → Prop} {H0 : Heap} {a : Array Value} {ls : Array Slot} {st0 rest : List Value}
variable {Qc : Array Value → State → Outcome → State → Prop} {XC : String → State → State → Prop}
/-- what a body that may throw owes at its end -/
def vx_MQ (below : List Frame) (Qc : Array Value → State → Outcome → State → Prop) (XC : String → State → State → Prop) (a : Array Value) (s : State) (mc ms : Nat) (free : Addr → Prop) : State → Prop := fun t =>
  ∃ o, t.status = .running ∧ Ended t below o ∧ vx_Q Qc XC mc ms free a s o t
theorem vx_ret {g : JFrame} {mc ms : Nat} (k : W p l e R s m args below meth c H locs cells slots (MQ below Qc args s mc ms free) g) : W p l e R s m args below meth c H locs cells slots (vx_MQ below Qc XC args s mc ms free) g := by
  intro T hT X
  obtain ⟨t, a1, o, b1, b2, b3, b4⟩ := k T hT X
  exact ⟨t, a1, o, b1, b2, Or.inl ⟨b3, b4⟩⟩
/-- not caught here: it goes on to the caller -/
theorem vx_widen {g : JFrame} {q : Addr} {k n : Nat} (h1 : cells ≤ k) (h2 : slots ≤ n) (kk : vx_W p l e R s m args below meth c H locs k n Q g q) : vx_W p l e R s m args below meth c H locs cells slots Q g q := fun T hT X => kk T hT (stand_widen X h1 h2)
theorem vx_out {pc : Nat} {E : String} {ce : Cell} {q : Addr} {mc ms : Nat} (hout : ∀ x ∈ c.exceptionTable.toList, covers x pc = false) (hlocks : meth.locks = false) (hcell : H[q]? = some ce) (hv : ce.vm = .none) (hcl : s.vm.findClass E = some ce.cls)
    (hx : ∀ t : State, t.heap = H → s.vm.Alike t.vm → XC E s t) (hf : ∀ z ∈ locs, free z.base) (hc : cells ≤ mc) (hs : slots ≤ ms) :
    vx_W p l e R s m args below meth c H locs cells slots (vx_MQ below Qc XC args s mc ms free) (F0 m pc ls rest) q := by
  intro T hT X
  obtain ⟨st1, hrun, hend, hW, hsm⟩ := X.leaveThrown q (g := F0 m pc ls rest) rfl rfl rfl hout hlocks
  have hcell9 : (T.setFrames (.throwing q :: below)).heap[q]? = some ce := by
    show T.heap[q]? = some ce
    rw [hT]; exact hcell
  exact ⟨_, st1, .threw q, hrun, hend, Or.inr ⟨q, rfl, E, ce, locs, hx _ hT hW.alike, hcell9, hv, hcl, hW, hsm.mono hc hs, hf⟩⟩
theorem vx_frame {U : State} {k n : Nat} (h : s.sameButNew ({ U with vm := s.vm } : State) locs k n) : s.heap.size ≤ U.heap.size ∧ ∀ q : Nat, q < s.heap.size → (∀ z ∈ locs, z.base ≠ q) → U.heap[q]? = s.heap[q]? := by
  obtain ⟨-, h2, -, -, -, h6⟩ := h
  refine ⟨h2, fun q hq hz => ?_⟩
  obtain ⟨c9, e1, e2, e3, e4⟩ := h6 q _ (Array.getElem?_eq_getElem hq)
  have hs : c9.slots = (s.heap[q]).slots := Array.ext_getElem? fun i => e4 i fun hm => hz _ hm rfl
  have h9 : c9 = s.heap[q] := by
    rw [hs] at e2
    exact e2
  have e5 : U.heap[q]? = some c9 := e1
  rw [e5, h9, Array.getElem?_eq_getElem hq]
/-- the words of a throw but the four that speak of the heap -/
def vx_no (w : Cond) : Bool := decide (w ≠ .isRef (.static Bundle.tN "UNASSIGNED_STACK" Bundle.steD)) && decide (w ≠ .isRef (.static Bundle.tN "SUPPRESSED_SENTINEL" Bundle.listD)) && decide (w ≠ .laysStatic Bundle.tN "UNASSIGNED_STACK" Bundle.steD) && decide (w ≠ .laysStatic Bundle.tN "SUPPRESSED_SENTINEL" Bundle.listD)
def vx_at0 (own : String) (ic : Nat) (X : String) (names : List String) : List Cond := (Bundle.ownAtoms0 own ic X names).filter vx_no
def vx_atS (own : String) (ic : Nat) (X : String) (names : List String) : List Cond := (Bundle.ownAtoms own ic X names).filter vx_no
/-- a word that the tables alone decide, or a good one -/
def vx_ot (w : Cond) : Bool := w.onTables || goodWord w
theorem vx_ot_at {args a' : Array Value} {s U : State} {w : Cond} (hW : s.WarmedH U.vm) (hvm : s.vm = U.vm) (hg : vx_ot w = true) (h : w.before args s = true) : w.before a' U = true := by
  simp only [vx_ot, Bool.or_eq_true] at hg
  rcases hg with hg | hg
  · exact va_tabs hg hvm h
  · exact word_at hW (good_of_word hg) h
/-- a list's words: the good ones out of the method's own list, the others by premises of their own -/
theorem vx_hat {args : Array Value} {s : State} {L B : List Cond} (h1 : ∀ w ∈ L.filter goodWord, w.before args s = true) (h2 : ∀ w ∈ L.filter (fun w => !goodWord w), w ∈ B) (h3 : ∀ w ∈ B, w.before args s = true) : ∀ w ∈ L, w.before args s = true := by
  intro w hw
  by_cases g : goodWord w = true
  · exact h1 w (List.mem_filter.mpr ⟨hw, g⟩)
  · refine h3 w (h2 w (List.mem_filter.mpr ⟨hw, ?_⟩))
    show (!goodWord w) = true
    cases hgw : goodWord w
    · rfl
    · exact absurd hgw g
theorem vx_c {args : Array Value} {s : State} {w : Cond} {B : List Cond} (h : w.before args s = true) (t : ∀ w ∈ B, w.before args s = true) : ∀ w' ∈ w :: B, w'.before args s = true := fun w' h' => (List.mem_cons.mp h').elim (fun e => by rw [e]; exact h) (t w')
theorem vx_n {args : Array Value} {s : State} : ∀ w ∈ ([] : List Cond), w.before args s = true := fun _ h => nomatch h
theorem vx_own {args : Array Value} {s : State} {L : List Cond} (h1 : ∀ w ∈ L.filter vx_no, w.before args s = true)
    (hU : (Cond.isRef (.static Bundle.tN "UNASSIGNED_STACK" Bundle.steD)).before args s = true) (hN : (Cond.isRef (.static Bundle.tN "SUPPRESSED_SENTINEL" Bundle.listD)).before args s = true)
    (lU : (Cond.laysStatic Bundle.tN "UNASSIGNED_STACK" Bundle.steD).before args s = true) (lN : (Cond.laysStatic Bundle.tN "SUPPRESSED_SENTINEL" Bundle.listD).before args s = true) : ∀ w ∈ L, w.before args s = true := by
  intro w hw
  by_cases e1 : w = .isRef (.static Bundle.tN "UNASSIGNED_STACK" Bundle.steD)
  · rw [e1]; exact hU
  · by_cases e2 : w = .isRef (.static Bundle.tN "SUPPRESSED_SENTINEL" Bundle.listD)
    · rw [e2]; exact hN
    · by_cases e3 : w = .laysStatic Bundle.tN "UNASSIGNED_STACK" Bundle.steD
      · rw [e3]; exact lU
      · by_cases e4 : w = .laysStatic Bundle.tN "SUPPRESSED_SENTINEL" Bundle.listD
        · rw [e4]; exact lN
        · exact h1 w (List.mem_filter.mpr ⟨hw, by unfold vx_no; rw [decide_eq_true e1, decide_eq_true e2, decide_eq_true e3, decide_eq_true e4]; rfl⟩)
/-- where a static field lies, its class's statics cell in H -/
def vx_L (C n d : String) (A : Nat → Prop) (U : State) (H : Heap) : Prop := ∃ (c : ClassId) (k : Class) (i : Nat) (f : Field) (a : Nat) (cell : Cell), U.vm.findClass C = some c ∧ U.fieldFound? C n d = some (c, k, i, f) ∧ f.isStatic = true ∧ k.statics = some a ∧ H[a]? = some cell ∧ cell.vm.isStatics = true ∧ cell.cls = c ∧ f.slot < cell.slots.size ∧ k.staticTypes[f.slot]? = some f.type ∧ ¬ A a
theorem vx_L.moved {C n d : String} {A : Nat → Prop} {u U : State} {H : Heap} (hvm : u.vm.Alike U.vm) (h : vx_L C n d A u H) : vx_L C n d A U H := by
  obtain ⟨c, k, i, f, a, cell, h1, h2, h3, h4, h5, h6, h7, h8, h9, h10⟩ := h
  obtain ⟨k', hi', he⟩ := State.fieldFound?_setVm hvm h2
  exact ⟨c, k', i, f, a, cell, by rw [hvm.findClass]; exact h1, hi', h3, by rw [he]; exact h4, h5, h6, h7, h8, by rw [he]; exact h9, h10⟩
theorem vx_L.kept {C n d : String} {A : Nat → Prop} {U : State} {H H1 : Heap} (h : vx_L C n d A U H) (hq : ∀ a : Nat, a < H.size → ¬ A a → H1[a]? = H[a]?) : vx_L C n d A U H1 := by
  obtain ⟨c, k, i, f, a, cell, h1, h2, h3, h4, h5, h6, h7, h8, h9, h10⟩ := h
  exact ⟨c, k, i, f, a, cell, h1, h2, h3, h4, by rw [hq a (Array.getElem?_eq_some_iff.mp h5).1 h10]; exact h5, h6, h7, h8, h9, h10⟩
theorem vx_L.narrow {C n d : String} {A B : Nat → Prop} {U : State} {H : Heap} (h : vx_L C n d A U H) (hAB : ∀ q, B q → A q) : vx_L C n d B U H := by
  obtain ⟨c, k, i, f, a, cell, h1, h2, h3, h4, h5, h6, h7, h8, h9, h10⟩ := h
  exact ⟨c, k, i, f, a, cell, h1, h2, h3, h4, h5, h6, h7, h8, h9, fun z => h10 (hAB _ z)⟩
theorem vx_L.word {C n d : String} {A : Nat → Prop} {s : State} {args : Array Value} (h : vx_L C n d A s s.heap) : (Cond.laysStatic C n d).before args s = true := by
  obtain ⟨c, k, i, f, a, cell, h1, h2, h3, h4, h5, h6, h7, h8, h9, -⟩ := h
  show (Cond.laysStatic C n d).holds args s none s [] = true
  exact Cond.laysStatic_of h1 h2 h3 h4 h5 h6 h7 h8 h9
/-- .. and what it holds: null or some reference -/
def vx_Zq (C n d : String) (A : Nat → Prop) (U : State) (H : Heap) : Prop := va_Zq C n d A U H ∧ vx_L C n d A U H
theorem vx_Zq.moved {C n d : String} {A : Nat → Prop} {u U : State} {H : Heap} (hvm : u.vm.Alike U.vm) (h : vx_Zq C n d A u H) : vx_Zq C n d A U H := ⟨va_Zq.moved hvm h.1, vx_L.moved hvm h.2⟩
theorem vx_Zq.kept {C n d : String} {A : Nat → Prop} {U : State} {H H1 : Heap} (h : vx_Zq C n d A U H) (hq : ∀ a : Nat, a < H.size → ¬ A a → H1[a]? = H[a]?) : vx_Zq C n d A U H1 := ⟨va_Zq.kept h.1 hq, vx_L.kept h.2 hq⟩
theorem vx_Zq.narrow {C n d : String} {A B : Nat → Prop} {U : State} {H : Heap} (h : vx_Zq C n d A U H) (hAB : ∀ q, B q → A q) : vx_Zq C n d B U H := ⟨va_Zq.narrow h.1 hAB, vx_L.narrow h.2 hAB⟩
theorem vx_Zqof {args : Array Value} {s : State} {C n d : String} {A : Nat → Prop} (hl : (Cond.laysStatic C n d).before args s = true) (hini : (Cond.initialized C).before args s = true) (h : (Cond.isRef (.static C n d)).before args s = true) (hA : ∀ a : Nat, a < s.heap.size → ¬ A a) : vx_Zq C n d A s s.heap := by
  refine ⟨va_Zqof hl hini h hA, ?_⟩
  obtain ⟨c, k, i, f, a, cell, h1, h2, h3, h4, h5, h6, h7, h8, h9⟩ := Cond.laysStatic_spec hl
  exact ⟨c, k, i, f, a, cell, h1, h2, h3, h4, h5, h6, h7, h8, h9, hA a (Array.getElem?_eq_some_iff.mp h5).1⟩
theorem vx_isRef {C n d : String} {v : Value} {A : Nat → Prop} {s : State} {args : Array Value} (h : va_Z C n d v A s s.heap) (hv : v.isRef = true) : (Cond.isRef (.static C n d)).before args s = true := by
  obtain ⟨cf, kf, fi, f, a, cell, h1, h2, h3, h4, h5, h6, h7, -⟩ := h
  have he : (Term.static C n d).eval args s none [] s = some v := by
    simp [Term.eval, State.fieldNamed?, h1, h2, h4, h5, h6, h7]
  simp only [Cond.before, Cond.holds, Cond.value, he]
  cases v <;> simp_all [Value.isRef]
theorem vx_isRefq {C n d : String} {A : Nat → Prop} {s : State} {args : Array Value} (h : va_Zq C n d A s s.heap) : (Cond.isRef (.static C n d)).before args s = true := by
  rcases h with h | ⟨t, h⟩
  · exact vx_isRef h rfl
  · exact vx_isRef h rfl
/-- the same frame, seen from here: as if the method were called anew in this heap -/
theorem vx_rebase {T : State} (X : Stand p l e R s m args below meth c T locs cells slots) {R' : Room} (hf : R'.frames ≤ R.frames) (hl : R'.locals ≤ R.locals) (hc : cells + R'.cells ≤ R.cells) (hs : slots + R'.slots ≤ R.slots) :
    Stand p l e R' ((T.setVm s.vm).setFrames (.invoking m args :: below)) m args below meth c T [] 0 0 := by
  have htop : (T.setVm s.vm).topJava?.isSome := X.here.top
  have hF : ((T.setVm s.vm).setFrames (.invoking m args :: below)).frames = .invoking m args :: below := State.frames_setFrames _ (State.cur_lt_of_top htop)
  obtain ⟨g₀, hg0⟩ := Option.isSome_iff_exists.mp htop
  obtain ⟨r, hr⟩ := State.topJava?_eq_some.mp hg0
  have hl9 : e.platform.stackLimits (T.setVm s.vm).me = e.platform.stackLimits s.me := X.limits
  have hb9 : (T.setVm s.vm).me.stackBytes = s.me.stackBytes := X.bytes
  refine ⟨X.admits, X.cas, X.clock, hF, ?_, X.hears, X.method, X.code, X.here, X.tail, X.warmed, ?_, ?_, ?_⟩
  · have h := X.room
    have hU : ((T.setVm s.vm).setFrames (.invoking m args :: below)).localsInUse = s.localsInUse := by
      rw [State.localsInUse_invoking hF (meth := meth) (c := c) X.method X.code, State.localsInUse_invoking X.frames X.method X.code]
    simp only [State.hasRoom, Bool.and_eq_true, decide_eq_true_eq] at h ⊢
    obtain ⟨⟨⟨⟨h1, h2, h3, h4, h5, h6⟩, h7⟩, h8⟩, h9⟩ := h
    rw [X.frames, List.length_cons] at h2 h3
    have q1 := X.heapSize
    have q2 := X.used
    simp only [hF, hU, List.length_cons, State.stackLimits_setFrames, State.stackBytes_setFrames, hl9, hb9]
    refine ⟨⟨⟨⟨by omega, by omega, by omega, by omega, by omega, h6⟩, ?_⟩, ?_⟩, X.book⟩
    · show T.heap.size + R'.cells ≤ e.platform.maxCells
      omega
    · show T.slotsUsed + R'.slots ≤ e.platform.maxSlots
      omega
  · rw [State.stackLimits_setFrames]; rfl
  · rw [State.stackBytes_setFrames]; rfl
  · refine ⟨?_, Nat.le_refl _, Nat.le_refl _, ?_, ?_, fun a c9 h9 => ⟨c9, h9, rfl, rfl, fun _ _ => rfl⟩⟩
    · obtain ⟨t, ht, -⟩ := State.frames_cons hr
      show T.setVm s.vm = { ((T.setVm s.vm).setFrames (.invoking m args :: below)).setFrames (T.setVm s.vm).frames with heap := T.heap, slotsUsed := T.slotsUsed }
      rw [State.setFrames_setFrames, State.setFrames_self ht]
      rfl
    · show T.slotsUsed = T.slotsUsed + ((T.heap.toList.drop T.heap.size).map (·.slots.size)).sum
      rw [List.drop_eq_nil_of_le (Nat.le_of_eq Array.length_toList)]
      rfl
    · show ((T.heap.toList.drop T.heap.size).map (·.slots.size)).sum ≤ 0
      rw [List.drop_eq_nil_of_le (Nat.le_of_eq Array.length_toList)]
      exact Nat.le_refl _
/-- 'throw new E()': new; dup; invokespecial; athrow -/
theorem vx_throw0 {cc : ByteArray} {pc : Nat} (hexec : p.tables.exec = Jvm.exec) (hb : c.code = cc) (hl : l.stackTraces = false) {own cls : String} {names : List String} {ik ic mc ms : Nat} {A : Nat → Prop}
    (hown : s.vm.findClass own = some m.cls) (hcls : Bundle.fit cls = true) (hnames : ∀ n ∈ names, Bundle.fit n = true)
    (hk : (Cond.classLink own ik cls).before args s = true) (hini : (Cond.initialized cls).before args s = true) (hat : ∀ w ∈ vx_at0 own ic cls names, w.before args s = true)
    (hgood : ∀ w ∈ Cond.classLink own ik cls :: Cond.initialized cls :: vx_at0 own ic cls names, vx_ot w = true)
    (hU : vx_Zq Bundle.tN "UNASSIGNED_STACK" Bundle.steD A s s.heap) (hN : vx_Zq Bundle.tN "SUPPRESSED_SENTINEL" Bundle.listD A s s.heap) (hS : va_S A s.heap H locs) (hsize : ls.size = c.maxLocals)
    (d0 : decode cc pc = .ok (.new ik, 3)) (d3 : decode cc (pc + 3) = .ok (.dup, 1)) (d4 : decode cc (pc + 4) = .ok (.invokespecial ic, 3)) (d7 : decode cc (pc + 7) = .ok (.athrow, 1))
    (hout : ∀ x ∈ c.exceptionTable.toList, covers x (pc + 7) = false)
    (hRframes : names.length + 3 < R.frames) (hRlocals : (rest.map fun v => v.category).sum + (13 * (names.length + 1) + 42) ≤ R.locals) (hRcells : cells + 1 ≤ R.cells) (hRslots : slots + 6 ≤ R.slots) (hlocks : meth.locks = false)
    (hx : ∀ t : State, s.vm.Alike t.vm → H.size ≤ t.heap.size → (∀ q : Nat, q < H.size → t.heap[q]? = H[q]?) → XC cls s t)
    (hf : ∀ z ∈ locs, free z.base) (hc : cells + 1 ≤ mc) (hs : slots + 6 ≤ ms) :
    W p l e R s m args below meth c H locs cells slots (vx_MQ below Qc XC args s mc ms free) (F0 m pc ls rest) := by
  intro T hT X
  have htr : e.platform.stackTraces = false := (show e.platform.stackTraces = l.stackTraces by rw [X.admits.platform]).trans hl
  have Y := vx_rebase X (R' := { frames := R.frames, locals := R.locals, cells := 1, slots := 6 }) (Nat.le_refl _) (Nat.le_refl _) hRcells hRslots
  obtain ⟨s', hA⟩ : ∃ z, z = (T.setVm s.vm).setFrames (.invoking m args :: below) := ⟨_, rfl⟩
  rw [← hA] at Y
  have hvm : s'.vm = s.vm := by rw [hA]; rfl
  have hhp : s'.heap = H := by rw [hA]; exact hT
  have hW0 : s.WarmedH s'.vm := by rw [hvm]; exact State.WarmedH.refl s
  have hat' : ∀ w ∈ vx_at0 own ic cls names, w.before args s' = true := fun w hw => vx_ot_at hW0 hvm.symm (hgood w (List.mem_cons_of_mem _ (List.mem_cons_of_mem _ hw))) (hat w hw)
  have hk' : (Cond.classLink own ik cls).before args s' = true := vx_ot_at hW0 hvm.symm (hgood _ List.mem_cons_self) hk
  have hini' : (Cond.initialized cls).before args s' = true := vx_ot_at hW0 hvm.symm (hgood _ (List.mem_cons_of_mem _ List.mem_cons_self)) hini
  have hU' : vx_Zq Bundle.tN "UNASSIGNED_STACK" Bundle.steD A s' s'.heap := by rw [hhp]; exact vx_Zq.moved hW0.alike (hU.kept hS.2.1)
  have hN' : vx_Zq Bundle.tN "SUPPRESSED_SENTINEL" Bundle.listD A s' s'.heap := by rw [hhp]; exact vx_Zq.moved hW0.alike (hN.kept hS.2.1)
  have h : ∀ w ∈ Bundle.ownAtoms0 own ic cls names, w.before args s' = true := vx_own hat' (vx_isRefq hU'.1) (vx_isRefq hN'.1) hU'.2.word hN'.2.word
  have hown' : s'.vm.findClass own = some m.cls := by rw [hvm]; exact hown
  have hins : (Cond.instantiable cls 6).before args s' = true := h _ (by simp [Bundle.ownAtoms0])
  obtain ⟨vm₁, cX, kX, hfX, hkX, -, -, X₁, st1⟩ := Y.newCold hexec (own := own) (C := cls) (index := ik) (n := 6) hown' hk' hins hini'
    (g := F0 m pc ls rest) rfl (by rw [hb]; exact d0) (Nat.le_refl _) (Nat.le_refl _)
  generalize hT1 : (T.setVm vm₁).pushCell { cls := cX, slots := kX.instanceTypes.map defaultValue, vm := .none } = T1 at X₁ st1
  have hcat : (Value.ref T.heap.size).category = 1 := rfl
  have hcellA : T1.heap[T.heap.size]? = some (freshCell cX kX) := by rw [← hT1]; exact State.heap_pushCell_size _ _
  have d3' : decode c.code (pc + 3) = .ok (.dup, 1) := by rw [hb]; exact d3
  obtain ⟨U, hsteps, hrun, hend, hW, hsame, ce, hce, hO⟩ := X₁.ctorThrow0 hexec htr (own := own) (cls := cls) (names := names) (ic := ic) hown' hcls hnames h (fun x hx => nomatch hx) hfX hkX hcellA (by rw [hhp, hT]; exact Nat.le_refl _)
    (g := { method := m, pc := pc + 4, locals := ls, stack := .ref T.heap.size :: .ref T.heap.size :: rest, locked := none }) rfl hsize rfl rfl (rest := rest) rfl
    (by rw [hb]; exact d4) (by rw [hb]; exact d7) hout hRframes (by simp only [List.map_cons, List.sum_cons, hcat]; omega) hlocks
  obtain ⟨f1, f2⟩ := vx_frame hsame
  rw [hhp] at f1 f2
  have hWs : s.WarmedH U.vm := State.WarmedH.trans hW0 hW
  have hcl : s.vm.findClass cls = some ce.cls := by
    have h9 := hO.cls
    rw [hvm] at h9
    exact h9
  have hall : s.sameButNew ({ U with vm := s.vm } : State) locs mc ms := by
    subst hA
    obtain ⟨e1, e2⟩ := hsame
    rw [State.setFrames_setFrames] at e1
    have h2 : (T.setVm s.vm).sameButNew ({ U with vm := s.vm } : State) [] (0 + 1) (0 + 6) := ⟨e1, e2⟩
    have h3 := X.same.trans h2
    rw [List.append_nil] at h3
    exact h3.mono hc hs
  refine ⟨U, ?_, .threw T.heap.size, hrun, hend, Or.inr ⟨T.heap.size, rfl, cls, ce, locs, hx U hWs.alike f1 (fun q hq => f2 q hq (fun z hz => nomatch hz)), hce, hO.vm, hcl, hWs, hall, hf⟩⟩
  refine st1 _ ?_
  show Steps p.tables e below (T1.setTop { method := m, pc := pc + 3, locals := ls, stack := .ref T.heap.size :: rest, locked := none }) _
  jvm_step X₁.here [X₁.here.top, hexec, d3', Value.category]
  exact hsteps
/-- 'throw new E("text")': new; dup; ldc; invokespecial; athrow -/
theorem vx_throwS {cc : ByteArray} {pc : Nat} (hexec : p.tables.exec = Jvm.exec) (hb : c.code = cc) (hl : l.stackTraces = false) {own cls text : String} {names : List String} {ik is ic mc ms sa : Nat} {A : Nat → Prop}
    (hown : s.vm.findClass own = some m.cls) (hcls : Bundle.fit cls = true) (hnames : ∀ n ∈ names, Bundle.fit n = true)
    (hk : (Cond.classLink own ik cls).before args s = true) (hini : (Cond.initialized cls).before args s = true) (hstr : vk_R own is text sa s) (hat : ∀ w ∈ vx_atS own ic cls names, w.before args s = true)
    (hgood : ∀ w ∈ Cond.classLink own ik cls :: Cond.initialized cls :: vx_atS own ic cls names, vx_ot w = true)
    (hU : vx_Zq Bundle.tN "UNASSIGNED_STACK" Bundle.steD A s s.heap) (hN : vx_Zq Bundle.tN "SUPPRESSED_SENTINEL" Bundle.listD A s s.heap) (hS : va_S A s.heap H locs) (hsize : ls.size = c.maxLocals)
    (d0 : decode cc pc = .ok (.new ik, 3)) (d3 : decode cc (pc + 3) = .ok (.dup, 1)) (d4 : decode cc (pc + 4) = .ok (.ldc is, 2)) (d6 : decode cc (pc + 6) = .ok (.invokespecial ic, 3)) (d9 : decode cc (pc + 9) = .ok (.athrow, 1))
    (hout : ∀ x ∈ c.exceptionTable.toList, covers x (pc + 9) = false)
    (hRframes : names.length + 3 < R.frames) (hRlocals : (rest.map fun v => v.category).sum + (13 * (names.length + 1) + 43) ≤ R.locals) (hRcells : cells + 1 ≤ R.cells) (hRslots : slots + 6 ≤ R.slots) (hlocks : meth.locks = false)
    (hx : ∀ t : State, s.vm.Alike t.vm → H.size ≤ t.heap.size → (∀ q : Nat, q < H.size → t.heap[q]? = H[q]?) → XC cls s t)
    (hf : ∀ z ∈ locs, free z.base) (hc : cells + 1 ≤ mc) (hs : slots + 6 ≤ ms) :
    W p l e R s m args below meth c H locs cells slots (vx_MQ below Qc XC args s mc ms free) (F0 m pc ls rest) := by
  intro T hT X
  have htr : e.platform.stackTraces = false := (show e.platform.stackTraces = l.stackTraces by rw [X.admits.platform]).trans hl
  have Y := vx_rebase X (R' := { frames := R.frames, locals := R.locals, cells := 1, slots := 6 }) (Nat.le_refl _) (Nat.le_refl _) hRcells hRslots
  obtain ⟨s', hA⟩ : ∃ z, z = (T.setVm s.vm).setFrames (.invoking m args :: below) := ⟨_, rfl⟩
  rw [← hA] at Y
  have hvm : s'.vm = s.vm := by rw [hA]; rfl
  have hhp : s'.heap = H := by rw [hA]; exact hT
  have hW0 : s.WarmedH s'.vm := by rw [hvm]; exact State.WarmedH.refl s
  have hat' : ∀ w ∈ vx_atS own ic cls names, w.before args s' = true := fun w hw => vx_ot_at hW0 hvm.symm (hgood w (List.mem_cons_of_mem _ (List.mem_cons_of_mem _ hw))) (hat w hw)
  have hk' : (Cond.classLink own ik cls).before args s' = true := vx_ot_at hW0 hvm.symm (hgood _ List.mem_cons_self) hk
  have hini' : (Cond.initialized cls).before args s' = true := vx_ot_at hW0 hvm.symm (hgood _ (List.mem_cons_of_mem _ List.mem_cons_self)) hini
  have hU' : vx_Zq Bundle.tN "UNASSIGNED_STACK" Bundle.steD A s' s'.heap := by rw [hhp]; exact vx_Zq.moved hW0.alike (hU.kept hS.2.1)
  have hN' : vx_Zq Bundle.tN "SUPPRESSED_SENTINEL" Bundle.listD A s' s'.heap := by rw [hhp]; exact vx_Zq.moved hW0.alike (hN.kept hS.2.1)
  have h : ∀ w ∈ Bundle.ownAtoms own ic cls names, w.before args s' = true := vx_own hat' (vx_isRefq hU'.1) (vx_isRefq hN'.1) hU'.2.word hN'.2.word
  have hown' : s'.vm.findClass own = some m.cls := by rw [hvm]; exact hown
  have hins : (Cond.instantiable cls 6).before args s' = true := h _ (by simp [Bundle.ownAtoms])
  obtain ⟨vm₁, cX, kX, hfX, hkX, -, -, X₁, st1⟩ := Y.newCold hexec (own := own) (C := cls) (index := ik) (n := 6) hown' hk' hins hini'
    (g := F0 m pc ls rest) rfl (by rw [hb]; exact d0) (Nat.le_refl _) (Nat.le_refl _)
  generalize hT1 : (T.setVm vm₁).pushCell { cls := cX, slots := kX.instanceTypes.map defaultValue, vm := .none } = T1 at X₁ st1
  have hcat : (Value.ref T.heap.size).category = 1 := rfl
  have hcellA : T1.heap[T.heap.size]? = some (freshCell cX kX) := by rw [← hT1]; exact State.heap_pushCell_size _ _
  have d3' : decode c.code (pc + 3) = .ok (.dup, 1) := by rw [hb]; exact d3
  have d4' : decode c.code (pc + 4) = .ok (.ldc is, 2) := by rw [hb]; exact d4
  have hstr' : vk_R own is text sa s' := vk_R.warm hW0 hstr
  obtain ⟨U, hsteps, hrun, hend, hW, hsame, ce, hce, hO⟩ := X₁.ctorThrowS hexec htr (own := own) (cls := cls) (names := names) (ic := ic) hown' hcls hnames h (fun x hx => nomatch hx) hfX hkX hcellA (by rw [hhp, hT]; exact Nat.le_refl _) (msg := .ref sa) rfl
    (g := { method := m, pc := pc + 6, locals := ls, stack := .ref sa :: .ref T.heap.size :: .ref T.heap.size :: rest, locked := none }) rfl hsize rfl rfl (rest := rest) rfl
    (by rw [hb]; exact d6) (by rw [hb]; exact d9) hout hRframes (by simp only [List.map_cons, List.sum_cons, hcat]; omega) hlocks
  obtain ⟨f1, f2⟩ := vx_frame hsame
  rw [hhp] at f1 f2
  have hWs : s.WarmedH U.vm := State.WarmedH.trans hW0 hW
  have hcl : s.vm.findClass cls = some ce.cls := by
    have h9 := hO.cls
    rw [hvm] at h9
    exact h9
  have hall : s.sameButNew ({ U with vm := s.vm } : State) locs mc ms := by
    subst hA
    obtain ⟨e1, e2⟩ := hsame
    rw [State.setFrames_setFrames] at e1
    have h2 : (T.setVm s.vm).sameButNew ({ U with vm := s.vm } : State) [] (0 + 1) (0 + 6) := ⟨e1, e2⟩
    have h3 := X.same.trans h2
    rw [List.append_nil] at h3
    exact h3.mono hc hs
  refine ⟨U, ?_, .threw T.heap.size, hrun, hend, Or.inr ⟨T.heap.size, rfl, cls, ce, locs, hx U hWs.alike f1 (fun q hq => f2 q hq (fun z hz => nomatch hz)), hce, hO.vm, hcl, hWs, hall, hf⟩⟩
  refine st1 _ ?_
  show Steps p.tables e below (T1.setTop { method := m, pc := pc + 3, locals := ls, stack := .ref T.heap.size :: rest, locked := none }) _
  jvm_step X₁.here [X₁.here.top, hexec, d3', Value.category]
  exact X₁.ldcString hexec (own := own) (text := text) (index := is) (a := sa) hown' hstr'.1 hstr'.2
    (g := { method := m, pc := pc + 4, locals := ls, stack := .ref T.heap.size :: .ref T.heap.size :: rest, locked := none }) rfl d4' _ hsteps
/-- 'throw new E("text")', the text by a wide index -/
theorem vx_throwSW {cc : ByteArray} {pc : Nat} (hexec : p.tables.exec = Jvm.exec) (hb : c.code = cc) (hl : l.stackTraces = false) {own cls text : String} {names : List String} {ik is ic mc ms sa : Nat} {A : Nat → Prop}
    (hown : s.vm.findClass own = some m.cls) (hcls : Bundle.fit cls = true) (hnames : ∀ n ∈ names, Bundle.fit n = true)
    (hk : (Cond.classLink own ik cls).before args s = true) (hini : (Cond.initialized cls).before args s = true) (hstr : vk_R own is text sa s) (hat : ∀ w ∈ vx_atS own ic cls names, w.before args s = true)
    (hgood : ∀ w ∈ Cond.classLink own ik cls :: Cond.initialized cls :: vx_atS own ic cls names, vx_ot w = true)
    (hU : vx_Zq Bundle.tN "UNASSIGNED_STACK" Bundle.steD A s s.heap) (hN : vx_Zq Bundle.tN "SUPPRESSED_SENTINEL" Bundle.listD A s s.heap) (hS : va_S A s.heap H locs) (hsize : ls.size = c.maxLocals)
    (d0 : decode cc pc = .ok (.new ik, 3)) (d3 : decode cc (pc + 3) = .ok (.dup, 1)) (d4 : decode cc (pc + 4) = .ok (.ldc_w is, 3)) (d7 : decode cc (pc + 7) = .ok (.invokespecial ic, 3)) (d10 : decode cc (pc + 10) = .ok (.athrow, 1))
    (hout : ∀ x ∈ c.exceptionTable.toList, covers x (pc + 10) = false)
    (hRframes : names.length + 3 < R.frames) (hRlocals : (rest.map fun v => v.category).sum + (13 * (names.length + 1) + 43) ≤ R.locals) (hRcells : cells + 1 ≤ R.cells) (hRslots : slots + 6 ≤ R.slots) (hlocks : meth.locks = false)
    (hx : ∀ t : State, s.vm.Alike t.vm → H.size ≤ t.heap.size → (∀ q : Nat, q < H.size → t.heap[q]? = H[q]?) → XC cls s t)
    (hf : ∀ z ∈ locs, free z.base) (hc : cells + 1 ≤ mc) (hs : slots + 6 ≤ ms) :
    W p l e R s m args below meth c H locs cells slots (vx_MQ below Qc XC args s mc ms free) (F0 m pc ls rest) := by
  intro T hT X
  have htr : e.platform.stackTraces = false := (show e.platform.stackTraces = l.stackTraces by rw [X.admits.platform]).trans hl
  have Y := vx_rebase X (R' := { frames := R.frames, locals := R.locals, cells := 1, slots := 6 }) (Nat.le_refl _) (Nat.le_refl _) hRcells hRslots
  obtain ⟨s', hA⟩ : ∃ z, z = (T.setVm s.vm).setFrames (.invoking m args :: below) := ⟨_, rfl⟩
  rw [← hA] at Y
  have hvm : s'.vm = s.vm := by rw [hA]; rfl
  have hhp : s'.heap = H := by rw [hA]; exact hT
  have hW0 : s.WarmedH s'.vm := by rw [hvm]; exact State.WarmedH.refl s
  have hat' : ∀ w ∈ vx_atS own ic cls names, w.before args s' = true := fun w hw => vx_ot_at hW0 hvm.symm (hgood w (List.mem_cons_of_mem _ (List.mem_cons_of_mem _ hw))) (hat w hw)
  have hk' : (Cond.classLink own ik cls).before args s' = true := vx_ot_at hW0 hvm.symm (hgood _ List.mem_cons_self) hk
  have hini' : (Cond.initialized cls).before args s' = true := vx_ot_at hW0 hvm.symm (hgood _ (List.mem_cons_of_mem _ List.mem_cons_self)) hini
  have hU' : vx_Zq Bundle.tN "UNASSIGNED_STACK" Bundle.steD A s' s'.heap := by rw [hhp]; exact vx_Zq.moved hW0.alike (hU.kept hS.2.1)
  have hN' : vx_Zq Bundle.tN "SUPPRESSED_SENTINEL" Bundle.listD A s' s'.heap := by rw [hhp]; exact vx_Zq.moved hW0.alike (hN.kept hS.2.1)
  have h : ∀ w ∈ Bundle.ownAtoms own ic cls names, w.before args s' = true := vx_own hat' (vx_isRefq hU'.1) (vx_isRefq hN'.1) hU'.2.word hN'.2.word
  have hown' : s'.vm.findClass own = some m.cls := by rw [hvm]; exact hown
  have hins : (Cond.instantiable cls 6).before args s' = true := h _ (by simp [Bundle.ownAtoms])
  obtain ⟨vm₁, cX, kX, hfX, hkX, -, -, X₁, st1⟩ := Y.newCold hexec (own := own) (C := cls) (index := ik) (n := 6) hown' hk' hins hini'
    (g := F0 m pc ls rest) rfl (by rw [hb]; exact d0) (Nat.le_refl _) (Nat.le_refl _)
  generalize hT1 : (T.setVm vm₁).pushCell { cls := cX, slots := kX.instanceTypes.map defaultValue, vm := .none } = T1 at X₁ st1
  have hcat : (Value.ref T.heap.size).category = 1 := rfl
  have hcellA : T1.heap[T.heap.size]? = some (freshCell cX kX) := by rw [← hT1]; exact State.heap_pushCell_size _ _
  have d3' : decode c.code (pc + 3) = .ok (.dup, 1) := by rw [hb]; exact d3
  have d4' : decode c.code (pc + 4) = .ok (.ldc_w is, 3) := by rw [hb]; exact d4
  have hstr' : vk_R own is text sa s' := vk_R.warm hW0 hstr
  obtain ⟨U, hsteps, hrun, hend, hW, hsame, ce, hce, hO⟩ := X₁.ctorThrowS hexec htr (own := own) (cls := cls) (names := names) (ic := ic) hown' hcls hnames h (fun x hx => nomatch hx) hfX hkX hcellA (by rw [hhp, hT]; exact Nat.le_refl _) (msg := .ref sa) rfl
    (g := { method := m, pc := pc + 7, locals := ls, stack := .ref sa :: .ref T.heap.size :: .ref T.heap.size :: rest, locked := none }) rfl hsize rfl rfl (rest := rest) rfl
    (by rw [hb]; exact d7) (by rw [hb]; exact d10) hout hRframes (by simp only [List.map_cons, List.sum_cons, hcat]; omega) hlocks
  obtain ⟨f1, f2⟩ := vx_frame hsame
  rw [hhp] at f1 f2
  have hWs : s.WarmedH U.vm := State.WarmedH.trans hW0 hW
  have hcl : s.vm.findClass cls = some ce.cls := by
    have h9 := hO.cls
    rw [hvm] at h9
    exact h9
  have hall : s.sameButNew ({ U with vm := s.vm } : State) locs mc ms := by
    subst hA
    obtain ⟨e1, e2⟩ := hsame
    rw [State.setFrames_setFrames] at e1
    have h2 : (T.setVm s.vm).sameButNew ({ U with vm := s.vm } : State) [] (0 + 1) (0 + 6) := ⟨e1, e2⟩
    have h3 := X.same.trans h2
    rw [List.append_nil] at h3
    exact h3.mono hc hs
  refine ⟨U, ?_, .threw T.heap.size, hrun, hend, Or.inr ⟨T.heap.size, rfl, cls, ce, locs, hx U hWs.alike f1 (fun q hq => f2 q hq (fun z hz => nomatch hz)), hce, hO.vm, hcl, hWs, hall, hf⟩⟩
  refine st1 _ ?_
  show Steps p.tables e below (T1.setTop { method := m, pc := pc + 3, locals := ls, stack := .ref T.heap.size :: rest, locked := none }) _
  jvm_step X₁.here [X₁.here.top, hexec, d3', Value.category]
  exact X₁.ldcStringW hexec (own := own) (text := text) (index := is) (a := sa) hown' hstr'.1 hstr'.2
    (g := { method := m, pc := pc + 4, locals := ls, stack := .ref T.heap.size :: .ref T.heap.size :: rest, locked := none }) rfl d4' _ hsteps
end Ends
section Bodies
variable {l : Launch}
theorem vx_ofW {y : MethodName} {ws ws' : List Cond} {rm : Room} {Pc : Array Value → State → Prop} {Qc : Array Value → State → Outcome → State → Prop} {XC : String → State → State → Prop} {mc ms : Nat} {free : Addr → Prop} {cc : ByteArray} {maxL : Nat} {ret : Option FieldType}
    (hy : plainName y.cls = true) (hw : ws = Cond.code y cc maxL ret :: ws')
    (body : ∀ p e s m args below meth c s₁, BodyLoose p l y (headSpec ws rm) cc maxL ret e s m args below meth c s₁ → c.maxLocals = maxL → (∀ x ∈ c.exceptionTable.toList, False) → Pc args s →
      W p l e (headSpec ws rm).room s m args below meth c s.heap [] 0 0 (vx_MQ below Qc XC args s mc ms free) (entryFrame m args maxL)) : vx_Met l y ws rm Pc Qc XC mc ms free := by
  refine MetFree.of_bodyS (code := cc) (maxLocals := maxL) (ret := ret) hy ?_ ?_
  · intro args s m h hn
    obtain ⟨meth, c, h1, h2, h3, h4, h5, h6, -, -⟩ := Cond.code_spec hn (atoms_spec (ws := ws) h _ (by rw [hw]; exact List.mem_cons_self))
    exact ⟨meth, c, h1, h2, h3, h4, h5, h6⟩
  · intro p e s m args below meth c s₁ B hml hP _
    have hh0 : s₁.heap = s.heap := by rw [B.state]; rfl
    have ht : ∀ x ∈ c.exceptionTable.toList, False := by
      obtain ⟨meth9, c9, h1, h2, -, -, -, -, h7, -⟩ := Cond.code_spec B.named (atoms_spec (ws := ws) B.pre _ (by rw [hw]; exact List.mem_cons_self))
      cases Option.some.inj (h1.symm.trans B.method)
      cases Option.some.inj (h2.symm.trans (Stand.of_body B).code)
      intro x hx
      rw [Array.isEmpty_iff.mp h7] at hx
      cases hx
    obtain ⟨t, a1, o, b1, b2, b3⟩ := body p e s m args below meth c s₁ B hml ht hP s₁ hh0 (Stand.of_body B)
    exact ⟨t, o, a1, b1, b2, b3⟩
/-- the table of a body with handlers -/
theorem vx_table {p : Program} {x y : MethodName} {S : Spec} {cc bytes : ByteArray} {maxL maxL' : Nat} {ret ret' : Option FieldType} {e : Env} {s s₁ : State} {m : MethodId} {args : Array Value} {below : List Frame} {meth : Method} {c : Code} {hh : List (Nat × Nat × Nat × Nat)}
    (B : BodyLoose p l y S cc maxL ret e s m args below meth c s₁) (h : (Cond.codeWith y bytes maxL' ret' hh).before args s = true) : c.exceptionTable.toList = tableOf hh := by
  obtain ⟨m9, meth9, c9, hn9, h1, h2, -, -, h6, -⟩ := Cond.codeWith_spec h
  cases Option.some.inj (hn9.symm.trans B.named)
  cases Option.some.inj (h1.symm.trans B.method)
  cases Option.some.inj (h2.symm.trans (Stand.of_body B).code)
  rw [← h6, table_eq]
end Bodies
end VXA
/-! ===== END ===== -/
/-! ===== BEGIN a static call of a method with an exception table ===== -/
section VXS
variable {p : Program} {l : Launch} {e : Env} {R : Room} {s : State} {m : MethodId} {args : Array Value} {below : List Frame} {meth : Method} {c : Code} {T : State} {H : Heap} {locs : List Loc} {cells slots : Nat}
abbrev vx_CSW (R : Room) (s : State) (args : Array Value) (own : String) (index : Nat) (y : MethodName) (bytes : ByteArray) (maxL : Nat) (ret : Option FieldType) (hh : List (Nat × Nat × Nat × Nat)) (ws : List Cond) (rm : Room) (mc ms n : Nat) : Prop :=
  (rm.cells = mc ∧ rm.slots = ms ∧ rm.frames + 1 ≤ R.frames ∧ 8 + (maxL + 11) + rm.locals ≤ R.locals ∧ (∀ w ∈ ws, ∀ (a' : Array Value) (U : State), s.WarmedH U.vm → w.before a' U = true) ∧ Cond.codeWith y bytes maxL ret hh ∈ ws) ∧
  (Cond.codeWith y bytes maxL ret hh).before args s = true ∧ (Cond.initialized y.cls).before args s = true ∧ (y.cls ≠ "java/lang/invoke/MethodHandle" ∧ y.cls ≠ "java/lang/invoke/VarHandle") ∧
  (∀ sig, parseMethodDescriptor y.desc = some sig → n = sig.parameters.length) ∧ (Cond.methodLink own index y).before args s = true ∧ (Cond.static y).before args s = true
theorem vx_cwSW {own : String} {index maxL mc ms : Nat} {y : MethodName} {bytes : ByteArray} {ret : Option FieldType} {hh : List (Nat × Nat × Nat × Nat)} {Ts ws ws' : List Cond} {rm : Room} (n : Nat) (ht : ∀ w ∈ Ts, w.before args s = true) (hT : GoodIn Ts (va_wsS own index y ws)) (hw : ws = Cond.codeWith y bytes maxL ret hh :: ws') (hrc : rm.cells = mc) (hrs : rm.slots = ms)
    (hd : y.cls ≠ "java/lang/invoke/MethodHandle" ∧ y.cls ≠ "java/lang/invoke/VarHandle" ∧ (parseMethodDescriptor y.desc).map (fun d => d.parameters.length) = some n) (hR : rm.frames + 1 ≤ R.frames ∧ 8 + (maxL + 11) + rm.locals ≤ R.locals) :
    vx_CSW R s args own index y bytes maxL ret hh ws rm mc ms n := by
  have ok : ∀ w ∈ va_wsS own index y ws, w.before args s = true := fun w h => ht w (hT w h).1
  have hG : GoodIn Ts ws := fun w h => hT w (by unfold va_wsS; exact List.mem_append_right _ h)
  have hc : Cond.codeWith y bytes maxL ret hh ∈ ws := by rw [hw]; exact List.mem_cons_self
  refine ⟨⟨hrc, hrs, hR.1, hR.2, pay_in ht hG, hc⟩, ht _ (hG _ hc).1, ok _ (by simp [va_wsS]), ⟨hd.1, hd.2.1⟩, fun sig h => ?_, ok _ (by simp [va_wsS]), ok _ (by simp [va_wsS])⟩
  have h2 := hd.2.2
  rw [h] at h2
  exact (Option.some.inj h2).symm
theorem vx_callSW (X : Stand p l e R s m args below meth c T locs cells slots) (hexec : p.tables.exec = Jvm.exec) {own : String} {index : Nat} {y : MethodName} {bytes : ByteArray} {maxL : Nat} {ret : Option FieldType} {hh : List (Nat × Nat × Nat × Nat)}
    (hown : s.vm.findClass own = some m.cls) (hlink : (Cond.methodLink own index y).before args s = true) (hstat : (Cond.static y).before args s = true) (hinit : (Cond.initialized y.cls).before args s = true)
    (hcode : (Cond.codeWith y bytes maxL ret hh).before args s = true) (hy : y.cls ≠ "java/lang/invoke/MethodHandle" ∧ y.cls ≠ "java/lang/invoke/VarHandle")
    {W9 : Nat} {Pre : Pt → Array Value → Prop} {Post : Pt → Array Value → Option Value → Pt → Prop} (hK : Back l R p e below s args y 3 W9 Pre Post)
    {g : JFrame} (hg : g.method = m) (hsize : g.locals.size = c.maxLocals) {argsL rest : List Value} (hlen : ∀ sig, parseMethodDescriptor y.desc = some sig → argsL.length = sig.parameters.length)
    (hstack : g.stack = argsL.reverse ++ rest) (hW : 2 * g.monitorRoom + (rest.map fun v => v.category).sum ≤ W9) (hdg : decode c.code g.pc = .ok (.invokestatic index, 3))
    (hpre : ∀ vm₁, s.WarmedH vm₁ → Pre ⟨T.setVm vm₁, locs, cells, slots⟩ argsL.toArray) :
    ∃ (v : Option Value) (vm₁ : Vm) (B : Pt), s.WarmedH vm₁ ∧ Stand p l e R s m args below meth c B.U B.locs B.cells B.slots ∧ Post ⟨T.setVm vm₁, locs, cells, slots⟩ argsL.toArray v B ∧
      ∀ target, Steps p.tables e below (B.U.setTop { g with pc := g.pc + 3, stack := v.toList ++ rest }) target → Steps p.tables e below (T.setTop g) target := by
  obtain ⟨mk, methM, cM, hnamed, hmethM, -, -, -, -, -, -, hsigM⟩ := Cond.codeWith_spec hcode
  have hstatic : methM.isStatic = true := Cond.static_spec hnamed hmethM hstat
  obtain ⟨kP, hkP, -⟩ := className_of_methodNamed hnamed
  have hinitP : kP.init = .initialized := Cond.initialized_spec (findClass_of_methodNamed hnamed) hkP hinit
  obtain ⟨vm₁, X₁, hstep₁⟩ := X.invokestatic hexec hown hlink hnamed hmethM hstatic hkP hinitP hy (g := g) hg (argsL := argsL) (rest := rest) (hlen _ hsigM) hstack hdg
  obtain ⟨v, B, X', hpost, hsteps⟩ := hK m meth c ⟨T.setVm vm₁, locs, cells, slots⟩ { g with stack := rest } (.invokestatic index) mk argsL.toArray X₁ hg hsize hdg hW (X₁.named hnamed) (hpre vm₁ X₁.warmed)
  exact ⟨v, vm₁, B, X₁.warmed, X', hpost, fun target h => hstep₁ _ fun acts => by rw [doInvoke_state]; exact hsteps.trans h⟩
theorem vx_runSW {y : MethodName} {bytes cc : ByteArray} {maxL nL mc ms n index : Nat} {ret : Option FieldType} {hh : List (Nat × Nat × Nat × Nat)} {ws : List Cond} {rm : Room} {Pc : Array Value → State → Prop} {Qc : Array Value → State → Outcome → State → Prop} {free : Addr → Prop} {Ts : List Cond} {own : String} {As rest : List Value} {g : JFrame}
    (S : CallFix p m c cc nL s args Ts own) (hM : Met l y ws rm Pc Qc mc ms free) (cw : vx_CSW R s args own index y bytes maxL ret hh ws rm mc ms n) (hp : PreS s H Pc As)
    (hg : g.method = m) (hn : As.length = n) (hsize : g.locals.size = nL) (hstack : g.stack = As.reverse ++ rest) (hW : 2 * g.monitorRoom + (rest.map fun v => v.category).sum ≤ 8) (hdg : decode cc g.pc = .ok (.invokestatic index, 3)) (hf : cells + mc ≤ R.cells ∧ slots + ms ≤ R.slots) :
    va_Run p l e R s m args below meth c H locs cells slots mc ms g rest (Qc As.toArray) (free) := by
  obtain ⟨⟨hrc, hrs, hfr, hlo, hws, hcw⟩, hcode, hini, hy, hlen, hl, hstt⟩ := cw
  have hK : Back l R p e below s args y 3 8 (PreOf R mc ms Pc) (PostOf Qc mc ms free) := va_backW (hh := hh) (bytes := bytes) (maxL := maxL) (ret := ret) hM hp.1 hrc hrs hfr hlo hws hcw (fun a' U hW => word_at hW (Or.inl (by first | rfl | simp [Cond.onTables, Cond.keeps, Cond.steady])) hini)
  obtain ⟨hx, hb, hml, ho, -⟩ := S
  intro T hT X
  obtain ⟨v, vm₁, ⟨U', l2, c2, s2⟩, hW₁, X', ⟨g', mk, t, L, e1, e2, hq, h1, hL, h2, h3⟩, st⟩ := vx_callSW X hx (hh := hh) (bytes := bytes) (maxL := maxL) (ret := ret) ho hl hstt hini hcode hy hK hg (hsize.trans hml.symm) (argsL := As) (rest := rest) (fun sig h => hn.trans (hlen sig h)) hstack hW (by rw [hb]; exact hdg)
    (fun vm₁ hW₁ => ⟨hf.1, hf.2, hp.2 (T.setVm vm₁) hT hW₁⟩)
  dsimp only [Pt.U, Pt.locs, Pt.cells, Pt.slots] at X' e1 e2 h1 h2 h3 st
  subst h1; subst h2; subst h3
  exact ⟨v, (T.setVm vm₁).calling g' mk As.toArray, t, U', L, hT, X', hL, e1, e2, hq, st⟩
/-- not caught here, past rows that name other classes: it goes on to the caller -/
theorem vx_outP {p : Program} {l : Launch} {e : Env} {R : Room} {s : State} {m : MethodId} {args : Array Value} {below : List Frame} {meth : Method} {c : Code} {H : Heap} {locs : List Loc} {cells slots : Nat} {free : Addr → Prop} {ls : Array Slot} {rest : List Value} {Qc : Array Value → State → Outcome → State → Prop} {XC : String → State → State → Prop}
    {pc : Nat} {own E : String} {ce : Cell} {q : Addr} {mc ms : Nat} (hown : s.vm.findClass own = some m.cls) (hlocks : meth.locks = false)
    (hpass : ∀ z ∈ c.exceptionTable.toList, covers z pc = false ∨ (z.catchType ≠ 0 ∧ ∃ nm : String, (Cond.classLink own z.catchType nm).before args s = true ∧ va_Nc E nm s)) (hcell : H[q]? = some ce) (hv : ce.vm = .none) (hcl : s.vm.findClass E = some ce.cls)
    (hx : ∀ t : State, t.heap = H → s.vm.Alike t.vm → XC E s t) (hf : ∀ z ∈ locs, free z.base) (hc : cells ≤ mc) (hs : slots ≤ ms) :
    vx_W p l e R s m args below meth c H locs cells slots (vx_MQ below Qc XC args s mc ms free) (F0 m pc ls rest) q := by
  intro T hT X
  have hpl : e.platform.magicAccessors = ({} : Platform).magicAccessors := by rw [X.admits.platform]
  obtain ⟨vm', hW', X', st⟩ := X.outThrough hlocks q (g := F0 m pc ls rest) rfl rfl rfl (cell := ce) (by rw [hT]; exact hcell) (by rw [hv]; rfl)
    (by obtain ⟨k9, h9, -⟩ := Vm.findClass_spec hcl; exact ⟨k9, h9⟩) (fun z hz => by
      rcases hpass z hz with h | ⟨hz0, nm, hl1, hn1⟩
      · exact Or.inl h
      · obtain ⟨c6, hc6, hcl6⟩ := Cond.classLink_spec hown hl1 e.platform hpl
        obtain ⟨a8, b8, h1, h2, h3⟩ := hn1
        cases Option.some.inj (h1.symm.trans hcl)
        cases Option.some.inj (h2.symm.trans hc6)
        exact Or.inr ⟨hz0, _, hcl6, h3⟩)
  obtain ⟨g₀, hfr⟩ := X'.frames_eq
  have hcell9 : ((T.setVm vm').setFrames (.throwing q :: below)).heap[q]? = some ce := by
    show T.heap[q]? = some ce
    rw [hT]; exact hcell
  have hend : Ended ((T.setVm vm').setFrames (.throwing q :: below)) below (.threw q) := State.frames_setFrames _ (State.cur_lt_of_frames hfr)
  refine ⟨(T.setVm vm').setFrames (.throwing q :: below), ?_, .threw q, X'.here.running, hend, Or.inr ⟨q, rfl, E, ce, locs, hx _ hT (X'.ends _).1.alike, hcell9, hv, hcl, (X'.ends _).1, (X'.ends _).2.mono hc hs, hf⟩⟩
  rw [X.pushThrowing_eq]
  exact st
/-- a thing of a world lies in the heap -/
theorem vx_lt {D : va_G} {cl : List vw_C} {ws : va_W} {H1 : Heap} (h : va_P D cl ws H1) {k : Nat} {q : Nat × va_E} (hk : ws[k]? = some q) : q.1 < H1.size := (h k q hk).lt
end VXS
/-! ===== END ===== -/
/-! ===== BEGIN methods with a table of their own: called by a name, returning or throwing ===== -/
section VXH
/-! vx_backW, vx_callVX, vx_callSX, vx_callVW, vx_runVW, vx_runVX, vx_runSX, vx_ofWH follow the same proofs as their sisters above (Free/Laws.lean, Shelf42/LK1.lean); vx_outP calls Shelf42/NT130.lean (outThrough). -/
section
variable {l : Launch} {R : Room} {p : Program} {e : Env} {below : List Frame} {s : State} {sargs : Array Value} {y : MethodName} {len W9 : Nat}
theorem vx_backW {ws : List Cond} {rm : Room} {Pc : Array Value → State → Prop} {Qc : Array Value → State → Outcome → State → Prop} {XC : String → State → State → Prop} {mc ms : Nat} {free : Addr → Prop} {bytes : ByteArray} {maxL : Nat} {ret : Option FieldType} {hh : List (Nat × Nat × Nat × Nat)}
    (hM : vx_Met l y ws rm Pc Qc XC mc ms free) (hblind : FrameBlind Pc) (hrc : rm.cells = mc) (hrs : rm.slots = ms)
    (hframes : rm.frames + 1 ≤ R.frames) (hlocals : W9 + (maxL + 11) + rm.locals ≤ R.locals)
    (hws : ∀ w ∈ ws, ∀ a' U, s.WarmedH U.vm → w.before a' U = true) (hcode : Cond.codeWith y bytes maxL ret hh ∈ ws) (hinit : ∀ a' U, s.WarmedH U.vm → (Cond.initialized y.cls).before a' U = true) :
    vx_Back l R p e below s sargs y len W9 (PreOf R mc ms Pc) (PostOf Qc mc ms free) (vx_Post XC mc ms free) := by
  intro m meth c A g ig mk a X hg hsize hdg hW hn hp
  have h1 : (headSpec ws rm).pre.before a A.U = true := atoms_intro fun w hw => hws w hw _ _ X.warmed
  have h2 : (Cond.codeWith y bytes maxL ret hh).before a A.U = true := hws _ hcode _ _ X.warmed
  have h3 : (Cond.initialized y.cls).before a A.U = true := hinit _ _ X.warmed
  have h4 : A.cells + (headSpec ws rm).room.cells ≤ R.cells := by rw [show (headSpec ws rm).room.cells = mc from hrc]; exact hp.1
  have h5 : A.slots + (headSpec ws rm).room.slots ≤ R.slots := by rw [show (headSpec ws rm).room.slots = ms from hrs]; exact hp.2.1
  have hPc : Pc a (A.U.calling g mk a) := hblind _ _ _ _ hp.2.2
  obtain ⟨U, Ls, c0, s0⟩ := A
  dsimp only [Pt.U, Pt.locs, Pt.cells, Pt.slots] at h1 h2 h3 h4 h5 X hn hPc ⊢
  obtain ⟨m9, methY, cY, hn9, hmY, hcY, -, hlY, -⟩ := Cond.codeWith_spec h2
  cases Option.some.inj (hn9.symm.trans hn)
  obtain ⟨kY, hkY, -⟩ := className_of_methodNamed hn
  have hinitY : kY.init = .initialized := Cond.initialized_spec (findClass_of_methodNamed hn) hkY h3
  have h : At U g.method c below := by rw [hg]; exact X.here
  have hlocals9 : W9 + (maxL + 11) + (headSpec ws rm).room.locals ≤ R.locals := hlocals
  have happ : (headSpec ws rm).appliesLoose y e.platform (U.calling g mk a) = true :=
    Spec.appliesLoose_calling (g := g) h hdg hn hkY hinitY
      (X.room_calling (g := g) (R' := (headSpec ws rm).room) hsize hmY hcY hframes (by rw [hlY]; omega) h4 h5) h1
  obtain ⟨mid, hmid⟩ := h.above
  have hfr : (U.setTop g).frames = (.java g :: mid) ++ below := by rw [State.frames_setTop' g h.top, hmid]; rfl
  obtain ⟨o, s₂, hsteps, -, hend, hq⟩ := Steps.callFree hM p X.admits X.cas X.clock (acts := []) hfr happ hPc trivial
  have hq' : vx_Q Qc XC mc ms free a (U.calling g mk a) o s₂ := hq
  rw [State.frames_setTop' g h.top] at hend
  obtain ⟨g₀, hg0⟩ := Option.isSome_iff_exists.mp h.top
  obtain ⟨r, hr⟩ := State.topJava?_eq_some.mp hg0
  have hr' : (({ U with heap := s₂.heap, slotsUsed := s₂.slotsUsed } : State).setVm s₂.vm).frames = .java g₀ :: r := hr
  rcases hq' with ⟨hqc, L, hfe, hL⟩ | ⟨q, rfl, E, ce, L, hx, hce, hcv, hcl, hW₂, hsm, hL⟩
  · obtain ⟨⟨v, rfl⟩, hW₂, e2, q2, q3, q4, q5, q6⟩ := id hfe
    have e3 : s₂ = ({ (U.calling g mk a).setFrames s₂.frames with heap := s₂.heap, slotsUsed := s₂.slotsUsed } : State).setVm s₂.vm := by
      have : s₂ = ({ s₂ with vm := (U.calling g mk a).vm } : State).setVm s₂.vm := rfl
      rw [e2] at this
      exact this
    obtain ⟨c₂, i₂, len₂, hc₂, hd₂, hf₂⟩ := hend
    have hW' : U.WarmedH s₂.vm := hW₂
    have hcc : c₂ = c := by
      have h1 : s₂.code? g.method = U.code? g.method := by
        rw [State.code?_eq, State.code?_eq, hW'.alike.method?]
      exact Option.some.inj (hc₂.symm.trans (h1.trans h.code))
    subst hcc
    have hlen : len₂ = len := by rw [hdg] at hd₂; cases hd₂; rfl
    subst hlen
    have hs₂ : s₂ = (({ U with heap := s₂.heap, slotsUsed := s₂.slotsUsed } : State).setVm s₂.vm).setTop { g with pc := g.pc + len₂, stack := v.toList ++ g.stack } := by
      refine e3.trans ?_
      rw [hf₂, State.calling_eq h.top, State.setFrames_setFrames, State.setTop_of_frames _ hr', hr]
      rfl
    have hsame : U.sameButNew ({ U with heap := s₂.heap, slotsUsed := s₂.slotsUsed } : State) L mc ms := by
      refine ⟨?_, q2, q3, q4, q5, q6⟩
      obtain ⟨t, ht, -⟩ := State.frames_cons hr
      show ({ U with heap := s₂.heap, slotsUsed := s₂.slotsUsed } : State) = { U.setFrames U.frames with heap := s₂.heap, slotsUsed := s₂.slotsUsed }
      rw [State.setFrames_self ht]
    subst hg
    refine Or.inl ⟨v, ⟨(({ U with heap := s₂.heap, slotsUsed := s₂.slotsUsed } : State).setVm s₂.vm), Ls ++ L, c0 + mc, s0 + ms⟩,
      ⟨X.admits, X.cas, X.clock, X.frames, X.room, X.hears, X.method, X.code, (X.here.setHeapUsed s₂.heap s₂.slotsUsed).setVm hW'.alike, X.tail, State.WarmedH.trans X.warmed hW', X.limits, X.bytes, X.same.trans (hsame.setVm s.vm)⟩,
      ⟨g, mk, s₂, L, rfl, rfl, hqc, rfl, hL, rfl, rfl⟩, ?_⟩
    show Steps p.tables e below _ ((({ U with heap := s₂.heap, slotsUsed := s₂.slotsUsed } : State).setVm s₂.vm).setTop { g with pc := g.pc + len₂, stack := v.toList ++ g.stack })
    rw [← hs₂]
    exact hsteps
  · obtain ⟨e2, q2, q3, q4, q5, q6⟩ := id hsm
    have e3 : s₂ = ({ (U.calling g mk a).setFrames s₂.frames with heap := s₂.heap, slotsUsed := s₂.slotsUsed } : State).setVm s₂.vm := by
      have : s₂ = ({ s₂ with vm := (U.calling g mk a).vm } : State).setVm s₂.vm := rfl
      rw [e2] at this
      exact this
    have hf₂ : s₂.frames = .throwing q :: .java g :: U.frames.tail := hend
    have hW' : U.WarmedH s₂.vm := hW₂
    have hs₂ : s₂ = ((({ U with heap := s₂.heap, slotsUsed := s₂.slotsUsed } : State).setVm s₂.vm).setTop g).pushFrame (.throwing q) := by
      refine e3.trans ?_
      rw [hf₂, State.calling_eq h.top, State.setFrames_setFrames, State.pushFrame, State.frames_setTop _ hr', State.setTop_of_frames _ hr', State.setFrames_setFrames, hr]
      rfl
    have hsame : U.sameButNew ({ U with heap := s₂.heap, slotsUsed := s₂.slotsUsed } : State) L mc ms := by
      refine ⟨?_, q2, q3, q4, q5, q6⟩
      obtain ⟨t, ht, -⟩ := State.frames_cons hr
      show ({ U with heap := s₂.heap, slotsUsed := s₂.slotsUsed } : State) = { U.setFrames U.frames with heap := s₂.heap, slotsUsed := s₂.slotsUsed }
      rw [State.setFrames_self ht]
    subst hg
    refine Or.inr ⟨q, ⟨(({ U with heap := s₂.heap, slotsUsed := s₂.slotsUsed } : State).setVm s₂.vm), Ls ++ L, c0 + mc, s0 + ms⟩,
      ⟨X.admits, X.cas, X.clock, X.frames, X.room, X.hears, X.method, X.code, (X.here.setHeapUsed s₂.heap s₂.slotsUsed).setVm hW'.alike, X.tail, State.WarmedH.trans X.warmed hW', X.limits, X.bytes, X.same.trans (hsame.setVm s.vm)⟩,
      ⟨g, mk, s₂, L, E, ce, rfl, rfl, hx, hce, hcv, hcl, rfl, hL, rfl, rfl⟩, ?_⟩
    show Steps p.tables e below _ (((({ U with heap := s₂.heap, slotsUsed := s₂.slotsUsed } : State).setVm s₂.vm).setTop g).pushFrame (.throwing q))
    rw [← hs₂]
    exact hsteps
end
variable {p : Program} {l : Launch} {e : Env} {R : Room} {s : State} {m : MethodId} {args : Array Value} {below : List Frame} {meth : Method} {c : Code} {T : State} {H : Heap} {locs : List Loc} {cells slots : Nat}
theorem vx_callVX (X : Stand p l e R s m args below meth c T locs cells slots) (hexec : p.tables.exec = Jvm.exec) {own C : String} {index : Nat} {y : MethodName} {bytes : ByteArray} {maxL : Nat} {ret : Option FieldType} {hh : List (Nat × Nat × Nat × Nat)}
    (hown : s.vm.findClass own = some m.cls) (hlink : (Cond.methodLink own index y).before args s = true) (hinst : (Cond.instanceMethod y).before args s = true) (hsel : (Cond.selects C y y).before args s = true)
    (hcode : (Cond.codeWith y bytes maxL ret hh).before args s = true) (hy : y.cls ≠ "java/lang/invoke/MethodHandle" ∧ y.cls ≠ "java/lang/invoke/VarHandle")
    {W9 : Nat} {Pre : Pt → Array Value → Prop} {Post : Pt → Array Value → Option Value → Pt → Prop} {PostX : Pt → Array Value → Addr → Pt → Prop} (hK : vx_Back l R p e below s args y 3 W9 Pre Post PostX)
    {b : Addr} {cellB : Cell} (hcell : T.heap[b]? = some cellB) (hobj : cellB.vm.isStatics = false) (hcls : s.vm.findClass C = some cellB.cls)
    {g : JFrame} (hg : g.method = m) (hsize : g.locals.size = c.maxLocals) {argsL rest : List Value} (hlen : ∀ sig, parseMethodDescriptor y.desc = some sig → argsL.length = sig.parameters.length)
    (hstack : g.stack = argsL.reverse ++ .ref b :: rest) (hW : 2 * g.monitorRoom + (rest.map fun v => v.category).sum ≤ W9) (hdg : decode c.code g.pc = .ok (.invokevirtual index, 3))
    (hpre : ∀ vm₁, s.WarmedH vm₁ → Pre ⟨T.setVm vm₁, locs, cells, slots⟩ (Value.ref b :: argsL).toArray) :
    (∃ (v : Option Value) (vm₁ : Vm) (B : Pt), s.WarmedH vm₁ ∧ Stand p l e R s m args below meth c B.U B.locs B.cells B.slots ∧ Post ⟨T.setVm vm₁, locs, cells, slots⟩ (Value.ref b :: argsL).toArray v B ∧
      ∀ target, Steps p.tables e below (B.U.setTop { g with pc := g.pc + 3, stack := v.toList ++ rest }) target → Steps p.tables e below (T.setTop g) target) ∨
    (∃ (q : Addr) (vm₁ : Vm) (B : Pt), s.WarmedH vm₁ ∧ Stand p l e R s m args below meth c B.U B.locs B.cells B.slots ∧ PostX ⟨T.setVm vm₁, locs, cells, slots⟩ (Value.ref b :: argsL).toArray q B ∧
      Steps p.tables e below (T.setTop g) ((B.U.setTop { g with stack := rest }).pushFrame (.throwing q))) := by
  obtain ⟨mk, methM, hnamed, hmethM, hstM, habM⟩ := Cond.instanceMethod_spec hinst
  obtain ⟨m8, methM', cM, hn8, hmethM', -, -, -, -, -, -, hsigM⟩ := Cond.codeWith_spec hcode
  cases Option.some.inj (hn8.symm.trans hnamed)
  cases hmethM.symm.trans hmethM'
  obtain ⟨c2, r2, m2, q1, q2, q3, q4, kP, hkP, hkPi⟩ := Cond.selects_spec hsel
  cases hcls.symm.trans q1
  cases (State.methodFound?_of_named hnamed hy).symm.trans q2
  cases hnamed.symm.trans q3
  have hselP : selectMethod e.platform s.vm cellB.cls mk = .method mk := by rw [Launch.admits_selectMethod X.admits]; exact q4
  obtain ⟨vm₁, X₁, hstep₁⟩ := X.invokevirtual hexec hown hlink hnamed hmethM hstM hkP hkPi hy (a := b) (cell := cellB) hcell
    (fun z h => by rw [h] at hobj; cases hobj) hselP hmethM habM hkP hkPi (g := g) hg (argsL := argsL) (rest := rest) (hlen _ hsigM) hstack hdg
  rcases hK m meth c ⟨T.setVm vm₁, locs, cells, slots⟩ { g with stack := rest } (.invokevirtual index) mk (Value.ref b :: argsL).toArray X₁ hg hsize hdg hW (X₁.named hnamed) (hpre vm₁ X₁.warmed) with ⟨v, B, X', hpost, hsteps⟩ | ⟨q, B, X', hpost, hsteps⟩
  · exact Or.inl ⟨v, vm₁, B, X₁.warmed, X', hpost, fun target h => hstep₁ _ fun acts => by rw [doInvoke_state]; exact hsteps.trans h⟩
  · exact Or.inr ⟨q, vm₁, B, X₁.warmed, X', hpost, hstep₁ _ fun acts => by rw [doInvoke_state]; exact hsteps⟩
theorem vx_callSX (X : Stand p l e R s m args below meth c T locs cells slots) (hexec : p.tables.exec = Jvm.exec) {own : String} {index : Nat} {y : MethodName} {bytes : ByteArray} {maxL : Nat} {ret : Option FieldType} {hh : List (Nat × Nat × Nat × Nat)}
    (hown : s.vm.findClass own = some m.cls) (hlink : (Cond.methodLink own index y).before args s = true) (hstat : (Cond.static y).before args s = true) (hinit : (Cond.initialized y.cls).before args s = true)
    (hcode : (Cond.codeWith y bytes maxL ret hh).before args s = true) (hy : y.cls ≠ "java/lang/invoke/MethodHandle" ∧ y.cls ≠ "java/lang/invoke/VarHandle")
    {W9 : Nat} {Pre : Pt → Array Value → Prop} {Post : Pt → Array Value → Option Value → Pt → Prop} {PostX : Pt → Array Value → Addr → Pt → Prop} (hK : vx_Back l R p e below s args y 3 W9 Pre Post PostX)
    {g : JFrame} (hg : g.method = m) (hsize : g.locals.size = c.maxLocals) {argsL rest : List Value} (hlen : ∀ sig, parseMethodDescriptor y.desc = some sig → argsL.length = sig.parameters.length)
    (hstack : g.stack = argsL.reverse ++ rest) (hW : 2 * g.monitorRoom + (rest.map fun v => v.category).sum ≤ W9) (hdg : decode c.code g.pc = .ok (.invokestatic index, 3))
    (hpre : ∀ vm₁, s.WarmedH vm₁ → Pre ⟨T.setVm vm₁, locs, cells, slots⟩ argsL.toArray) :
    (∃ (v : Option Value) (vm₁ : Vm) (B : Pt), s.WarmedH vm₁ ∧ Stand p l e R s m args below meth c B.U B.locs B.cells B.slots ∧ Post ⟨T.setVm vm₁, locs, cells, slots⟩ argsL.toArray v B ∧
      ∀ target, Steps p.tables e below (B.U.setTop { g with pc := g.pc + 3, stack := v.toList ++ rest }) target → Steps p.tables e below (T.setTop g) target) ∨
    (∃ (q : Addr) (vm₁ : Vm) (B : Pt), s.WarmedH vm₁ ∧ Stand p l e R s m args below meth c B.U B.locs B.cells B.slots ∧ PostX ⟨T.setVm vm₁, locs, cells, slots⟩ argsL.toArray q B ∧
      Steps p.tables e below (T.setTop g) ((B.U.setTop { g with stack := rest }).pushFrame (.throwing q))) := by
  obtain ⟨mk, methM, cM, hnamed, hmethM, -, -, -, -, -, -, hsigM⟩ := Cond.codeWith_spec hcode
  have hstatic : methM.isStatic = true := Cond.static_spec hnamed hmethM hstat
  obtain ⟨kP, hkP, -⟩ := className_of_methodNamed hnamed
  have hinitP : kP.init = .initialized := Cond.initialized_spec (findClass_of_methodNamed hnamed) hkP hinit
  obtain ⟨vm₁, X₁, hstep₁⟩ := X.invokestatic hexec hown hlink hnamed hmethM hstatic hkP hinitP hy (g := g) hg (argsL := argsL) (rest := rest) (hlen _ hsigM) hstack hdg
  rcases hK m meth c ⟨T.setVm vm₁, locs, cells, slots⟩ { g with stack := rest } (.invokestatic index) mk argsL.toArray X₁ hg hsize hdg hW (X₁.named hnamed) (hpre vm₁ X₁.warmed) with ⟨v, B, X', hpost, hsteps⟩ | ⟨q, B, X', hpost, hsteps⟩
  · exact Or.inl ⟨v, vm₁, B, X₁.warmed, X', hpost, fun target h => hstep₁ _ fun acts => by rw [doInvoke_state]; exact hsteps.trans h⟩
  · exact Or.inr ⟨q, vm₁, B, X₁.warmed, X', hpost, hstep₁ _ fun acts => by rw [doInvoke_state]; exact hsteps⟩
theorem vx_callVW (X : Stand p l e R s m args below meth c T locs cells slots) (hexec : p.tables.exec = Jvm.exec) {own C : String} {index : Nat} {y : MethodName} {bytes : ByteArray} {maxL : Nat} {ret : Option FieldType} {hh : List (Nat × Nat × Nat × Nat)}
    (hown : s.vm.findClass own = some m.cls) (hlink : (Cond.methodLink own index y).before args s = true) (hinst : (Cond.instanceMethod y).before args s = true) (hsel : (Cond.selects C y y).before args s = true)
    (hcode : (Cond.codeWith y bytes maxL ret hh).before args s = true) (hy : y.cls ≠ "java/lang/invoke/MethodHandle" ∧ y.cls ≠ "java/lang/invoke/VarHandle")
    {W9 : Nat} {Pre : Pt → Array Value → Prop} {Post : Pt → Array Value → Option Value → Pt → Prop} (hK : Back l R p e below s args y 3 W9 Pre Post)
    {b : Addr} {cellB : Cell} (hcell : T.heap[b]? = some cellB) (hobj : cellB.vm.isStatics = false) (hcls : s.vm.findClass C = some cellB.cls)
    {g : JFrame} (hg : g.method = m) (hsize : g.locals.size = c.maxLocals) {argsL rest : List Value} (hlen : ∀ sig, parseMethodDescriptor y.desc = some sig → argsL.length = sig.parameters.length)
    (hstack : g.stack = argsL.reverse ++ .ref b :: rest) (hW : 2 * g.monitorRoom + (rest.map fun v => v.category).sum ≤ W9) (hdg : decode c.code g.pc = .ok (.invokevirtual index, 3))
    (hpre : ∀ vm₁, s.WarmedH vm₁ → Pre ⟨T.setVm vm₁, locs, cells, slots⟩ (Value.ref b :: argsL).toArray) :
    ∃ (v : Option Value) (vm₁ : Vm) (B : Pt), s.WarmedH vm₁ ∧ Stand p l e R s m args below meth c B.U B.locs B.cells B.slots ∧ Post ⟨T.setVm vm₁, locs, cells, slots⟩ (Value.ref b :: argsL).toArray v B ∧
      ∀ target, Steps p.tables e below (B.U.setTop { g with pc := g.pc + 3, stack := v.toList ++ rest }) target → Steps p.tables e below (T.setTop g) target := by
  obtain ⟨mk, methM, hnamed, hmethM, hstM, habM⟩ := Cond.instanceMethod_spec hinst
  obtain ⟨m8, methM', cM, hn8, hmethM', -, -, -, -, -, -, hsigM⟩ := Cond.codeWith_spec hcode
  cases Option.some.inj (hn8.symm.trans hnamed)
  cases hmethM.symm.trans hmethM'
  obtain ⟨c2, r2, m2, q1, q2, q3, q4, kP, hkP, hkPi⟩ := Cond.selects_spec hsel
  cases hcls.symm.trans q1
  cases (State.methodFound?_of_named hnamed hy).symm.trans q2
  cases hnamed.symm.trans q3
  have hselP : selectMethod e.platform s.vm cellB.cls mk = .method mk := by rw [Launch.admits_selectMethod X.admits]; exact q4
  obtain ⟨vm₁, X₁, hstep₁⟩ := X.invokevirtual hexec hown hlink hnamed hmethM hstM hkP hkPi hy (a := b) (cell := cellB) hcell
    (fun z h => by rw [h] at hobj; cases hobj) hselP hmethM habM hkP hkPi (g := g) hg (argsL := argsL) (rest := rest) (hlen _ hsigM) hstack hdg
  obtain ⟨v, B, X', hpost, hsteps⟩ := hK m meth c ⟨T.setVm vm₁, locs, cells, slots⟩ { g with stack := rest } (.invokevirtual index) mk (Value.ref b :: argsL).toArray X₁ hg hsize hdg hW (X₁.named hnamed) (hpre vm₁ X₁.warmed)
  exact ⟨v, vm₁, B, X₁.warmed, X', hpost, fun target h => hstep₁ _ fun acts => by rw [doInvoke_state]; exact hsteps.trans h⟩
abbrev vx_CVW (R : Room) (s : State) (args : Array Value) (own C : String) (index : Nat) (y : MethodName) (bytes : ByteArray) (maxL : Nat) (ret : Option FieldType) (hh : List (Nat × Nat × Nat × Nat)) (ws : List Cond) (rm : Room) (mc ms n : Nat) : Prop :=
  (rm.cells = mc ∧ rm.slots = ms ∧ rm.frames + 1 ≤ R.frames ∧ 8 + (maxL + 11) + rm.locals ≤ R.locals ∧ (∀ w ∈ ws, ∀ (a' : Array Value) (U : State), s.WarmedH U.vm → w.before a' U = true) ∧ Cond.codeWith y bytes maxL ret hh ∈ ws) ∧
  (Cond.codeWith y bytes maxL ret hh).before args s = true ∧ (Cond.initialized y.cls).before args s = true ∧ (y.cls ≠ "java/lang/invoke/MethodHandle" ∧ y.cls ≠ "java/lang/invoke/VarHandle") ∧
  (∀ sig, parseMethodDescriptor y.desc = some sig → n = sig.parameters.length) ∧ (Cond.methodLink own index y).before args s = true ∧ (Cond.instanceMethod y).before args s = true ∧ (Cond.selects C y y).before args s = true
theorem vx_cwVW {own C : String} {index maxL mc ms : Nat} {y : MethodName} {bytes : ByteArray} {ret : Option FieldType} {hh : List (Nat × Nat × Nat × Nat)} {Ts ws ws' : List Cond} {rm : Room} (n : Nat) (ht : ∀ w ∈ Ts, w.before args s = true) (hT : GoodIn Ts (wsV own index C y ws)) (hw : ws = Cond.codeWith y bytes maxL ret hh :: ws') (hrc : rm.cells = mc) (hrs : rm.slots = ms)
    (hd : y.cls = C ∧ y.cls ≠ "java/lang/invoke/MethodHandle" ∧ y.cls ≠ "java/lang/invoke/VarHandle" ∧ (parseMethodDescriptor y.desc).map (fun d => d.parameters.length) = some n) (hR : rm.frames + 1 ≤ R.frames ∧ 8 + (maxL + 11) + rm.locals ≤ R.locals) :
    vx_CVW R s args own C index y bytes maxL ret hh ws rm mc ms n := by
  obtain ⟨hC, hd⟩ := hd
  subst hC
  have ok : ∀ w ∈ wsV own index y.cls y ws, w.before args s = true := fun w h => ht w (hT w h).1
  have hG : GoodIn Ts ws := fun w h => hT w (by unfold wsV; exact List.mem_append_right _ h)
  have hc : Cond.codeWith y bytes maxL ret hh ∈ ws := by rw [hw]; exact List.mem_cons_self
  refine ⟨⟨hrc, hrs, hR.1, hR.2, pay_in ht hG, hc⟩, ht _ (hG _ hc).1, ok _ (by simp [wsV]), ⟨hd.1, hd.2.1⟩, fun sig h => ?_, ok _ (by simp [wsV]), ok _ (by simp [wsV]), ok _ (by simp [wsV])⟩
  have h2 := hd.2.2
  rw [h] at h2
  exact (Option.some.inj h2).symm
theorem vx_runVW {y : MethodName} {bytes cc : ByteArray} {maxL nL mc ms n index : Nat} {ret : Option FieldType} {hh : List (Nat × Nat × Nat × Nat)} {ws : List Cond} {rm : Room} {Pc : Array Value → State → Prop} {Qc : Array Value → State → Outcome → State → Prop} {free : Addr → Prop} {Ts : List Cond} {own C : String} {b : Addr} {As rest : List Value} {g : JFrame}
    (S : CallFix p m c cc nL s args Ts own) (hM : Met l y ws rm Pc Qc mc ms free) (cw : vx_CVW R s args own C index y bytes maxL ret hh ws rm mc ms n) (hp : PreV s H C b Pc As)
    (hg : g.method = m) (hn : As.length = n) (hsize : g.locals.size = nL) (hstack : g.stack = As.reverse ++ .ref b :: rest) (hW : 2 * g.monitorRoom + (rest.map fun v => v.category).sum ≤ 8) (hdg : decode cc g.pc = .ok (.invokevirtual index, 3)) (hf : cells + mc ≤ R.cells ∧ slots + ms ≤ R.slots) :
    va_Run p l e R s m args below meth c H locs cells slots mc ms g rest (Qc (Value.ref b :: As).toArray) free := by
  obtain ⟨⟨hrc, hrs, hfr, hlo, hws, hcw⟩, hcode, hini, hy, hlen, hl, hin, hse⟩ := cw
  have hK : Back l R p e below s args y 3 8 (PreOf R mc ms Pc) (PostOf Qc mc ms free) := va_backW (hh := hh) (bytes := bytes) (maxL := maxL) (ret := ret) hM hp.1 hrc hrs hfr hlo hws hcw (fun a' U hW => word_at hW (Or.inl (by first | rfl | simp [Cond.onTables, Cond.keeps, Cond.steady])) hini)
  obtain ⟨hx, hb, hml, ho, -⟩ := S
  obtain ⟨-, ⟨cellB, hcB, hoB, hclB⟩, hPc⟩ := hp
  intro T hT X
  obtain ⟨v, vm₁, ⟨U', l2, c2, s2⟩, hW₁, X', ⟨g', mk, t, L, e1, e2, hq, h1, hL, h2, h3⟩, st⟩ := vx_callVW X hx (C := C) (hh := hh) (bytes := bytes) (maxL := maxL) (ret := ret) ho hl hin hse hcode hy hK (by rw [hT]; exact hcB) hoB hclB hg (hsize.trans hml.symm) (argsL := As) (rest := rest) (fun sig h => hn.trans (hlen sig h)) hstack hW (by rw [hb]; exact hdg)
    (fun vm₁ hW₁ => ⟨hf.1, hf.2, hPc (T.setVm vm₁) hT hW₁⟩)
  dsimp only [Pt.U, Pt.locs, Pt.cells, Pt.slots] at X' e1 e2 h1 h2 h3 st
  subst h1; subst h2; subst h3
  exact ⟨v, (T.setVm vm₁).calling g' mk (Value.ref b :: As).toArray, t, U', L, hT, X', hL, e1, e2, hq, st⟩
section
variable {y : MethodName} {bytes cc : ByteArray} {maxL nL mc ms n index : Nat} {ret : Option FieldType} {ws : List Cond} {rm : Room} {Pc : Array Value → State → Prop} {Qc : Array Value → State → Outcome → State → Prop} {XC : String → State → State → Prop} {free : Addr → Prop} {Ts : List Cond} {own C : String} {b : Addr} {As rest : List Value} {g : JFrame}
theorem vx_runVX {hh : List (Nat × Nat × Nat × Nat)} (S : CallFix p m c cc nL s args Ts own) (hM : vx_Met l y ws rm Pc Qc XC mc ms free) (cw : vx_CVW R s args own C index y bytes maxL ret hh ws rm mc ms n) (hp : PreV s H C b Pc As)
    (hg : g.method = m) (hn : As.length = n) (hsize : g.locals.size = nL) (hstack : g.stack = As.reverse ++ .ref b :: rest) (hW : 2 * g.monitorRoom + (rest.map fun v => v.category).sum ≤ 8) (hdg : decode cc g.pc = .ok (.invokevirtual index, 3)) (hf : cells + mc ≤ R.cells ∧ slots + ms ≤ R.slots) :
    vx_Run p l e R s m args below meth c H locs cells slots mc ms g rest (Qc (Value.ref b :: As).toArray) XC free := by
  obtain ⟨⟨hrc, hrs, hfr, hlo, hws, hcw⟩, hcode, hini, hy, hlen, hl, hin, hse⟩ := cw
  have hK : vx_Back l R p e below s args y 3 8 (PreOf R mc ms Pc) (PostOf Qc mc ms free) (vx_Post XC mc ms free) := vx_backW (hh := hh) (bytes := bytes) (maxL := maxL) (ret := ret) hM hp.1 hrc hrs hfr hlo hws hcw (fun a' U hW => word_at hW (Or.inl (by first | rfl | simp [Cond.onTables, Cond.keeps, Cond.steady])) hini)
  obtain ⟨hx, hb, hml, ho, -⟩ := S
  obtain ⟨-, ⟨cellB, hcB, hoB, hclB⟩, hPc⟩ := hp
  intro T hT X
  rcases vx_callVX X hx (C := C) (hh := hh) (bytes := bytes) (maxL := maxL) (ret := ret) ho hl hin hse hcode hy hK (by rw [hT]; exact hcB) hoB hclB hg (hsize.trans hml.symm) (argsL := As) (rest := rest) (fun sig h => hn.trans (hlen sig h)) hstack hW (by rw [hb]; exact hdg)
    (fun vm₁ hW₁ => ⟨hf.1, hf.2, hPc (T.setVm vm₁) hT hW₁⟩) with ⟨v, vm₁, ⟨U', l2, c2, s2⟩, hW₁, X', ⟨g', mk, t, L, e1, e2, hq, h1, hL, h2, h3⟩, st⟩ | ⟨q, vm₁, ⟨U', l2, c2, s2⟩, hW₁, X', ⟨g', mk, t, L, E, ce, e1, e2, hq, hce, hcv, hcl, h1, hL, h2, h3⟩, st⟩
  · dsimp only [Pt.U, Pt.locs, Pt.cells, Pt.slots] at X' e1 e2 h1 h2 h3 st
    subst h1; subst h2; subst h3
    exact Or.inl ⟨v, (T.setVm vm₁).calling g' mk (Value.ref b :: As).toArray, t, U', L, hT, X', hL, e1, e2, hq, st⟩
  · dsimp only [Pt.U, Pt.locs, Pt.cells, Pt.slots] at X' e1 e2 h1 h2 h3 st hcl
    subst h1; subst h2; subst h3
    exact Or.inr ⟨q, (T.setVm vm₁).calling g' mk (Value.ref b :: As).toArray, t, U', L, E, ce, hT, X', hL, e1, e2, hq, hce, hcv, vx_cls hW₁ hcl, st⟩
theorem vx_runSX {hh : List (Nat × Nat × Nat × Nat)} (S : CallFix p m c cc nL s args Ts own) (hM : vx_Met l y ws rm Pc Qc XC mc ms free) (cw : vx_CSW R s args own index y bytes maxL ret hh ws rm mc ms n) (hp : PreS s H Pc As)
    (hg : g.method = m) (hn : As.length = n) (hsize : g.locals.size = nL) (hstack : g.stack = As.reverse ++ rest) (hW : 2 * g.monitorRoom + (rest.map fun v => v.category).sum ≤ 8) (hdg : decode cc g.pc = .ok (.invokestatic index, 3)) (hf : cells + mc ≤ R.cells ∧ slots + ms ≤ R.slots) :
    vx_Run p l e R s m args below meth c H locs cells slots mc ms g rest (Qc As.toArray) XC free := by
  obtain ⟨⟨hrc, hrs, hfr, hlo, hws, hcw⟩, hcode, hini, hy, hlen, hl, hstt⟩ := cw
  have hK : vx_Back l R p e below s args y 3 8 (PreOf R mc ms Pc) (PostOf Qc mc ms free) (vx_Post XC mc ms free) := vx_backW (hh := hh) (bytes := bytes) (maxL := maxL) (ret := ret) hM hp.1 hrc hrs hfr hlo hws hcw (fun a' U hW => word_at hW (Or.inl (by first | rfl | simp [Cond.onTables, Cond.keeps, Cond.steady])) hini)
  obtain ⟨hx, hb, hml, ho, -⟩ := S
  intro T hT X
  rcases vx_callSX X hx (hh := hh) (bytes := bytes) (maxL := maxL) (ret := ret) ho hl hstt hini hcode hy hK hg (hsize.trans hml.symm) (argsL := As) (rest := rest) (fun sig h => hn.trans (hlen sig h)) hstack hW (by rw [hb]; exact hdg)
    (fun vm₁ hW₁ => ⟨hf.1, hf.2, hp.2 (T.setVm vm₁) hT hW₁⟩) with ⟨v, vm₁, ⟨U', l2, c2, s2⟩, hW₁, X', ⟨g', mk, t, L, e1, e2, hq, h1, hL, h2, h3⟩, st⟩ | ⟨q, vm₁, ⟨U', l2, c2, s2⟩, hW₁, X', ⟨g', mk, t, L, E, ce, e1, e2, hq, hce, hcv, hcl, h1, hL, h2, h3⟩, st⟩
  · dsimp only [Pt.U, Pt.locs, Pt.cells, Pt.slots] at X' e1 e2 h1 h2 h3 st
    subst h1; subst h2; subst h3
    exact Or.inl ⟨v, (T.setVm vm₁).calling g' mk As.toArray, t, U', L, hT, X', hL, e1, e2, hq, st⟩
  · dsimp only [Pt.U, Pt.locs, Pt.cells, Pt.slots] at X' e1 e2 h1 h2 h3 st hcl
    subst h1; subst h2; subst h3
    exact Or.inr ⟨q, (T.setVm vm₁).calling g' mk As.toArray, t, U', L, E, ce, hT, X', hL, e1, e2, hq, hce, hcv, vx_cls hW₁ hcl, st⟩
end
end VXH
theorem vx_ofWH {l : Launch} {y : MethodName} {ws ws' : List Cond} {rm : Room} {Pc : Array Value → State → Prop} {Qc : Array Value → State → Outcome → State → Prop} {XC : String → State → State → Prop} {mc ms : Nat} {free : Addr → Prop} {cc : ByteArray} {maxL : Nat} {ret : Option FieldType} {hh : List (Nat × Nat × Nat × Nat)}
    (hy : plainName y.cls = true) (hw : ws = Cond.codeWith y cc maxL ret hh :: ws')
    (body : ∀ p e s m args below meth c s₁, BodyLoose p l y (headSpec ws rm) cc maxL ret e s m args below meth c s₁ → c.maxLocals = maxL → Pc args s →
      W p l e (headSpec ws rm).room s m args below meth c s.heap [] 0 0 (vx_MQ below Qc XC args s mc ms free) (entryFrame m args maxL)) : vx_Met l y ws rm Pc Qc XC mc ms free := by
  refine MetFree.of_bodyS (code := cc) (maxLocals := maxL) (ret := ret) hy ?_ ?_
  · intro args s m h hn
    obtain ⟨m9, meth, c, hn9, h1, h2, h3, h4, -, h5, h6, -⟩ := Cond.codeWith_spec (atoms_spec (ws := ws) h _ (by rw [hw]; exact List.mem_cons_self))
    cases hn.symm.trans hn9
    exact ⟨meth, c, h1, h2, h3, h4, h5, h6⟩
  · intro p e s m args below meth c s₁ B hml hP _
    have hh0 : s₁.heap = s.heap := by rw [B.state]; rfl
    obtain ⟨t, a1, o, b1, b2, b3⟩ := body p e s m args below meth c s₁ B hml hP s₁ hh0 (Stand.of_body B)
    exact ⟨t, o, a1, b1, b2, b3⟩
/-! ===== END ===== -/
/-! ===== END ===== -/
/-! ===== BEGIN an exception as an object: made, kept, thrown later (no traces kept) ===== -/
section VXK
variable {p : Program} {l : Launch} {e : Env} {R : Room} {s : State} {m₀ : MethodId} {args : Array Value} {below : List Frame} {meth : Method} {c : Code} {W : State} {locs : List Loc} {cells slots : Nat}
set_option maxHeartbeats 1000000 in
theorem vx_ctorMadeS (X : Stand p l e R s m₀ args below meth c W locs cells slots) (hexec : p.tables.exec = Jvm.exec) (htr : e.platform.stackTraces = false) {own cls : String} {names : List String} {ic : Nat}
    (hown : s.vm.findClass own = some m₀.cls) (hcls : Bundle.fit cls = true) (hnames : ∀ n ∈ names, Bundle.fit n = true)
    (h : ∀ a ∈ Bundle.ownAtoms own ic cls names, a.before args s = true)
    (hlocs : ∀ x ∈ locs, ∀ cell, s.heap[x.base]? = some cell → cell.vm.isStatics = false)
    {a : Addr} {cX : ClassId} {kX : Class} (hfoundX : s.vm.findClass cls = some cX) (hkX : s.vm.classes[cX]? = some kX) (hcell : W.heap[a]? = some (freshCell cX kX)) (hnew : s.heap.size ≤ a)
    {msg : Value} (hmsg : msg.isRef = true)
    {g : JFrame} (hg : g.method = m₀) (hsize : g.locals.size = c.maxLocals) {rest : List Value} (hstack : g.stack = msg :: .ref a :: .ref a :: rest)
    (hd6 : decode c.code g.pc = .ok (.invokespecial ic, 3))
    (hRframes : names.length + 3 < R.frames) (hRlocals : 2 * g.monitorRoom + ((Value.ref a :: rest).map fun v => v.category).sum + (13 * (names.length + 1) + 42) ≤ R.locals) :
    ∃ (V : State) (ce : Cell) (L : List Loc), Stand p l e R s m₀ args below meth c (V.setCell a ce) (locs ++ L) cells slots ∧ (∀ y ∈ L, y.base = a) ∧ a < V.heap.size ∧ ce.cls = cX ∧ ce.vm = .none ∧
      ∀ target, Steps p.tables e below ((V.setCell a ce).setTop { g with stack := .ref a :: rest, pc := g.pc + 3 }) target → Steps p.tables e below (W.setTop g) target := by
  have howns : e.platform.frameOwnsMonitors = true := by rw [X.admits.platform]
  have hfin : e.platform.finalization = false := by rw [X.admits.platform]
  have hpl : e.platform.magicAccessors = ({} : Platform).magicAccessors := by rw [X.admits.platform]
  have a' : ∀ x, x ∈ Bundle.ownAtoms own ic cls names → x.holds args s none s [] = true := fun x hx => h x hx
  obtain ⟨T, Z0, L, -, Y⟩ := ThrowableC.of_atoms (args := args) howns hfin hpl (fun x hx => h x (by simp [Bundle.ownAtoms, hx]))
  obtain ⟨Z, M, LZ, LM, hnZ⟩ := Init0T.ofS_atoms (args := args) hpl L Y (fun x hx => h x (by simp [Bundle.ownAtoms, hx]))
  obtain ⟨P1, Ps, hlen, L1, hL, hP1m, hlink1, hlink⟩ := Bundle.chainS (args := args) hpl hnZ names cls hcls hnames (fun x hx => h x (by simp [Bundle.ownAtoms, hx]))
  have hfound : s.vm.findClass cls = some P1.m.cls := findClass_of_methodNamed hP1m
  cases Option.some.inj (hfoundX.symm.trans hfound)
  obtain ⟨c1, kX', hc1, hk, hord, -, -, hn6⟩ := Cond.instantiable_spec (a' (.instantiable cls 6) (by simp [Bundle.ownAtoms]))
  cases Option.some.inj (hc1.symm.trans hfound)
  cases Option.some.inj (hkX.symm.trans hk)
  have hsel0 : selectMethod e.platform s.vm P1.m.cls T.fill0 = .method T.fill0 := by
    obtain ⟨c2, r2, m2, q1, q2, q3, q4, -⟩ := Cond.selects_spec (a' (.selects cls Bundle.tFill0 Bundle.tFill0) (by simp [Bundle.ownAtoms]))
    cases Option.some.inj (q1.symm.trans hfound)
    cases Option.some.inj (q2.symm.trans (State.methodFound?_of_named Y.fill0 (by decide)))
    cases Option.some.inj (q3.symm.trans Y.fill0)
    rw [Launch.admits_selectMethod X.admits]; exact q4
  have hselF : selectMethod e.platform s.vm P1.m.cls T.fill = .method T.fill := by
    obtain ⟨c2, r2, m2, q1, q2, q3, q4, -⟩ := Cond.selects_spec (a' (.selects cls Bundle.tFill Bundle.tFill) (by simp [Bundle.ownAtoms]))
    cases Option.some.inj (q1.symm.trans hfound)
    cases Option.some.inj (q2.symm.trans (State.methodFound?_of_named Y.fill (by decide)))
    cases Option.some.inj (q3.symm.trans Y.fill)
    rw [Launch.admits_selectMethod X.admits]; exact q4
  obtain ⟨cellS0, hcS0, hiss⟩ := Y.statics
  obtain ⟨u0, hu0⟩ := Cond.staticRefV Y.unassigned L.unassignedStatic L.statics hcS0 hiss (a' (.isRef (.static Bundle.tN "UNASSIGNED_STACK" Bundle.steD)) (by simp [Bundle.ownAtoms]))
  obtain ⟨sen, hsen⟩ := Cond.staticRefV Y.sentinel L.sentinelStatic L.statics hcS0 hiss (a' (.isRef (.static Bundle.tN "SUPPRESSED_SENTINEL" Bundle.listD)) (by simp [Bundle.ownAtoms]))
  obtain ⟨ci198, i198, fB, hk198, hg198, ha198, hsB, -, hnB, htB, hffB⟩ := Cond.ownField (t := .object "java/lang/Object") Y.found L.cls (by decide +kernel) (a' (.fieldLink Bundle.tN 198 Bundle.tN "backtrace" "Ljava/lang/Object;") (by simp [Bundle.ownAtoms])) (a' (.lays Bundle.tN Bundle.tN "backtrace" "Ljava/lang/Object;") (by simp [Bundle.ownAtoms])) e.platform hpl
  obtain ⟨cellS, hcS', heS, -, hkeep⟩ := X.same.2.2.2.2.2 T.aS cellS0 hcS0
  have hcellS : W.heap[T.aS]? = some cellS := hcS'
  have hout' : ∀ i, (⟨T.aS, i⟩ : Loc) ∉ locs := fun i hmem => by
    have := hlocs _ hmem cellS0 hcS0
    rw [hiss] at this; cases this
  have hknownS : cellS.vm ≠ .unknown := by
    rw [heS]; intro hu
    rw [show cellS0.vm = .unknown from hu] at hiss
    cases hiss
  have hneS : T.aS ≠ a := Nat.ne_of_lt (Nat.lt_of_lt_of_le (Array.getElem?_eq_some_iff.mp hcS0).1 hnew)
  obtain ⟨iM, hffM⟩ := Y.msg
  obtain ⟨tyC, dC, hdC, hdnC⟩ := Cond.laysAt hfound hk Y.cause (a' (.lays cls Bundle.tN "cause" "Ljava/lang/Throwable;") (by simp [Bundle.ownAtoms]))
  obtain ⟨tyS, dS, hdS, hdnS⟩ := Cond.laysAt hfound hk Y.stack (a' (.lays cls Bundle.tN "stackTrace" Bundle.steD) (by simp [Bundle.ownAtoms]))
  obtain ⟨tyP, dP, hdP, hdnP⟩ := Cond.laysAt hfound hk Y.supp (a' (.lays cls Bundle.tN "suppressedExceptions" Bundle.listD) (by simp [Bundle.ownAtoms]))
  obtain ⟨tyM, dM, hdM, hdnM⟩ := Cond.laysAt hfound hk hffM (a' (.lays cls Bundle.tN "detailMessage" "Ljava/lang/String;") (by simp [Bundle.ownAtoms]))
  obtain ⟨tyB, dB, hdB, hdnB⟩ := Cond.laysAt hfound hk hffB (a' (.lays cls Bundle.tN "backtrace" "Ljava/lang/Object;") (by simp [Bundle.ownAtoms]))
  have bC := Cond.laysApart hdB hdC hdnB hdnC (by rw [hnB, Y.causeName]; decide)
  have bS := Cond.laysApart hdB hdS hdnB hdnS (by rw [hnB, Y.stackName]; decide)
  have bP := Cond.laysApart hdB hdP hdnB hdnP (by rw [hnB, Y.suppName]; decide)
  have hskip : SkipFacts T e.platform s (fun u => u) u0 ((preparedCellV T.toThrowableT (freshCell P1.m.cls kX) a u0 sen).withEntry W.cur) :=
    ⟨{ ci198 := ci198, i198 := i198, fBack := fB }, ⟨hk198, hg198, ha198, hsB⟩, by
      have := fresh_default (c := P1.m.cls) tyB
      rw [htB] at this
      simpa [preparedCellV, Cell.setSlot, Cell.withEntry, Array.getElem?_setIfInBounds, bC, bS, bP, bC.symm, bS.symm, bP.symm, defaultValue] using this, fun _ _ => rfl⟩
  obtain ⟨tm, methC, cdC, kC, vm₁, hnC, -, -, -, -, -, -, -, hW₁, st1⟩ := Steps.initColdS (tb := p.tables) (e := e) (below := below) (s := s) (U := W) X.here hexec X.warmed hpl hown (t := Bundle.initS cls) rfl rfl (Bundle.fit_spec hcls).2
    (a' (.methodLink own ic (Bundle.initS cls)) (by simp [Bundle.ownAtoms])) (h (.instanceMethod (Bundle.initS cls)) (by cases names <;> simp [Bundle.ownAtoms, Bundle.chainSAtoms, Bundle.passSAtoms])) (bytes := Bundle.six) (maxL := 2) (h (.code (Bundle.initS cls) Bundle.six 2 none) (by cases names <;> simp [Bundle.ownAtoms, Bundle.chainSAtoms, Bundle.passSAtoms]))
    (f := g) hg (a := a) (msg := msg) (rest := .ref a :: rest) hstack hd6
  cases Option.some.inj (hnC.symm.trans hP1m)
  have X₁ := X.noted hW₁
  obtain ⟨vm₂, X₂, st2⟩ := X₁.ctorMessageOffV hexec (g := { g with stack := .ref a :: rest }) hg hsize T L Z LZ M LM (P1 :: Ps)
    (fun P hP => by rcases List.mem_cons.mp hP with rfl | hP; exact L1; exact hL P hP) ⟨hlink1, hlink⟩ (u0 := u0) (sen := sen) (self := a) hmsg (cell := freshCell P1.m.cls kX) (cellS := cellS)
    hcell (fun _ => by simp) (by simp) rfl rfl hsel0 hselF hcellS hneS hknownS (by rw [hkeep _ (hout' _)]; exact hu0) (by rw [hkeep _ (hout' _)]; exact hsen)
    (Takes.of_laid hk hord tyC (by rw [Y.causeType]; rfl)) (Takes.of_laid hk hord tyS (by rw [Y.stackType]; exact fits_refV_array _ u0)) (Takes.of_laid hk hord tyP (by rw [Y.suppType]; exact fits_refV_object _ sen))
    (Takes.of_laid hk hord tyM (by rw [Y.msgType]; exact fits_refV_object _ ⟨msg, hmsg⟩)) Y.objLocals hskip htr [] hd6
    (by simp only [List.length_cons, hlen]; omega) (by simp only [List.length_cons, hlen]; exact hRlocals)
  have hlt : a < ((W.setVm vm₁).setVm vm₂).heap.size := (Array.getElem?_eq_some_iff.mp hcell).1
  refine ⟨(W.setVm vm₁).setVm vm₂, _, _, X₂, fun y hy => ?_, hlt, rfl, rfl, fun target hwalk => st1 _ (fun acts => ?_)⟩
  · simp only [List.mem_cons, List.not_mem_nil, or_false] at hy
    rcases hy with rfl | rfl | rfl | rfl | rfl <;> rfl
  · rw [doInvoke_state]
    exact st2 _ hwalk
set_option maxHeartbeats 1000000 in
theorem vx_ctorMade0 (X : Stand p l e R s m₀ args below meth c W locs cells slots) (hexec : p.tables.exec = Jvm.exec) (htr : e.platform.stackTraces = false) {own cls : String} {names : List String} {ic : Nat}
    (hown : s.vm.findClass own = some m₀.cls) (hcls : Bundle.fit cls = true) (hnames : ∀ n ∈ names, Bundle.fit n = true)
    (h : ∀ a ∈ Bundle.ownAtoms0 own ic cls names, a.before args s = true)
    (hlocs : ∀ x ∈ locs, ∀ cell, s.heap[x.base]? = some cell → cell.vm.isStatics = false)
    {a : Addr} {cX : ClassId} {kX : Class} (hfoundX : s.vm.findClass cls = some cX) (hkX : s.vm.classes[cX]? = some kX) (hcell : W.heap[a]? = some (freshCell cX kX)) (hnew : s.heap.size ≤ a)
    {g : JFrame} (hg : g.method = m₀) (hsize : g.locals.size = c.maxLocals) {rest : List Value} (hstack : g.stack = .ref a :: .ref a :: rest)
    (hd6 : decode c.code g.pc = .ok (.invokespecial ic, 3))
    (hRframes : names.length + 3 < R.frames) (hRlocals : 2 * g.monitorRoom + ((Value.ref a :: rest).map fun v => v.category).sum + (13 * (names.length + 1) + 41) ≤ R.locals) :
    ∃ (V : State) (ce : Cell) (L : List Loc), Stand p l e R s m₀ args below meth c (V.setCell a ce) (locs ++ L) cells slots ∧ (∀ y ∈ L, y.base = a) ∧ a < V.heap.size ∧ ce.cls = cX ∧ ce.vm = .none ∧
      ∀ target, Steps p.tables e below ((V.setCell a ce).setTop { g with stack := .ref a :: rest, pc := g.pc + 3 }) target → Steps p.tables e below (W.setTop g) target := by
  have howns : e.platform.frameOwnsMonitors = true := by rw [X.admits.platform]
  have hfin : e.platform.finalization = false := by rw [X.admits.platform]
  have hpl : e.platform.magicAccessors = ({} : Platform).magicAccessors := by rw [X.admits.platform]
  have a' : ∀ x, x ∈ Bundle.ownAtoms0 own ic cls names → x.holds args s none s [] = true := fun x hx => h x hx
  obtain ⟨T, Z, L, LZ, Y⟩ := ThrowableC.of_atoms (args := args) howns hfin hpl (fun x hx => h x (by simp [Bundle.ownAtoms0, hx]))
  obtain ⟨P1, Ps, hlen, L1, hL, hP1m, hlink1, hlink⟩ := Bundle.chain0 (args := args) hpl Y.init0 names cls hcls hnames (fun x hx => h x (by simp [Bundle.ownAtoms0, hx]))
  have hfound : s.vm.findClass cls = some P1.m.cls := findClass_of_methodNamed hP1m
  cases Option.some.inj (hfoundX.symm.trans hfound)
  obtain ⟨c1, kX', hc1, hk, hord, -, -, hn6⟩ := Cond.instantiable_spec (a' (.instantiable cls 6) (by simp [Bundle.ownAtoms0]))
  cases Option.some.inj (hc1.symm.trans hfound)
  cases Option.some.inj (hkX.symm.trans hk)
  have hsel0 : selectMethod e.platform s.vm P1.m.cls T.fill0 = .method T.fill0 := by
    obtain ⟨c2, r2, m2, q1, q2, q3, q4, -⟩ := Cond.selects_spec (a' (.selects cls Bundle.tFill0 Bundle.tFill0) (by simp [Bundle.ownAtoms0]))
    cases Option.some.inj (q1.symm.trans hfound)
    cases Option.some.inj (q2.symm.trans (State.methodFound?_of_named Y.fill0 (by decide)))
    cases Option.some.inj (q3.symm.trans Y.fill0)
    rw [Launch.admits_selectMethod X.admits]; exact q4
  have hselF : selectMethod e.platform s.vm P1.m.cls T.fill = .method T.fill := by
    obtain ⟨c2, r2, m2, q1, q2, q3, q4, -⟩ := Cond.selects_spec (a' (.selects cls Bundle.tFill Bundle.tFill) (by simp [Bundle.ownAtoms0]))
    cases Option.some.inj (q1.symm.trans hfound)
    cases Option.some.inj (q2.symm.trans (State.methodFound?_of_named Y.fill (by decide)))
    cases Option.some.inj (q3.symm.trans Y.fill)
    rw [Launch.admits_selectMethod X.admits]; exact q4
  obtain ⟨cellS0, hcS0, hiss⟩ := Y.statics
  obtain ⟨u0, hu0⟩ := Cond.staticRefV Y.unassigned L.unassignedStatic L.statics hcS0 hiss (a' (.isRef (.static Bundle.tN "UNASSIGNED_STACK" Bundle.steD)) (by simp [Bundle.ownAtoms0]))
  obtain ⟨sen, hsen⟩ := Cond.staticRefV Y.sentinel L.sentinelStatic L.statics hcS0 hiss (a' (.isRef (.static Bundle.tN "SUPPRESSED_SENTINEL" Bundle.listD)) (by simp [Bundle.ownAtoms0]))
  obtain ⟨ci198, i198, fB, hk198, hg198, ha198, hsB, -, hnB, htB, hffB⟩ := Cond.ownField (t := .object "java/lang/Object") Y.found L.cls (by decide +kernel) (a' (.fieldLink Bundle.tN 198 Bundle.tN "backtrace" "Ljava/lang/Object;") (by simp [Bundle.ownAtoms0])) (a' (.lays Bundle.tN Bundle.tN "backtrace" "Ljava/lang/Object;") (by simp [Bundle.ownAtoms0])) e.platform hpl
  obtain ⟨cellS, hcS', heS, -, hkeep⟩ := X.same.2.2.2.2.2 T.aS cellS0 hcS0
  have hcellS : W.heap[T.aS]? = some cellS := hcS'
  have hout' : ∀ i, (⟨T.aS, i⟩ : Loc) ∉ locs := fun i hmem => by
    have := hlocs _ hmem cellS0 hcS0
    rw [hiss] at this; cases this
  have hknownS : cellS.vm ≠ .unknown := by
    rw [heS]; intro hu
    rw [show cellS0.vm = .unknown from hu] at hiss
    cases hiss
  have hneS : T.aS ≠ a := Nat.ne_of_lt (Nat.lt_of_lt_of_le (Array.getElem?_eq_some_iff.mp hcS0).1 hnew)
  obtain ⟨iM, hffM⟩ := Y.msg
  obtain ⟨tyC, dC, hdC, hdnC⟩ := Cond.laysAt hfound hk Y.cause (a' (.lays cls Bundle.tN "cause" "Ljava/lang/Throwable;") (by simp [Bundle.ownAtoms0]))
  obtain ⟨tyS, dS, hdS, hdnS⟩ := Cond.laysAt hfound hk Y.stack (a' (.lays cls Bundle.tN "stackTrace" Bundle.steD) (by simp [Bundle.ownAtoms0]))
  obtain ⟨tyP, dP, hdP, hdnP⟩ := Cond.laysAt hfound hk Y.supp (a' (.lays cls Bundle.tN "suppressedExceptions" Bundle.listD) (by simp [Bundle.ownAtoms0]))
  obtain ⟨tyM, dM, hdM, hdnM⟩ := Cond.laysAt hfound hk hffM (a' (.lays cls Bundle.tN "detailMessage" "Ljava/lang/String;") (by simp [Bundle.ownAtoms0]))
  obtain ⟨tyB, dB, hdB, hdnB⟩ := Cond.laysAt hfound hk hffB (a' (.lays cls Bundle.tN "backtrace" "Ljava/lang/Object;") (by simp [Bundle.ownAtoms0]))
  have bC := Cond.laysApart hdB hdC hdnB hdnC (by rw [hnB, Y.causeName]; decide)
  have bS := Cond.laysApart hdB hdS hdnB hdnS (by rw [hnB, Y.stackName]; decide)
  have bP := Cond.laysApart hdB hdP hdnB hdnP (by rw [hnB, Y.suppName]; decide)
  have hskip : SkipFacts T e.platform s (fun u => u) u0 ((preparedCellV T.toThrowableT (freshCell P1.m.cls kX) a u0 sen).withEntry W.cur) :=
    ⟨{ ci198 := ci198, i198 := i198, fBack := fB }, ⟨hk198, hg198, ha198, hsB⟩, by
      have := fresh_default (c := P1.m.cls) tyB
      rw [htB] at this
      simpa [preparedCellV, Cell.setSlot, Cell.withEntry, Array.getElem?_setIfInBounds, bC, bS, bP, bC.symm, bS.symm, bP.symm, defaultValue] using this, fun _ _ => rfl⟩
  obtain ⟨tm, methC, cdC, kC, vm₁, hnC, -, -, -, -, -, -, -, hW₁, st1⟩ := Steps.initCold (tb := p.tables) (e := e) (below := below) (s := s) (U := W) X.here hexec X.warmed hpl hown (t := Bundle.init0 cls) rfl rfl (Bundle.fit_spec hcls).2
    (a' (.methodLink own ic (Bundle.init0 cls)) (by simp [Bundle.ownAtoms0])) (h (.instanceMethod (Bundle.init0 cls)) (by cases names <;> simp [Bundle.ownAtoms0, Bundle.chain0Atoms, Bundle.passAtoms])) (bytes := Bundle.five) (maxL := 1) (h (.code (Bundle.init0 cls) Bundle.five 1 none) (by cases names <;> simp [Bundle.ownAtoms0, Bundle.chain0Atoms, Bundle.passAtoms]))
    (f := g) hg (a := a) (rest := .ref a :: rest) hstack hd6
  cases Option.some.inj (hnC.symm.trans hP1m)
  have X₁ := X.noted hW₁
  obtain ⟨vm₂, X₂, st2⟩ := X₁.ctorPlainOffV hexec (g := { g with stack := .ref a :: rest }) hg hsize T L Z LZ (P1 :: Ps)
    (fun P hP => by rcases List.mem_cons.mp hP with rfl | hP; exact L1; exact hL P hP) ⟨hlink1, hlink⟩ (u0 := u0) (sen := sen) (self := a) (cell := freshCell P1.m.cls kX) (cellS := cellS)
    hcell (fun _ => by simp) (by simp) rfl rfl hsel0 hselF hcellS hneS hknownS (by rw [hkeep _ (hout' _)]; exact hu0) (by rw [hkeep _ (hout' _)]; exact hsen)
    (Takes.of_laid hk hord tyC (by rw [Y.causeType]; rfl)) (Takes.of_laid hk hord tyS (by rw [Y.stackType]; exact fits_refV_array _ u0)) (Takes.of_laid hk hord tyP (by rw [Y.suppType]; exact fits_refV_object _ sen)) Y.objLocals hskip htr [] hd6
    (by simp only [List.length_cons, hlen]; omega) (by simp only [List.length_cons, hlen]; exact hRlocals)
  have hlt : a < ((W.setVm vm₁).setVm vm₂).heap.size := (Array.getElem?_eq_some_iff.mp hcell).1
  refine ⟨(W.setVm vm₁).setVm vm₂, _, _, X₂, fun y hy => ?_, hlt, rfl, rfl, fun target hwalk => st1 _ (fun acts => ?_)⟩
  · simp only [List.mem_cons, List.not_mem_nil, or_false] at hy
    rcases hy with rfl | rfl | rfl | rfl <;> rfl
  · rw [doInvoke_state]
    exact st2 _ hwalk
end VXK
section VXK2
variable {p : Program} {l : Launch} {e : Env} {R : Room} {s : State} {m : MethodId} {args : Array Value} {below : List Frame} {meth : Method} {c : Code} {H : Heap} {locs : List Loc} {cells slots : Nat} {Q : State → Prop}
variable {ls : Array Slot} {rest : List Value} {D : va_G} {cl : List vw_C} {tys : List (ClassId × FieldType)} {ws : va_W}
/-- 'throw x' of an object that was made before -/
theorem vx_athrow {cc : ByteArray} {pc : Nat} (hexec : p.tables.exec = Jvm.exec) (hb : c.code = cc) {q : Addr} (hdg : decode cc pc = .ok (.athrow, 1)) (k : vx_W p l e R s m args below meth c H locs cells slots Q (F0 m pc ls rest) q) : W p l e R s m args below meth c H locs cells slots Q (F0 m pc ls (.ref q :: rest)) := by
  intro T hT X
  obtain ⟨t, st, hq⟩ := k T hT X
  refine ⟨t, ?_, hq⟩
  have hdg' : decode c.code pc = .ok (.athrow, 1) := by rw [hb]; exact hdg
  jvm_step X.here [X.here.top, hexec, hdg', athrow.wp_sem]
  exact st
end VXK2
/-! ===== END ===== -/
end
section
/-! ===== words: ints and longs as natural numbers, as a program of words reckons with them ===== -/
theorem di_bm32 (n : Nat) : (n : Int).bmod 4294967296 = if n % 4294967296 < 2147483648 then ((n % 4294967296 : Nat) : Int) else ((n % 4294967296 : Nat) : Int) - 4294967296 := by
  simp only [Int.bmod]
  split <;> split <;> omega
theorem di_bm64 (n : Nat) : (n : Int).bmod 18446744073709551616 = if n % 18446744073709551616 < 9223372036854775808 then ((n % 18446744073709551616 : Nat) : Int) else ((n % 18446744073709551616 : Nat) : Int) - 18446744073709551616 := by
  simp only [Int.bmod]
  split <;> split <;> omega
theorem di_iv (n : Nat) : (Int32.ofNat n).toInt = if n % 4294967296 < 2147483648 then ((n % 4294967296 : Nat) : Int) else ((n % 4294967296 : Nat) : Int) - 4294967296 := by
  rw [Int32.toInt_ofNat']
  exact di_bm32 n
theorem di_jv (n : Nat) : (Int64.ofNat n).toInt = if n % 18446744073709551616 < 9223372036854775808 then ((n % 18446744073709551616 : Nat) : Int) else ((n % 18446744073709551616 : Nat) : Int) - 18446744073709551616 := by
  rw [Int64.toInt_ofNat']
  exact di_bm64 n
theorem di_ieq {a b : Nat} : Int32.ofNat a = Int32.ofNat b ↔ a % 4294967296 = b % 4294967296 := by
  rw [← Int32.toInt_inj, di_iv, di_iv]
  split <;> split <;> omega
theorem di_jeq {a b : Nat} : Int64.ofNat a = Int64.ofNat b ↔ a % 18446744073709551616 = b % 18446744073709551616 := by
  rw [← Int64.toInt_inj, di_jv, di_jv]
  split <;> split <;> omega
theorem di_imod (a : Nat) : Int32.ofNat (a % 4294967296) = Int32.ofNat a := di_ieq.mpr (by omega)
theorem di_jmod (a : Nat) : Int64.ofNat (a % 18446744073709551616) = Int64.ofNat a := di_jeq.mpr (by omega)
-- what a program of words does
def dAdd (a b : Nat) : Nat := Nat.mod (Nat.add a b) 4294967296
def dSub (a b : Nat) : Nat := Nat.mod (Nat.add a (Nat.sub 4294967296 (Nat.mod b 4294967296))) 4294967296
def dMul (a b : Nat) : Nat := Nat.mod (Nat.mul a b) 4294967296
def dNeg (a : Nat) : Nat := Nat.mod (Nat.sub 4294967296 (Nat.mod a 4294967296)) 4294967296
def dAnd (a b : Nat) : Nat := Nat.land (Nat.mod a 4294967296) (Nat.mod b 4294967296)
def dOr (a b : Nat) : Nat := Nat.mod (Nat.lor a b) 4294967296
def dXor (a b : Nat) : Nat := Nat.mod (Nat.xor a b) 4294967296
def dShl (a b : Nat) : Nat := Nat.mod (Nat.shiftLeft a (Nat.mod b 32)) 4294967296
def dLAdd (a b : Nat) : Nat := Nat.mod (Nat.add a b) 18446744073709551616
def dLSub (a b : Nat) : Nat := Nat.mod (Nat.add a (Nat.sub 18446744073709551616 (Nat.mod b 18446744073709551616))) 18446744073709551616
def dLMul (a b : Nat) : Nat := Nat.mod (Nat.mul a b) 18446744073709551616
def dLAnd (a b : Nat) : Nat := Nat.land (Nat.mod a 18446744073709551616) (Nat.mod b 18446744073709551616)
def dLOr (a b : Nat) : Nat := Nat.mod (Nat.lor a b) 18446744073709551616
def dLXor (a b : Nat) : Nat := Nat.mod (Nat.xor a b) 18446744073709551616
def dLShl (a b : Nat) : Nat := Nat.mod (Nat.shiftLeft a (Nat.mod b 64)) 18446744073709551616
def dLUshr (a b : Nat) : Nat := Nat.shiftRight (Nat.mod a 18446744073709551616) (Nat.mod b 64)
def dI2l (a : Nat) : Nat := cond (Nat.blt (Nat.mod a 4294967296) 2147483648) (Nat.mod a 4294967296) (Nat.add (Nat.mod a 4294967296) 18446744069414584320)
def dL2i (a : Nat) : Nat := Nat.mod a 4294967296
def dI2b (a : Nat) : Nat := cond (Nat.blt (Nat.mod a 256) 128) (Nat.mod a 256) (Nat.add (Nat.mod a 256) 4294967040)
def dLt (a b : Nat) : Bool := Nat.blt (Nat.mod (Nat.add a 2147483648) 4294967296) (Nat.mod (Nat.add b 2147483648) 4294967296)
def dEq (a b : Nat) : Bool := Nat.beq (Nat.mod a 4294967296) (Nat.mod b 4294967296)
def dLLt (a b : Nat) : Bool := Nat.blt (Nat.mod (Nat.add a 9223372036854775808) 18446744073709551616) (Nat.mod (Nat.add b 9223372036854775808) 18446744073709551616)
def dCmp (a b : Nat) : Nat := cond (dLLt a b) 4294967295 (cond (dLLt b a) 1 0)
-- .. and that it is what the machine does
theorem di_add (a b : Nat) : Int32.ofNat a + Int32.ofNat b = Int32.ofNat (dAdd a b) := by
  rw [← Int32.ofNat_add]; exact (di_imod _).symm
theorem di_mul (a b : Nat) : Int32.ofNat a * Int32.ofNat b = Int32.ofNat (dMul a b) := by
  rw [← Int32.ofNat_mul]; exact (di_imod _).symm
theorem di_sub (a b : Nat) : Int32.ofNat a - Int32.ofNat b = Int32.ofNat (dSub a b) := by
  have h : dSub a b = (a + (4294967296 - b % 4294967296)) % 4294967296 := rfl
  rw [h, ← Int32.toInt_inj, Int32.toInt_sub, di_iv, di_iv, di_iv]
  simp only [Int.bmod]
  split <;> split <;> split <;> split <;> omega
theorem di_neg (a : Nat) : -(Int32.ofNat a) = Int32.ofNat (dNeg a) := by
  have h : dNeg a = (4294967296 - a % 4294967296) % 4294967296 := rfl
  rw [h, ← Int32.toInt_inj, Int32.toInt_neg, di_iv, di_iv]
  simp only [Int.bmod]
  split <;> split <;> split <;> omega
theorem di_and0 (a b : Nat) : Int32.ofNat a &&& Int32.ofNat b = Int32.ofNat (a &&& b) := Int32.toBitVec_inj.mp (by
  rw [Int32.toBitVec_and]; simp)
theorem di_and (a b : Nat) : Int32.ofNat a &&& Int32.ofNat b = Int32.ofNat (dAnd a b) := by
  rw [← di_imod a, ← di_imod b]; exact di_and0 _ _
theorem di_or (a b : Nat) : Int32.ofNat a ||| Int32.ofNat b = Int32.ofNat (dOr a b) := by
  refine Eq.trans ?_ (di_imod (a ||| b)).symm
  exact Int32.toBitVec_inj.mp (by rw [Int32.toBitVec_or]; simp)
theorem di_xor (a b : Nat) : Int32.ofNat a ^^^ Int32.ofNat b = Int32.ofNat (dXor a b) := by
  refine Eq.trans ?_ (di_imod (a ^^^ b)).symm
  exact Int32.toBitVec_inj.mp (by rw [Int32.toBitVec_xor]; simp)
theorem di_ladd (a b : Nat) : Int64.ofNat a + Int64.ofNat b = Int64.ofNat (dLAdd a b) := by
  rw [← Int64.ofNat_add]; exact (di_jmod _).symm
theorem di_lmul (a b : Nat) : Int64.ofNat a * Int64.ofNat b = Int64.ofNat (dLMul a b) := by
  rw [← Int64.ofNat_mul]; exact (di_jmod _).symm
theorem di_lsub (a b : Nat) : Int64.ofNat a - Int64.ofNat b = Int64.ofNat (dLSub a b) := by
  have h : dLSub a b = (a + (18446744073709551616 - b % 18446744073709551616)) % 18446744073709551616 := rfl
  rw [h, ← Int64.toInt_inj, Int64.toInt_sub, di_jv, di_jv, di_jv]
  simp only [Int.bmod]
  split <;> split <;> split <;> split <;> omega
theorem di_land0 (a b : Nat) : Int64.ofNat a &&& Int64.ofNat b = Int64.ofNat (a &&& b) := Int64.toBitVec_inj.mp (by
  rw [Int64.toBitVec_and]; simp)
theorem di_land (a b : Nat) : Int64.ofNat a &&& Int64.ofNat b = Int64.ofNat (dLAnd a b) := by
  rw [← di_jmod a, ← di_jmod b]; exact di_land0 _ _
theorem di_lor (a b : Nat) : Int64.ofNat a ||| Int64.ofNat b = Int64.ofNat (dLOr a b) := by
  refine Eq.trans ?_ (di_jmod (a ||| b)).symm
  exact Int64.toBitVec_inj.mp (by rw [Int64.toBitVec_or]; simp)
theorem di_lxor (a b : Nat) : Int64.ofNat a ^^^ Int64.ofNat b = Int64.ofNat (dLXor a b) := by
  refine Eq.trans ?_ (di_jmod (a ^^^ b)).symm
  exact Int64.toBitVec_inj.mp (by rw [Int64.toBitVec_xor]; simp)
theorem di_cond {α : Type} (a b : Nat) (x y : α) : cond (Nat.blt a b) x y = if a < b then x else y := by
  by_cases h : a < b
  · rw [if_pos h, show Nat.blt a b = true by rw [Nat.blt_eq]; exact h]; rfl
  · rw [if_neg h, show Nat.blt a b = false by
      cases q : Nat.blt a b
      · rfl
      · rw [Nat.blt_eq] at q; exact absurd q h]; rfl
theorem di_i2l_eq (a : Nat) : dI2l a = if a % 4294967296 < 2147483648 then a % 4294967296 else a % 4294967296 + 18446744069414584320 := di_cond _ _ _ _
theorem di_i2b_eq (a : Nat) : dI2b a = if a % 256 < 128 then a % 256 else a % 256 + 4294967040 := di_cond _ _ _ _
theorem di_i2l (a : Nat) : (Int32.ofNat a).toInt64 = Int64.ofNat (dI2l a) := by
  rw [← Int64.toInt_inj, Int32.toInt_toInt64, di_iv, di_jv, di_i2l_eq]
  split <;> split <;> omega
theorem di_l2i (a : Nat) : (Int64.ofNat a).toInt32 = Int32.ofNat (dL2i a) := by
  have h : dL2i a = a % 4294967296 := rfl
  rw [h, ← Int32.toInt_inj, Int64.toInt_toInt32, di_iv, di_jv]
  simp only [Int.bmod]
  split <;> split <;> split <;> omega
theorem di_i2b (a : Nat) : (Int32.ofNat a).toInt8.toInt32 = Int32.ofNat (dI2b a) := by
  rw [← Int32.toInt_inj, Int8.toInt_toInt32, Int32.toInt_toInt8, di_iv, di_iv, di_i2b_eq]
  simp only [Int.bmod]
  split <;> split <;> split <;> (try split) <;> omega
theorem di_blt {a b : Nat} : Nat.blt a b = true ↔ a < b := by rw [Nat.blt_eq]
theorem di_lt (a b : Nat) : dLt a b = true ↔ Int32.ofNat a < Int32.ofNat b := by
  rw [Int32.lt_iff_toInt_lt, di_iv, di_iv]
  have h : dLt a b = Nat.blt ((a + 2147483648) % 4294967296) ((b + 2147483648) % 4294967296) := rfl
  rw [h, Nat.blt_eq]
  split <;> split <;> omega
theorem di_llt (a b : Nat) : dLLt a b = true ↔ Int64.ofNat a < Int64.ofNat b := by
  rw [Int64.lt_iff_toInt_lt, di_jv, di_jv]
  have h : dLLt a b = Nat.blt ((a + 9223372036854775808) % 18446744073709551616) ((b + 9223372036854775808) % 18446744073709551616) := rfl
  rw [h, Nat.blt_eq]
  split <;> split <;> omega
theorem di_eq (a b : Nat) : dEq a b = true ↔ Int32.ofNat a = Int32.ofNat b := by
  have h : dEq a b = Nat.beq (a % 4294967296) (b % 4294967296) := rfl
  rw [h, Nat.beq_eq, di_ieq]
theorem di_cmp (a b : Nat) : lg_cmp (Int64.ofNat a) (Int64.ofNat b) = Int32.ofNat (dCmp a b) := by
  unfold dCmp
  cases h1 : dLLt a b
  · have q1 : ¬ Int64.ofNat a < Int64.ofNat b := fun q => by rw [(di_llt a b).mpr q] at h1; cases h1
    cases h2 : dLLt b a
    · have q2 : ¬ Int64.ofNat b < Int64.ofNat a := fun q => by rw [(di_llt b a).mpr q] at h2; cases h2
      have q3 : Int64.ofNat a = Int64.ofNat b := by
        rw [Int64.lt_iff_toInt_lt] at q1 q2
        rw [← Int64.toInt_inj]; omega
      simp [lg_cmp, q3]
    · have q2 := (di_llt b a).mp h2
      simp [lg_cmp, q1, q2]
  · have q1 := (di_llt a b).mp h1
    have q2 : ¬ Int64.ofNat b < Int64.ofNat a := fun q => by
      rw [Int64.lt_iff_toInt_lt] at q q1; omega
    have q3 : ¬ Int64.ofNat a = Int64.ofNat b := fun q => by
      rw [Int64.lt_iff_toInt_lt, q] at q1; omega
    simp [lg_cmp, q1, q2, q3]
    try decide
theorem di_sm32 : ∀ k, k < 32 → ((Int32.ofNat k).toBitVec.smod 32).toNat = k := by decide +kernel
theorem di_sm64 : ∀ k, k < 64 → ((Int64.ofNat k).toBitVec.smod 64).toNat = k := by decide +kernel
theorem di_and31 (b : Nat) : Int32.ofNat b &&& 31 = Int32.ofNat (b % 32) := by
  have h : (31 : Int32) = Int32.ofNat 31 := rfl
  rw [h, di_and0, show b &&& 31 = b % 32 from Nat.and_two_pow_sub_one_eq_mod b 5]
theorem di_and63 (b : Nat) : (Int32.ofNat b).toInt64 &&& 63 = Int64.ofNat (b % 64) := by
  have h : (63 : Int64) = Int64.ofNat 63 := rfl
  rw [di_i2l, h, di_land0, show dI2l b &&& 63 = dI2l b % 64 from Nat.and_two_pow_sub_one_eq_mod _ 6]
  congr 1
  rw [di_i2l_eq]
  split <;> omega
theorem di_shl (a b : Nat) : Int32.ofNat a <<< (Int32.ofNat b &&& 31) = Int32.ofNat (dShl a b) := by
  have hb : b % 32 < 32 := Nat.mod_lt _ (by decide)
  rw [di_and31]
  refine Eq.trans ?_ (di_imod (a <<< (b % 32))).symm
  apply Int32.toBitVec_inj.mp
  rw [Int32.toBitVec_shiftLeft]
  apply BitVec.eq_of_toNat_eq
  show (BitVec.shiftLeft _ _).toNat = _
  rw [di_sm32 _ hb]
  show ((BitVec.ofNat 32 a) <<< (b % 32)).toNat = (BitVec.ofNat 32 (a <<< (b % 32))).toNat
  rw [BitVec.toNat_shiftLeft, BitVec.toNat_ofNat, BitVec.toNat_ofNat, Nat.shiftLeft_eq, Nat.shiftLeft_eq, Nat.mod_mul_mod]
theorem di_lshl (a b : Nat) : Int64.ofNat a <<< ((Int32.ofNat b).toInt64 &&& 63) = Int64.ofNat (dLShl a b) := by
  have hb : b % 64 < 64 := Nat.mod_lt _ (by decide)
  rw [di_and63]
  refine Eq.trans ?_ (di_jmod (a <<< (b % 64))).symm
  apply Int64.toBitVec_inj.mp
  rw [Int64.toBitVec_shiftLeft]
  apply BitVec.eq_of_toNat_eq
  show (BitVec.shiftLeft _ _).toNat = _
  rw [di_sm64 _ hb]
  show ((BitVec.ofNat 64 a) <<< (b % 64)).toNat = (BitVec.ofNat 64 (a <<< (b % 64))).toNat
  rw [BitVec.toNat_shiftLeft, BitVec.toNat_ofNat, BitVec.toNat_ofNat, Nat.shiftLeft_eq, Nat.shiftLeft_eq, Nat.mod_mul_mod]
theorem di_um64 (b : Nat) : ((Int32.ofNat b).toInt64.toUInt64 &&& Int64.toUInt64 63).toNat = b % 64 := by
  have h : ((Int32.ofNat b).toInt64 &&& 63).toUInt64 = (Int32.ofNat b).toInt64.toUInt64 &&& Int64.toUInt64 63 := rfl
  rw [← h, di_and63]
  show (BitVec.ofNat 64 (b % 64)).toNat = _
  rw [BitVec.toNat_ofNat]
  omega
theorem di_lushr (a b : Nat) : ((Int64.ofNat a).toUInt64 >>> ((Int32.ofNat b).toInt64.toUInt64 &&& Int64.toUInt64 63)).toInt64 = Int64.ofNat (dLUshr a b) := by
  have e : (Int64.ofNat a).toUInt64 >>> ((Int32.ofNat b).toInt64.toUInt64 &&& Int64.toUInt64 63) = UInt64.ofNat (dLUshr a b) := UInt64.toNat_inj.mp (by
    rw [UInt64.toNat_shiftRight, di_um64]
    have hd : dLUshr a b = (a % 18446744073709551616) >>> (b % 64) := rfl
    have h1 : (Int64.ofNat a).toUInt64.toNat = a % 18446744073709551616 := by
      show (BitVec.ofNat 64 a).toNat = _
      rw [BitVec.toNat_ofNat]
    rw [h1, hd, UInt64.toNat_ofNat', Nat.shiftRight_eq_div_pow, Nat.shiftRight_eq_div_pow, show b % 64 % 64 = b % 64 by omega]
    have h2 : a % 18446744073709551616 / 2 ^ (b % 64) ≤ a % 18446744073709551616 := Nat.div_le_self _ _
    omega)
  rw [e]
  rfl
end
section
/-! ===== a heap of words: values, cells, and how they lie in the machine's heap ===== -/
abbrev dV : Type := Nat ⊕ Nat ⊕ Nat
abbrev dC : Type := Nat × Nat × Nat
abbrev dH : Type := Nat × Nat × List (List dC)
/-- a value: an int, a long, or (0) null and (k + 1) the cell k, which lies at b k -/
def dv (b : Nat → Nat) : dV → Value
  | .inl n => .int (Int32.ofNat n)
  | .inr (.inl n) => .long (Int64.ofNat n)
  | .inr (.inr 0) => .null
  | .inr (.inr (k + 1)) => .ref (b k)
/-- number k of the words of w bits in c (tables) -/
def wq (w c k : Nat) : Nat := Nat.mod (Nat.shiftRight c (Nat.mul w k)) (Nat.pow 2 w)
/-- number k of the words of w bits in c, behind 64 bits that stand for nothing (they only tell contents apart at a glance) -/
def wd (w c k : Nat) : Nat := Nat.mod (Nat.shiftRight c (Nat.add (Nat.mul w k) 64)) (Nat.pow 2 w)
def dmx (k v : Nat) : Nat := Nat.mod (Nat.mul v (Nat.add (Nat.mul k 11400714819323198485) 14029467366897019727)) 18446744073709551616
def wst (w c k v : Nat) : Nat := Nat.xor (Nat.xor c (Nat.shiftLeft (Nat.xor (wd w c k) v) (Nat.add (Nat.mul w k) 64))) (Nat.xor (dmx k (wd w c k)) (dmx k v))
theorem wd_tb (w c k i : Nat) : (wd w c k).testBit i = (decide (i < w) && c.testBit (w * k + 64 + i)) := by
  have h : wd w c k = (c >>> (w * k + 64)) % 2 ^ w := rfl
  rw [h, Nat.testBit_mod_two_pow, Nat.testBit_shiftRight]
theorem wd_lt (w c k : Nat) : wd w c k < 2 ^ w := Nat.mod_lt _ (Nat.two_pow_pos w)
theorem dmx_lt (k v : Nat) : dmx k v < 2 ^ 64 := Nat.mod_lt _ (by decide)
theorem wd_wst {w c k v : Nat} (j : Nat) (hv : v < 2 ^ w) : wd w (wst w c k v) j = if j = k then v else wd w c j := by
  obtain ⟨m, hm, hs⟩ : ∃ m, m < 2 ^ 64 ∧ wst w c k v = (c ^^^ ((wd w c k ^^^ v) <<< (w * k + 64))) ^^^ m := ⟨_, Nat.xor_lt_two_pow (dmx_lt k (wd w c k)) (dmx_lt k v), rfl⟩
  have hx : wd w c k ^^^ v < 2 ^ w := Nat.xor_lt_two_pow (wd_lt w c k) hv
  apply Nat.eq_of_testBit_eq
  intro i
  have hmi : m.testBit (w * j + 64 + i) = false := Nat.testBit_lt_two_pow (Nat.lt_of_lt_of_le hm (Nat.pow_le_pow_right (by decide) (by omega)))
  rw [wd_tb, hs, Nat.testBit_xor, hmi, Bool.xor_false, Nat.testBit_xor, Nat.testBit_shiftLeft]
  by_cases hi : i < w
  · by_cases hj : j = k
    · subst hj
      rw [if_pos rfl, show w * j + 64 + i - (w * j + 64) = i by omega, Nat.testBit_xor, wd_tb]
      have h1 : w * j + 64 + i ≥ w * j + 64 := by omega
      simp [hi, h1]
    · rw [if_neg hj, wd_tb]
      by_cases hk : w * j + 64 + i ≥ w * k + 64
      · have hjk : k + 1 ≤ j := by
          rcases Nat.lt_or_ge k j with q | q
          · exact q
          · exfalso
            have q2 : j + 1 ≤ k := by omega
            have q3 : w * (j + 1) ≤ w * k := Nat.mul_le_mul_left w q2
            rw [Nat.mul_add] at q3
            omega
        have q3 : w * (k + 1) ≤ w * j := Nat.mul_le_mul_left w hjk
        rw [Nat.mul_add] at q3
        have h2 : (wd w c k ^^^ v).testBit (w * j + 64 + i - (w * k + 64)) = false := Nat.testBit_lt_two_pow (Nat.lt_of_lt_of_le hx (Nat.pow_le_pow_right (by decide) (by omega)))
        simp [hi, h2]
      · simp [hi, hk]
  · have h0 : (decide (i < w)) = false := by simp [hi]
    rw [h0, Bool.false_and]
    by_cases hj : j = k
    · rw [if_pos hj]
      exact (Nat.testBit_lt_two_pow (Nat.lt_of_lt_of_le hv (Nat.pow_le_pow_right (by decide) (by omega)))).symm
    · rw [if_neg hj, wd_tb, h0, Bool.false_and]
theorem wd_0 (w k : Nat) : wd w 0 k = 0 := by
  have h : wd w 0 k = (0 >>> (w * k + 64)) % 2 ^ w := rfl
  rw [h, Nat.zero_shiftRight, Nat.zero_mod]
-- strict steps: a number is reckoned out before it goes on
noncomputable def fo {α : Type} (n : Nat) (k : Nat → α) : α := Nat.rec (motive := fun _ => α) (k 0) (fun m _ => k (Nat.succ m)) n
theorem fo_eq {α : Type} (n : Nat) (k : Nat → α) : fo n k = k n := by cases n <;> rfl
noncomputable def nth {α : Type} (l : List α) : Nat → Option α := List.rec (motive := fun _ => Nat → Option α) (fun _ => none) (fun a _ ih n => Nat.rec (motive := fun _ => Option α) (some a) (fun m _ => ih m) n) l
theorem nth_eq {α : Type} (l : List α) (n : Nat) : nth l n = l[n]? := by
  induction l generalizing n with
  | nil => rfl
  | cons a t ih => cases n with
    | zero => rfl
    | succ m => rw [List.getElem?_cons_succ, ← ih m]; rfl
noncomputable def setc {α β : Type} (l : List α) : Nat → α → (List α → β) → β → β := List.rec (motive := fun _ => Nat → α → (List α → β) → β → β) (fun _ _ _ z => z) (fun a t ih n c k z => Nat.rec (motive := fun _ => β) (k (c :: t)) (fun m _ => ih m c (fun u => k (a :: u)) z) n) l
theorem setc_eq {α β : Type} (l : List α) (n : Nat) (c : α) (k : List α → β) (z : β) : setc l n c k z = if n < l.length then k (l.set n c) else z := by
  induction l generalizing n k with
  | nil => rfl
  | cons a t ih => cases n with
    | zero => rfl
    | succ m =>
      show setc t m c (fun u => k (a :: u)) z = _
      rw [ih]
      simp only [List.length_cons, Nat.add_lt_add_iff_right, List.set_cons_succ]
noncomputable def appc {α β : Type} (l : List α) : α → (List α → β) → β := List.rec (motive := fun _ => α → (List α → β) → β) (fun c k => k [c]) (fun a _ ih c k => ih c (fun u => k (a :: u))) l
theorem appc_eq {α β : Type} (l : List α) (c : α) (k : List α → β) : appc l c k = k (l ++ [c]) := by
  induction l generalizing k with
  | nil => rfl
  | cons a t ih =>
    show appc t c (fun u => k (a :: u)) = _
    rw [ih]
    rfl
/-- the cell k -/
noncomputable def hat (h : dH) (k : Nat) : Option dC := match nth h.2.2 (Nat.div k 16) with
  | none => none
  | some ch => nth ch (Nat.mod k 16)
def hwf (h : dH) : Prop := h.2.2.length = (h.1 + 15) / 16 ∧ ∀ (i : Nat) (ch : List dC), h.2.2[i]? = some ch → ch.length = min 16 (h.1 - 16 * i)
theorem hat_eq (h : dH) (k : Nat) : hat h k = (h.2.2[k / 16]?).bind (fun ch => ch[k % 16]?) := by
  unfold hat
  rw [nth_eq]
  show (match h.2.2[k / 16]? with | none => none | some ch => nth ch (Nat.mod k 16)) = _
  cases h.2.2[k / 16]? with
  | none => rfl
  | some ch => exact nth_eq ch _
theorem hat_lt {h : dH} (hw : hwf h) {k : Nat} {c : dC} (e : hat h k = some c) : k < h.1 := by
  rw [hat_eq] at e
  cases hc : h.2.2[k / 16]? with
  | none => rw [hc] at e; cases e
  | some ch =>
    rw [hc] at e
    have h1 := hw.2 _ _ hc
    have h2 : k % 16 < ch.length := (List.getElem?_eq_some_iff.mp e).1
    omega
noncomputable def hset {β : Type} (h : dH) (k : Nat) (c : dC) (f : dH → β) (z : β) : β := match h with
  | (n, s, cs) => match nth cs (Nat.div k 16) with
    | none => z
    | some ch => setc ch (Nat.mod k 16) c (fun ch' => setc cs (Nat.div k 16) ch' (fun cs' => f (n, s, cs')) z) z
theorem hset_spec {β : Type} {h : dH} {k : Nat} {c0 c : dC} (f : dH → β) (z : β) (hw : hwf h) (e : hat h k = some c0) : ∃ h' : dH, hset h k c f z = f h' ∧ h'.1 = h.1 ∧ h'.2.1 = h.2.1 ∧ hwf h' ∧ ∀ j, hat h' j = if j = k then some c else hat h j := by
  obtain ⟨n, s, cs⟩ := h
  rw [hat_eq] at e
  dsimp only at e
  cases hc : cs[k / 16]? with
  | none => rw [hc] at e; cases e
  | some ch =>
    rw [hc] at e
    have h2 : k % 16 < ch.length := (List.getElem?_eq_some_iff.mp e).1
    have h3 : k / 16 < cs.length := (List.getElem?_eq_some_iff.mp hc).1
    refine ⟨(n, s, cs.set (k / 16) (ch.set (k % 16) c)), ?_, rfl, rfl, ?_, fun j => ?_⟩
    · unfold hset
      dsimp only
      rw [nth_eq, show cs[Nat.div k 16]? = some ch from hc]
      dsimp only
      rw [setc_eq, if_pos (show Nat.mod k 16 < ch.length from h2), setc_eq, if_pos (show Nat.div k 16 < cs.length from h3)]
      rfl
    · refine ⟨by simpa using hw.1, fun i d hd => ?_⟩
      dsimp only at hd ⊢
      rw [List.getElem?_set] at hd
      split at hd
      · rename_i hi
        subst hi
        cases hd
        rw [List.length_set]
        exact hw.2 _ _ hc
      · exact hw.2 _ _ hd
    · rw [hat_eq, hat_eq]
      dsimp only
      rw [List.getElem?_set]
      by_cases hj : k / 16 = j / 16
      · rw [if_pos hj, if_pos h3, ← hj, hc]
        show (ch.set (k % 16) c)[j % 16]? = if j = k then some c else ch[j % 16]?
        rw [List.getElem?_set]
        by_cases hm : k % 16 = j % 16
        · rw [if_pos hm, if_pos (by omega), if_pos (by omega)]
        · rw [if_neg hm, if_neg (by omega)]
      · rw [if_neg hj, if_neg (by omega)]
noncomputable def hpush {β : Type} (h : dH) (c : dC) (sz : Nat) (f : dH → β) (z : β) : β := match h with
  | (n, s, cs) => fo (Nat.add s sz) fun s' => match Nat.mod n 16 with
    | 0 => appc cs [c] (fun cs' => f (Nat.succ n, s', cs'))
    | _ => match nth cs (Nat.div n 16) with
      | none => z
      | some ch => appc ch c (fun ch' => setc cs (Nat.div n 16) ch' (fun cs' => f (Nat.succ n, s', cs')) z)
theorem hpush_spec {β : Type} {h : dH} {c : dC} {sz : Nat} (f : dH → β) (z : β) (hw : hwf h) : ∃ h' : dH, hpush h c sz f z = f h' ∧ h'.1 = h.1 + 1 ∧ h'.2.1 = h.2.1 + sz ∧ hwf h' ∧ ∀ j, hat h' j = if j = h.1 then some c else hat h j := by
  obtain ⟨n, s, cs⟩ := h
  obtain ⟨hw1, hw2⟩ := hw
  dsimp only at hw1 hw2
  have hex : hpush (n, s, cs) c sz f z = (match Nat.mod n 16 with
    | 0 => appc cs [c] (fun cs' => f (Nat.succ n, Nat.add s sz, cs'))
    | _ => match nth cs (Nat.div n 16) with
      | none => z
      | some ch => appc ch c (fun ch' => setc cs (Nat.div n 16) ch' (fun cs' => f (Nat.succ n, Nat.add s sz, cs')) z)) := by
    unfold hpush
    dsimp only
    rw [fo_eq]
  by_cases hn : n % 16 = 0
  · refine ⟨(n + 1, s + sz, cs ++ [[c]]), ?_, rfl, rfl, ⟨by simp; omega, fun i d hd => ?_⟩, fun j => ?_⟩
    · rw [hex, show Nat.mod n 16 = 0 from hn]
      show appc cs [c] _ = _
      rw [appc_eq]
      rfl
    · dsimp only at hd ⊢
      by_cases hi : i < cs.length
      · rw [List.getElem?_append_left hi] at hd
        rw [hw2 _ _ hd]; omega
      · rw [List.getElem?_append_right (by omega)] at hd
        have h0 : i - cs.length < 1 := (List.getElem?_eq_some_iff.mp hd).1
        rw [show i - cs.length = 0 by omega] at hd
        cases hd
        show 1 = _
        omega
    · rw [hat_eq, hat_eq]
      dsimp only
      by_cases hi : j / 16 < cs.length
      · rw [List.getElem?_append_left hi, if_neg (by omega)]
      · rw [List.getElem?_append_right (by omega)]
        rw [show cs[j / 16]? = none from List.getElem?_eq_none (by omega)]
        by_cases hj : j / 16 = cs.length
        · rw [show j / 16 - cs.length = 0 by omega]
          show [c][j % 16]? = _
          by_cases hjn : j = n
          · rw [if_pos hjn, show j % 16 = 0 by omega]; try rfl
          · rw [if_neg hjn]
            exact List.getElem?_eq_none (by simp; omega)
        · rw [show ([[c]] : List (List dC))[j / 16 - cs.length]? = none from List.getElem?_eq_none (by simp; omega), if_neg (by omega)]
  · have hlt : n / 16 < cs.length := by omega
    obtain ⟨ch, hc⟩ : ∃ ch, cs[n / 16]? = some ch := ⟨_, List.getElem?_eq_getElem hlt⟩
    have hl := hw2 _ _ hc
    refine ⟨(n + 1, s + sz, cs.set (n / 16) (ch ++ [c])), ?_, rfl, rfl, ⟨by simp; omega, fun i d hd => ?_⟩, fun j => ?_⟩
    · rw [hex]
      obtain ⟨r, hr⟩ : ∃ r, Nat.mod n 16 = r + 1 := ⟨n % 16 - 1, by show n % 16 = _; omega⟩
      rw [hr]
      show (match nth cs (Nat.div n 16) with | none => z | some ch => _) = _
      rw [nth_eq, show cs[Nat.div n 16]? = some ch from hc]
      dsimp only
      rw [appc_eq, setc_eq, if_pos (show Nat.div n 16 < cs.length from hlt)]
      rfl
    · dsimp only at hd ⊢
      rw [List.getElem?_set] at hd
      split at hd
      · rename_i hi
        subst hi
        cases hd
        rw [List.length_append, hl]
        simp
        omega
      · rw [hw2 _ _ hd]
        have h0 := (List.getElem?_eq_some_iff.mp hd).1
        omega
    · rw [hat_eq, hat_eq]
      dsimp only
      rw [List.getElem?_set]
      by_cases hj : n / 16 = j / 16
      · rw [if_pos hj, if_pos hlt, ← hj, hc]
        show (ch ++ [c])[j % 16]? = if j = n then some c else ch[j % 16]?
        by_cases hm : j % 16 < ch.length
        · rw [List.getElem?_append_left hm, if_neg (by omega)]
        · rw [List.getElem?_append_right (by omega), show ch[j % 16]? = none from List.getElem?_eq_none (by omega)]
          by_cases hjn : j = n
          · rw [if_pos hjn, show j % 16 - ch.length = 0 by omega]; rfl
          · rw [if_neg hjn]
            exact List.getElem?_eq_none (by simp; omega)
      · rw [if_neg hj, if_neg (by omega)]
end
section
/-! ===== bytes of one content put into another ===== -/
def dch (c p n : Nat) : Nat := Nat.mod (Nat.shiftRight c (Nat.add (Nat.mul 8 p) 64)) (Nat.pow 2 (Nat.mul 8 n))
def dcp (cs ct sp dp n : Nat) : Nat := Nat.xor (Nat.xor ct (Nat.shiftLeft (Nat.xor (dch cs sp n) (dch ct dp n)) (Nat.add (Nat.mul 8 dp) 64))) (dmx (Nat.add dp n) (Nat.xor (dch cs sp n) (dch ct dp n)))
theorem dch_tb (c p n i : Nat) : (dch c p n).testBit i = (decide (i < 8 * n) && c.testBit (8 * p + 64 + i)) := by
  have h : dch c p n = (c >>> (8 * p + 64)) % 2 ^ (8 * n) := rfl
  rw [h, Nat.testBit_mod_two_pow, Nat.testBit_shiftRight]
theorem wd_dcp (cs ct sp dp n j : Nat) : wd 8 (dcp cs ct sp dp n) j = if dp ≤ j ∧ j < dp + n then wd 8 cs (sp + (j - dp)) else wd 8 ct j := by
  obtain ⟨m, hm, hs⟩ : ∃ m, m < 2 ^ 64 ∧ dcp cs ct sp dp n = (ct ^^^ ((dch cs sp n ^^^ dch ct dp n) <<< (8 * dp + 64))) ^^^ m := ⟨_, dmx_lt _ _, rfl⟩
  apply Nat.eq_of_testBit_eq
  intro i
  have hmi : m.testBit (8 * j + 64 + i) = false := Nat.testBit_lt_two_pow (Nat.lt_of_lt_of_le hm (Nat.pow_le_pow_right (by decide) (by omega)))
  rw [wd_tb, hs, Nat.testBit_xor, hmi, Bool.xor_false, Nat.testBit_xor, Nat.testBit_shiftLeft]
  by_cases hi : i < 8
  · by_cases hj : dp ≤ j ∧ j < dp + n
    · rw [if_pos hj, Nat.testBit_xor, dch_tb, dch_tb, wd_tb]
      have h1 : 8 * j + 64 + i ≥ 8 * dp + 64 := by omega
      have h2 : 8 * j + 64 + i - (8 * dp + 64) < 8 * n := by omega
      rw [show 8 * dp + 64 + (8 * j + 64 + i - (8 * dp + 64)) = 8 * j + 64 + i by omega, show 8 * sp + 64 + (8 * j + 64 + i - (8 * dp + 64)) = 8 * (sp + (j - dp)) + 64 + i by omega]
      simp only [hi, h1, h2, decide_true, Bool.true_and, ge_iff_le]
      cases ct.testBit (8 * j + 64 + i) <;> cases cs.testBit (8 * (sp + (j - dp)) + 64 + i) <;> rfl
    · rw [if_neg hj, wd_tb]
      by_cases hk : 8 * j + 64 + i ≥ 8 * dp + 64
      · have h2 : ¬ 8 * j + 64 + i - (8 * dp + 64) < 8 * n := by omega
        rw [Nat.testBit_xor, dch_tb, dch_tb]
        simp [hi, h2]
      · simp [hi, hk]
  · split <;> simp [wd_tb, hi]
end
section
/-! ===== names (the printed ones of this claim), and tables of words out of them ===== -/
def RX0 : String := "ItemJudge$Checker"
def TX0 : u_T := fun k => match k with
  | 0 => ("ItemJudge$Checker", "rules", "LItemJudge$Rules;", false)
  | 1 => ("ItemJudge$Checker", "tokens", "LItemJudge$Tokens;", false)
  | 2 => ("ItemJudge$Checker", "tree", "LItemJudge$Tree;", false)
  | 3 => ("ItemJudge$Checker", "blamed", "I", false)
  | _ => ("ItemJudge$Checker", "fault", "I", false)
def tyX0 : Nat → FieldType := fun k => match k with
  | 0 => .object "ItemJudge$Rules"
  | 1 => .object "ItemJudge$Tokens"
  | 2 => .object "ItemJudge$Tree"
  | 3 => .int
  | _ => .int
abbrev wsX00 : List Cond := u_ws RX0 TX0 5
theorem nmX0 : ∀ a, a < 5 → ∀ b, b < 5 → a ≠ b → (TX0 a).2.1 ≠ (TX0 b).2.1 := by decide +kernel
theorem tyX0_ok : ∀ k, k < 5 → parseFieldDescriptor (TX0 k).2.2.1 = some (tyX0 k) := by decide +kernel
abbrev cX0_init : ByteArray := prog_2_method_1_code
def yX0_init : MethodName := ⟨RX0, "<init>", "(LItemJudge$Rules;)V"⟩
abbrev cX0_blamedToken : ByteArray := prog_2_method_2_code
def yX0_blamedToken : MethodName := ⟨RX0, "blamedToken", "()I"⟩
abbrev cX0_firstFault : ByteArray := prog_2_method_3_code
def yX0_firstFault : MethodName := ⟨RX0, "firstFault", "(LItemJudge$Rules;)I"⟩
abbrev cX0_bind : ByteArray := prog_2_method_4_code
def yX0_bind : MethodName := ⟨RX0, "bind", "(LItemJudge$Rules;)V"⟩
abbrev cX0_blame : ByteArray := prog_2_method_5_code
def yX0_blame : MethodName := ⟨RX0, "blame", "(II)V"⟩
abbrev cX0_collect : ByteArray := prog_2_method_6_code
def yX0_collect : MethodName := ⟨RX0, "collect", "(I)V"⟩
abbrev cX0_sameParams : ByteArray := prog_2_method_7_code
def yX0_sameParams : MethodName := ⟨RX0, "sameParams", "(II)Z"⟩
abbrev cX0_checkParams : ByteArray := prog_2_method_8_code
def yX0_checkParams : MethodName := ⟨RX0, "checkParams", "(I)V"⟩
abbrev cX0_bindNode : ByteArray := prog_2_method_9_code
def yX0_bindNode : MethodName := ⟨RX0, "bindNode", "(I)V"⟩
abbrev cX0_tellsGroup : ByteArray := prog_2_method_10_code
def yX0_tellsGroup : MethodName := ⟨RX0, "tellsGroup", "(I)Z"⟩
abbrev cX0_link : ByteArray := prog_2_method_11_code
def yX0_link : MethodName := ⟨RX0, "link", "(I)V"⟩
abbrev cX0_checkFloats : ByteArray := prog_2_method_12_code
def yX0_checkFloats : MethodName := ⟨RX0, "checkFloats", "()V"⟩
abbrev cX0_checkNode : ByteArray := prog_2_method_13_code
def yX0_checkNode : MethodName := ⟨RX0, "checkNode", "(I)V"⟩
abbrev cX0_checkName : ByteArray := prog_2_method_14_code
def yX0_checkName : MethodName := ⟨RX0, "checkName", "(II)V"⟩
abbrev cX0_canUnwrap : ByteArray := prog_2_method_15_code
def yX0_canUnwrap : MethodName := ⟨RX0, "canUnwrap", "(II)Z"⟩
abbrev cX0_needNumber : ByteArray := prog_2_method_16_code
def yX0_needNumber : MethodName := ⟨RX0, "needNumber", "(I)V"⟩
abbrev cX0_checkControl : ByteArray := prog_2_method_17_code
def yX0_checkControl : MethodName := ⟨RX0, "checkControl", "(II)V"⟩
abbrev cX0_nameEntries : ByteArray := prog_2_method_18_code
def yX0_nameEntries : MethodName := ⟨RX0, "nameEntries", "()V"⟩
abbrev cX0_keepBoxes : ByteArray := prog_2_method_19_code
def yX0_keepBoxes : MethodName := ⟨RX0, "keepBoxes", "()V"⟩
def RX1 : String := "ItemJudge$Instances"
def TX1 : u_T := fun k => match k with
  | 0 => ("ItemJudge$Instances", "tree", "LItemJudge$Tree;", true)
  | 1 => ("ItemJudge$Instances", "calls", "[I", true)
  | 2 => ("ItemJudge$Instances", "madeOf", "[I", true)
  | 3 => ("ItemJudge$Instances", "argument", "[I", true)
  | 4 => ("ItemJudge$Instances", "argumentIn", "[I", true)
  | 5 => ("ItemJudge$Instances", "newArgument", "[I", true)
  | 6 => ("ItemJudge$Instances", "newIn", "[I", true)
  | 7 => ("ItemJudge$Instances", "count", "I", false)
  | 8 => ("ItemJudge$Instances", "box", "I", false)
  | 9 => ("ItemJudge$Instances", "boxIn", "I", false)
  | 10 => ("ItemJudge$Instances", "head", "I", false)
  | 11 => ("ItemJudge$Instances", "headIn", "I", false)
  | _ => ("ItemJudge$Instances", "spot", "I", false)
def tyX1 : Nat → FieldType := fun k => match k with
  | 0 => .object "ItemJudge$Tree"
  | 1 => .array .int
  | 2 => .array .int
  | 3 => .array .int
  | 4 => .array .int
  | 5 => .array .int
  | 6 => .array .int
  | 7 => .int
  | 8 => .int
  | 9 => .int
  | 10 => .int
  | 11 => .int
  | _ => .int
abbrev wsX10 : List Cond := u_ws RX1 TX1 13
theorem nmX1 : ∀ a, a < 13 → ∀ b, b < 13 → a ≠ b → (TX1 a).2.1 ≠ (TX1 b).2.1 := by decide +kernel
theorem tyX1_ok : ∀ k, k < 13 → parseFieldDescriptor (TX1 k).2.2.1 = some (tyX1 k) := by decide +kernel
abbrev cX1_init : ByteArray := prog_3_method_1_code
def yX1_init : MethodName := ⟨RX1, "<init>", "(LItemJudge$Tree;)V"⟩
abbrev cX1_ruleOf : ByteArray := prog_3_method_2_code
def yX1_ruleOf : MethodName := ⟨RX1, "ruleOf", "(I)I"⟩
abbrev cX1_argumentOf : ByteArray := prog_3_method_3_code
def yX1_argumentOf : MethodName := ⟨RX1, "argumentOf", "(II)I"⟩
abbrev cX1_argumentPlace : ByteArray := prog_3_method_4_code
def yX1_argumentPlace : MethodName := ⟨RX1, "argumentPlace", "(II)I"⟩
abbrev cX1_lead : ByteArray := prog_3_method_5_code
def yX1_lead : MethodName := ⟨RX1, "lead", "(II)I"⟩
abbrev cX1_unwrap : ByteArray := prog_3_method_6_code
def yX1_unwrap : MethodName := ⟨RX1, "unwrap", "(LItemJudge$Rules;II)V"⟩
abbrev cX1_follow : ByteArray := prog_3_method_7_code
def yX1_follow : MethodName := ⟨RX1, "follow", "(LItemJudge$Rules;II)V"⟩
abbrev cX1_ledTo : ByteArray := prog_3_method_8_code
def yX1_ledTo : MethodName := ⟨RX1, "ledTo", "(I)I"⟩
abbrev cX1_fill : ByteArray := prog_3_method_9_code
def yX1_fill : MethodName := ⟨RX1, "fill", "(LItemJudge$Rules;)Z"⟩
abbrev cX1_numberCalls : ByteArray := prog_3_method_10_code
def yX1_numberCalls : MethodName := ⟨RX1, "numberCalls", "(LItemJudge$Rules;)V"⟩
abbrev cX1_callAll : ByteArray := prog_3_method_11_code
def yX1_callAll : MethodName := ⟨RX1, "callAll", "(LItemJudge$Rules;II)Z"⟩
abbrev cX1_callStatement : ByteArray := prog_3_method_12_code
def yX1_callStatement : MethodName := ⟨RX1, "callStatement", "(LItemJudge$Rules;II)Z"⟩
abbrev cX1_called : ByteArray := prog_3_method_13_code
def yX1_called : MethodName := ⟨RX1, "called", "(LItemJudge$Rules;II)I"⟩
abbrev cX1_bindArgument : ByteArray := prog_3_method_14_code
def yX1_bindArgument : MethodName := ⟨RX1, "bindArgument", "(LItemJudge$Rules;III)V"⟩
abbrev cX1_hasParams : ByteArray := prog_3_method_15_code
def yX1_hasParams : MethodName := ⟨RX1, "hasParams", "(I)Z"⟩
abbrev cX1_holdsParams : ByteArray := prog_3_method_16_code
def yX1_holdsParams : MethodName := ⟨RX1, "holdsParams", "(I)Z"⟩
abbrev cX1_sameArguments : ByteArray := prog_3_method_17_code
def yX1_sameArguments : MethodName := ⟨RX1, "sameArguments", "(II)Z"⟩
def RX2 : String := "ItemJudge$Items"
def TX2 : u_T := fun k => match k with
  | 0 => ("ItemJudge$Items", "data", "[B", true)
  | 1 => ("ItemJudge$Items", "major", "[I", true)
  | 2 => ("ItemJudge$Items", "width", "[I", true)
  | 3 => ("ItemJudge$Items", "start", "[I", true)
  | 4 => ("ItemJudge$Items", "behind", "[I", true)
  | 5 => ("ItemJudge$Items", "parent", "[I", true)
  | 6 => ("ItemJudge$Items", "after", "[I", true)
  | 7 => ("ItemJudge$Items", "depth", "[I", true)
  | 8 => ("ItemJudge$Items", "level", "[I", true)
  | 9 => ("ItemJudge$Items", "content", "[I", true)
  | 10 => ("ItemJudge$Items", "inside", "[I", true)
  | 11 => ("ItemJudge$Items", "number", "[J", true)
  | 12 => ("ItemJudge$Items", "top", "I", false)
  | 13 => ("ItemJudge$Items", "topJoined", "I", false)
  | 14 => ("ItemJudge$Items", "count", "I", false)
  | 15 => ("ItemJudge$Items", "limit", "I", false)
  | 16 => ("ItemJudge$Items", "region", "I", false)
  | 17 => ("ItemJudge$Items", "stop", "I", false)
  | 18 => ("ItemJudge$Items", "joined", "I", false)
  | _ => ("ItemJudge$Items", "fault", "I", false)
def tyX2 : Nat → FieldType := fun k => match k with
  | 0 => .array .byte
  | 1 => .array .int
  | 2 => .array .int
  | 3 => .array .int
  | 4 => .array .int
  | 5 => .array .int
  | 6 => .array .int
  | 7 => .array .int
  | 8 => .array .int
  | 9 => .array .int
  | 10 => .array .int
  | 11 => .array .long
  | 12 => .int
  | 13 => .int
  | 14 => .int
  | 15 => .int
  | 16 => .int
  | 17 => .int
  | 18 => .int
  | _ => .int
abbrev wsX20 : List Cond := u_ws RX2 TX2 20
theorem nmX2 : ∀ a, a < 20 → ∀ b, b < 20 → a ≠ b → (TX2 a).2.1 ≠ (TX2 b).2.1 := by decide +kernel
theorem tyX2_ok : ∀ k, k < 20 → parseFieldDescriptor (TX2 k).2.2.1 = some (tyX2 k) := by decide +kernel
abbrev cX2_init : ByteArray := prog_4_method_1_code
def yX2_init : MethodName := ⟨RX2, "<init>", "()V"⟩
abbrev cX2_isTop : ByteArray := prog_4_method_2_code
def yX2_isTop : MethodName := ⟨RX2, "isTop", "(I)Z"⟩
abbrev cX2_size : ByteArray := prog_4_method_3_code
def yX2_size : MethodName := ⟨RX2, "size", "()I"⟩
abbrev cX2_faultPlace : ByteArray := prog_4_method_4_code
def yX2_faultPlace : MethodName := ⟨RX2, "faultPlace", "()I"⟩
abbrev cX2_majorOf : ByteArray := prog_4_method_5_code
def yX2_majorOf : MethodName := ⟨RX2, "majorOf", "(I)I"⟩
abbrev cX2_numberOf : ByteArray := prog_4_method_6_code
def yX2_numberOf : MethodName := ⟨RX2, "numberOf", "(I)J"⟩
abbrev cX2_widthOf : ByteArray := prog_4_method_7_code
def yX2_widthOf : MethodName := ⟨RX2, "widthOf", "(I)I"⟩
abbrev cX2_afterOf : ByteArray := prog_4_method_8_code
def yX2_afterOf : MethodName := ⟨RX2, "afterOf", "(I)I"⟩
abbrev cX2_startOf : ByteArray := prog_4_method_9_code
def yX2_startOf : MethodName := ⟨RX2, "startOf", "(I)I"⟩
abbrev cX2_behindOf : ByteArray := prog_4_method_10_code
def yX2_behindOf : MethodName := ⟨RX2, "behindOf", "(I)I"⟩
abbrev cX2_byteOf : ByteArray := prog_4_method_11_code
def yX2_byteOf : MethodName := ⟨RX2, "byteOf", "(IJ)I"⟩
abbrev cX2_told : ByteArray := prog_4_method_13_code
def yX2_told : MethodName := ⟨RX2, "told", "(II)J"⟩
abbrev cX2_take : ByteArray := prog_4_method_14_code
def yX2_take : MethodName := ⟨RX2, "take", "([BI)Z"⟩
abbrev cX2_readWhole : ByteArray := prog_4_method_15_code
def yX2_readWhole : MethodName := ⟨RX2, "readWhole", "([BIII)Z"⟩
abbrev cX2_open : ByteArray := prog_4_method_16_code
def yX2_open : MethodName := ⟨RX2, "open", "(III)V"⟩
abbrev cX2_within : ByteArray := prog_4_method_17_code
def yX2_within : MethodName := ⟨RX2, "within", "(I)I"⟩
abbrev cX2_bad : ByteArray := prog_4_method_18_code
def yX2_bad : MethodName := ⟨RX2, "bad", "(I)I"⟩
abbrev cX2_readItem : ByteArray := prog_4_method_19_code
def yX2_readItem : MethodName := ⟨RX2, "readItem", "(III)I"⟩
abbrev cX2_readHead : ByteArray := prog_4_method_20_code
def yX2_readHead : MethodName := ⟨RX2, "readHead", "(II)I"⟩
abbrev cX2_readString : ByteArray := prog_4_method_21_code
def yX2_readString : MethodName := ⟨RX2, "readString", "(III)I"⟩
abbrev cX2_behindBytes : ByteArray := prog_4_method_22_code
def yX2_behindBytes : MethodName := ⟨RX2, "behindBytes", "(IJ)I"⟩
abbrev cX2_readPartHead : ByteArray := prog_4_method_23_code
def yX2_readPartHead : MethodName := ⟨RX2, "readPartHead", "(I)I"⟩
abbrev cX2_partSize : ByteArray := prog_4_method_24_code
def yX2_partSize : MethodName := ⟨RX2, "partSize", "(I)J"⟩
abbrev cX2_readList : ByteArray := prog_4_method_26_code
def yX2_readList : MethodName := ⟨RX2, "readList", "(IIII)I"⟩
def RX3 : String := "ItemJudge$Judge"
def TX3 : u_T := fun k => match k with
  | 0 => ("ItemJudge$Judge", "rules", "LItemJudge$Rules;", false)
  | 1 => ("ItemJudge$Judge", "tree", "LItemJudge$Tree;", false)
  | 2 => ("ItemJudge$Judge", "instances", "LItemJudge$Instances;", false)
  | 3 => ("ItemJudge$Judge", "items", "LItemJudge$Items;", true)
  | 4 => ("ItemJudge$Judge", "memo", "LItemJudge$Memo;", true)
  | 5 => ("ItemJudge$Judge", "leaves", "LItemJudge$Leaves;", true)
  | 6 => ("ItemJudge$Judge", "frames", "[I", true)
  | 7 => ("ItemJudge$Judge", "top", "I", false)
  | 8 => ("ItemJudge$Judge", "goNode", "I", false)
  | 9 => ("ItemJudge$Judge", "goIn", "I", false)
  | 10 => ("ItemJudge$Judge", "goItem", "I", false)
  | 11 => ("ItemJudge$Judge", "group", "I", false)
  | 12 => ("ItemJudge$Judge", "groupIn", "I", false)
  | 13 => ("ItemJudge$Judge", "fits", "[I", true)
  | 14 => ("ItemJudge$Judge", "fitted", "I", false)
  | 15 => ("ItemJudge$Judge", "wayKnown", "[J", true)
  | _ => ("ItemJudge$Judge", "wayEnds", "[J", true)
def tyX3 : Nat → FieldType := fun k => match k with
  | 0 => .object "ItemJudge$Rules"
  | 1 => .object "ItemJudge$Tree"
  | 2 => .object "ItemJudge$Instances"
  | 3 => .object "ItemJudge$Items"
  | 4 => .object "ItemJudge$Memo"
  | 5 => .object "ItemJudge$Leaves"
  | 6 => .array .int
  | 7 => .int
  | 8 => .int
  | 9 => .int
  | 10 => .int
  | 11 => .int
  | 12 => .int
  | 13 => .array .int
  | 14 => .int
  | 15 => .array .long
  | _ => .array .long
abbrev wsX30 : List Cond := u_ws RX3 TX3 17
theorem nmX3 : ∀ a, a < 17 → ∀ b, b < 17 → a ≠ b → (TX3 a).2.1 ≠ (TX3 b).2.1 := by decide +kernel
theorem tyX3_ok : ∀ k, k < 17 → parseFieldDescriptor (TX3 k).2.2.1 = some (tyX3 k) := by decide +kernel
abbrev cX3_init : ByteArray := prog_5_method_1_code
def yX3_init : MethodName := ⟨RX3, "<init>", "(LItemJudge$Rules;LItemJudge$Items;LItemJudge$Memo;)V"⟩
abbrev cX3_obey : ByteArray := prog_5_method_2_code
def yX3_obey : MethodName := ⟨RX3, "obey", "(LItemJudge$Rules;)V"⟩
abbrev cX3_says : ByteArray := prog_5_method_3_code
def yX3_says : MethodName := ⟨RX3, "says", "(II)Z"⟩
abbrev cX3_goTo : ByteArray := prog_5_method_4_code
def yX3_goTo : MethodName := ⟨RX3, "goTo", "(III)I"⟩
abbrev cX3_look : ByteArray := prog_5_method_5_code
def yX3_look : MethodName := ⟨RX3, "look", "(II)I"⟩
abbrev cX3_set : ByteArray := prog_5_method_6_code
def yX3_set : MethodName := ⟨RX3, "set", "(III)V"⟩
abbrev cX3_push : ByteArray := prog_5_method_7_code
def yX3_push : MethodName := ⟨RX3, "push", "(IIII)I"⟩
abbrev cX3_enter : ByteArray := prog_5_method_8_code
def yX3_enter : MethodName := ⟨RX3, "enter", "(III)I"⟩
abbrev cX3_enterNamed : ByteArray := prog_5_method_9_code
def yX3_enterNamed : MethodName := ⟨RX3, "enterNamed", "(III)I"⟩
abbrev cX3_leave : ByteArray := prog_5_method_10_code
def yX3_leave : MethodName := ⟨RX3, "leave", "(II)I"⟩
abbrev cX3_kept : ByteArray := prog_5_method_11_code
def yX3_kept : MethodName := ⟨RX3, "kept", "(III)I"⟩
abbrev cX3_check : ByteArray := prog_5_method_12_code
def yX3_check : MethodName := ⟨RX3, "check", "(III)I"⟩
abbrev cX3_enterArray : ByteArray := prog_5_method_13_code
def yX3_enterArray : MethodName := ⟨RX3, "enterArray", "(III)I"⟩
abbrev cX3_pushGroup : ByteArray := prog_5_method_14_code
def yX3_pushGroup : MethodName := ⟨RX3, "pushGroup", "(IIIII)V"⟩
abbrev cX3_beginChoice : ByteArray := prog_5_method_15_code
def yX3_beginChoice : MethodName := ⟨RX3, "beginChoice", "(II)V"⟩
abbrev cX3_beginEntry : ByteArray := prog_5_method_16_code
def yX3_beginEntry : MethodName := ⟨RX3, "beginEntry", "(II)V"⟩
abbrev cX3_findGroup : ByteArray := prog_5_method_17_code
def yX3_findGroup : MethodName := ⟨RX3, "findGroup", "(II)V"⟩
abbrev cX3_goOn : ByteArray := prog_5_method_18_code
def yX3_goOn : MethodName := ⟨RX3, "goOn", "()I"⟩
abbrev cX3_known : ByteArray := prog_5_method_19_code
def yX3_known : MethodName := ⟨RX3, "known", "(II)I"⟩
abbrev cX3_ended : ByteArray := prog_5_method_20_code
def yX3_ended : MethodName := ⟨RX3, "ended", "(II)I"⟩
abbrev cX3_gained : ByteArray := prog_5_method_21_code
def yX3_gained : MethodName := ⟨RX3, "gained", "(II)I"⟩
abbrev cX3_take : ByteArray := prog_5_method_22_code
def yX3_take : MethodName := ⟨RX3, "take", "(III)V"⟩
abbrev cX3_endEntry : ByteArray := prog_5_method_23_code
def yX3_endEntry : MethodName := ⟨RX3, "endEntry", "(II)V"⟩
abbrev cX3_enterMap : ByteArray := prog_5_method_24_code
def yX3_enterMap : MethodName := ⟨RX3, "enterMap", "(III)I"⟩
abbrev cX3_goFit : ByteArray := prog_5_method_25_code
def yX3_goFit : MethodName := ⟨RX3, "goFit", "()I"⟩
abbrev cX3_asksMore : ByteArray := prog_5_method_26_code
def yX3_asksMore : MethodName := ⟨RX3, "asksMore", "(II)Z"⟩
abbrev cX3_ask : ByteArray := prog_5_method_27_code
def yX3_ask : MethodName := ⟨RX3, "ask", "(II)I"⟩
abbrev cX3_answered : ByteArray := prog_5_method_28_code
def yX3_answered : MethodName := ⟨RX3, "answered", "(II)I"⟩
abbrev cX3_isGiven : ByteArray := prog_5_method_29_code
def yX3_isGiven : MethodName := ⟨RX3, "isGiven", "(II)Z"⟩
abbrev cX3_ways : ByteArray := prog_5_method_30_code
def yX3_ways : MethodName := ⟨RX3, "ways", "(IIII)J"⟩
abbrev cX3_throughGroup : ByteArray := prog_5_method_31_code
def yX3_throughGroup : MethodName := ⟨RX3, "throughGroup", "(IIJI)J"⟩
abbrev cX3_waysWithin : ByteArray := prog_5_method_32_code
def yX3_waysWithin : MethodName := ⟨RX3, "waysWithin", "(IIII)J"⟩
abbrev cX3_choicesOf : ByteArray := prog_5_method_33_code
def yX3_choicesOf : MethodName := ⟨RX3, "choicesOf", "(I)I"⟩
abbrev cX3_giveTo : ByteArray := prog_5_method_34_code
def yX3_giveTo : MethodName := ⟨RX3, "giveTo", "(IIJ)J"⟩
def RX4 : String := "ItemJudge$Leaves"
def TX4 : u_T := fun k => match k with
  | 0 => ("ItemJudge$Leaves", "rules", "LItemJudge$Rules;", false)
  | 1 => ("ItemJudge$Leaves", "tokens", "LItemJudge$Tokens;", false)
  | 2 => ("ItemJudge$Leaves", "tree", "LItemJudge$Tree;", false)
  | 3 => ("ItemJudge$Leaves", "instances", "LItemJudge$Instances;", false)
  | 4 => ("ItemJudge$Leaves", "items", "LItemJudge$Items;", true)
  | 5 => ("ItemJudge$Leaves", "firstMask", "[J", true)
  | 6 => ("ItemJudge$Leaves", "firstStamp", "[I", true)
  | 7 => ("ItemJudge$Leaves", "lateMask", "[J", true)
  | 8 => ("ItemJudge$Leaves", "lateKey", "[J", true)
  | _ => ("ItemJudge$Leaves", "stamp", "I", false)
def tyX4 : Nat → FieldType := fun k => match k with
  | 0 => .object "ItemJudge$Rules"
  | 1 => .object "ItemJudge$Tokens"
  | 2 => .object "ItemJudge$Tree"
  | 3 => .object "ItemJudge$Instances"
  | 4 => .object "ItemJudge$Items"
  | 5 => .array .long
  | 6 => .array .int
  | 7 => .array .long
  | 8 => .array .long
  | _ => .int
abbrev wsX40 : List Cond := u_ws RX4 TX4 10
theorem nmX4 : ∀ a, a < 10 → ∀ b, b < 10 → a ≠ b → (TX4 a).2.1 ≠ (TX4 b).2.1 := by decide +kernel
theorem tyX4_ok : ∀ k, k < 10 → parseFieldDescriptor (TX4 k).2.2.1 = some (tyX4 k) := by decide +kernel
abbrev cX4_init : ByteArray := prog_6_method_1_code
def yX4_init : MethodName := ⟨RX4, "<init>", "(LItemJudge$Rules;LItemJudge$Items;)V"⟩
abbrev cX4_obey : ByteArray := prog_6_method_2_code
def yX4_obey : MethodName := ⟨RX4, "obey", "(LItemJudge$Rules;)V"⟩
abbrev cX4_isSo : ByteArray := prog_6_method_3_code
def yX4_isSo : MethodName := ⟨RX4, "isSo", "(II)Z"⟩
abbrev cX4_isTag : ByteArray := prog_6_method_4_code
def yX4_isTag : MethodName := ⟨RX4, "isTag", "(II)Z"⟩
abbrev cX4_compares : ByteArray := prog_6_method_5_code
def yX4_compares : MethodName := ⟨RX4, "compares", "(III)Z"⟩
abbrev cX4_isNumber : ByteArray := prog_6_method_6_code
def yX4_isNumber : MethodName := ⟨RX4, "isNumber", "(I)Z"⟩
abbrev cX4_inRange : ByteArray := prog_6_method_7_code
def yX4_inRange : MethodName := ⟨RX4, "inRange", "(II)Z"⟩
abbrev cX4_compare : ByteArray := prog_6_method_8_code
def yX4_compare : MethodName := ⟨RX4, "compare", "(II)I"⟩
abbrev cX4_hasBytes : ByteArray := prog_6_method_9_code
def yX4_hasBytes : MethodName := ⟨RX4, "hasBytes", "(II)Z"⟩
abbrev cX4_isSimple : ByteArray := prog_6_method_10_code
def yX4_isSimple : MethodName := ⟨RX4, "isSimple", "(II)Z"⟩
abbrev cX4_hasSize : ByteArray := prog_6_method_11_code
def yX4_hasSize : MethodName := ⟨RX4, "hasSize", "(III)Z"⟩
abbrev cX4_hasBits : ByteArray := prog_6_method_12_code
def yX4_hasBits : MethodName := ⟨RX4, "hasBits", "(III)Z"⟩
abbrev cX4_mask : ByteArray := prog_6_method_13_code
def yX4_mask : MethodName := ⟨RX4, "mask", "(IIII)J"⟩
abbrev cX4_maskOf : ByteArray := prog_6_method_14_code
def yX4_maskOf : MethodName := ⟨RX4, "maskOf", "(IIII)J"⟩
abbrev cX4_maskNamed : ByteArray := prog_6_method_15_code
def yX4_maskNamed : MethodName := ⟨RX4, "maskNamed", "(IIII)J"⟩
abbrev cX4_maskControl : ByteArray := prog_6_method_16_code
def yX4_maskControl : MethodName := ⟨RX4, "maskControl", "(IIII)J"⟩
abbrev cX4_sized : ByteArray := prog_6_method_17_code
def yX4_sized : MethodName := ⟨RX4, "sized", "(JI)J"⟩
abbrev cX4_withBits : ByteArray := prog_6_method_18_code
def yX4_withBits : MethodName := ⟨RX4, "withBits", "(JI)J"⟩
abbrev cX4_maskLeaf : ByteArray := prog_6_method_19_code
def yX4_maskLeaf : MethodName := ⟨RX4, "maskLeaf", "(II)J"⟩
abbrev cX4_numberOf : ByteArray := prog_6_method_20_code
def yX4_numberOf : MethodName := ⟨RX4, "numberOf", "(I)J"⟩
abbrev cX4_range : ByteArray := prog_6_method_21_code
def yX4_range : MethodName := ⟨RX4, "range", "(JJI)J"⟩
def RX5 : String := "ItemJudge$Limits"
def TX5 : u_T := fun k => match k with
  | 0 => ("ItemJudge$Limits", "rules", "LItemJudge$Rules;", false)
  | 1 => ("ItemJudge$Limits", "tree", "LItemJudge$Tree;", false)
  | 2 => ("ItemJudge$Limits", "instances", "LItemJudge$Instances;", false)
  | 3 => ("ItemJudge$Limits", "seen", "[I", true)
  | 4 => ("ItemJudge$Limits", "queue", "[I", true)
  | 5 => ("ItemJudge$Limits", "queued", "I", false)
  | 6 => ("ItemJudge$Limits", "round", "I", false)
  | 7 => ("ItemJudge$Limits", "used", "I", false)
  | 8 => ("ItemJudge$Limits", "depths", "[I", true)
  | 9 => ("ItemJudge$Limits", "inside", "[I", true)
  | 10 => ("ItemJudge$Limits", "argumentDepths", "[I", true)
  | _ => ("ItemJudge$Limits", "changed", "Z", false)
def tyX5 : Nat → FieldType := fun k => match k with
  | 0 => .object "ItemJudge$Rules"
  | 1 => .object "ItemJudge$Tree"
  | 2 => .object "ItemJudge$Instances"
  | 3 => .array .int
  | 4 => .array .int
  | 5 => .int
  | 6 => .int
  | 7 => .int
  | 8 => .array .int
  | 9 => .array .int
  | 10 => .array .int
  | _ => .boolean
abbrev wsX50 : List Cond := u_ws RX5 TX5 12
theorem nmX5 : ∀ a, a < 12 → ∀ b, b < 12 → a ≠ b → (TX5 a).2.1 ≠ (TX5 b).2.1 := by decide +kernel
theorem tyX5_ok : ∀ k, k < 12 → parseFieldDescriptor (TX5 k).2.2.1 = some (tyX5 k) := by decide +kernel
abbrev cX5_init : ByteArray := prog_7_method_1_code
def yX5_init : MethodName := ⟨RX5, "<init>", "(LItemJudge$Rules;)V"⟩
abbrev cX5_firstLoop : ByteArray := prog_7_method_2_code
def yX5_firstLoop : MethodName := ⟨RX5, "firstLoop", "(LItemJudge$Rules;)I"⟩
abbrev cX5_meetsItself : ByteArray := prog_7_method_3_code
def yX5_meetsItself : MethodName := ⟨RX5, "meetsItself", "(I)Z"⟩
abbrev cX5_ownBox : ByteArray := prog_7_method_4_code
def yX5_ownBox : MethodName := ⟨RX5, "ownBox", "(I)I"⟩
abbrev cX5_context : ByteArray := prog_7_method_5_code
def yX5_context : MethodName := ⟨RX5, "context", "(I)I"⟩
abbrev cX5_reach : ByteArray := prog_7_method_6_code
def yX5_reach : MethodName := ⟨RX5, "reach", "(IZ)V"⟩
abbrev cX5_see : ByteArray := prog_7_method_7_code
def yX5_see : MethodName := ⟨RX5, "see", "(I)V"⟩
abbrev cX5_leadOn : ByteArray := prog_7_method_8_code
def yX5_leadOn : MethodName := ⟨RX5, "leadOn", "(I)V"⟩
abbrev cX5_leadOnIn : ByteArray := prog_7_method_9_code
def yX5_leadOnIn : MethodName := ⟨RX5, "leadOnIn", "(II)V"⟩
abbrev cX5_groupsTooLarge : ByteArray := prog_7_method_10_code
def yX5_groupsTooLarge : MethodName := ⟨RX5, "groupsTooLarge", "()Z"⟩
abbrev cX5_countEntry : ByteArray := prog_7_method_11_code
def yX5_countEntry : MethodName := ⟨RX5, "countEntry", "(I)I"⟩
abbrev cX5_countWithin : ByteArray := prog_7_method_12_code
def yX5_countWithin : MethodName := ⟨RX5, "countWithin", "(I)I"⟩
abbrev cX5_weigh : ByteArray := prog_7_method_13_code
def yX5_weigh : MethodName := ⟨RX5, "weigh", "()V"⟩
abbrev cX5_markTied : ByteArray := prog_7_method_14_code
def yX5_markTied : MethodName := ⟨RX5, "markTied", "()V"⟩
abbrev cX5_tiesOf : ByteArray := prog_7_method_15_code
def yX5_tiesOf : MethodName := ⟨RX5, "tiesOf", "(I)I"⟩
abbrev cX5_placeEntries : ByteArray := prog_7_method_16_code
def yX5_placeEntries : MethodName := ⟨RX5, "placeEntries", "(I)I"⟩
abbrev cX5_pathsTooLong : ByteArray := prog_7_method_17_code
def yX5_pathsTooLong : MethodName := ⟨RX5, "pathsTooLong", "()Z"⟩
abbrev cX5_raise : ByteArray := prog_7_method_18_code
def yX5_raise : MethodName := ⟨RX5, "raise", "([III)V"⟩
abbrev cX5_measure : ByteArray := prog_7_method_19_code
def yX5_measure : MethodName := ⟨RX5, "measure", "(II)I"⟩
abbrev cX5_measureArguments : ByteArray := prog_7_method_20_code
def yX5_measureArguments : MethodName := ⟨RX5, "measureArguments", "(I)V"⟩
abbrev cX5_pathTo : ByteArray := prog_7_method_21_code
def yX5_pathTo : MethodName := ⟨RX5, "pathTo", "(II)I"⟩
abbrev cX5_behindName : ByteArray := prog_7_method_22_code
def yX5_behindName : MethodName := ⟨RX5, "behindName", "(III)I"⟩
def RX6 : String := "ItemJudge$Memo"
def TX6 : u_T := fun k => match k with
  | 0 => ("ItemJudge$Memo", "answers", "[J", false)
  | 1 => ("ItemJudge$Memo", "kept", "I", false)
  | _ => ("ItemJudge$Memo", "stamp", "J", false)
def tyX6 : Nat → FieldType := fun k => match k with
  | 0 => .array .long
  | 1 => .int
  | _ => .long
abbrev wsX60 : List Cond := u_ws RX6 TX6 3
theorem nmX6 : ∀ a, a < 3 → ∀ b, b < 3 → a ≠ b → (TX6 a).2.1 ≠ (TX6 b).2.1 := by decide +kernel
theorem tyX6_ok : ∀ k, k < 3 → parseFieldDescriptor (TX6 k).2.2.1 = some (tyX6 k) := by decide +kernel
abbrev cX6_init : ByteArray := prog_8_method_1_code
def yX6_init : MethodName := ⟨RX6, "<init>", "()V"⟩
abbrev cX6_renew : ByteArray := prog_8_method_2_code
def yX6_renew : MethodName := ⟨RX6, "renew", "()V"⟩
abbrev cX6_key : ByteArray := prog_8_method_3_code
def yX6_key : MethodName := ⟨RX6, "key", "(IIII)J"⟩
abbrev cX6_find : ByteArray := prog_8_method_4_code
def yX6_find : MethodName := ⟨RX6, "find", "(J)I"⟩
abbrev cX6_keep : ByteArray := prog_8_method_5_code
def yX6_keep : MethodName := ⟨RX6, "keep", "(JI)V"⟩
abbrev cX6_settle : ByteArray := prog_8_method_6_code
def yX6_settle : MethodName := ⟨RX6, "settle", "(J)V"⟩
abbrev cX6_grow : ByteArray := prog_8_method_7_code
def yX6_grow : MethodName := ⟨RX6, "grow", "()V"⟩
abbrev cX6_slot : ByteArray := prog_8_method_8_code
def yX6_slot : MethodName := ⟨RX6, "slot", "(J)I"⟩
def RX7 : String := "ItemJudge$Parser"
def TX7 : u_T := fun k => match k with
  | 0 => ("ItemJudge$Parser", "rules", "LItemJudge$Rules;", false)
  | 1 => ("ItemJudge$Parser", "tokens", "LItemJudge$Tokens;", false)
  | 2 => ("ItemJudge$Parser", "tree", "LItemJudge$Tree;", false)
  | 3 => ("ItemJudge$Parser", "p", "I", false)
  | 4 => ("ItemJudge$Parser", "failed", "I", false)
  | 5 => ("ItemJudge$Parser", "statement", "I", false)
  | 6 => ("ItemJudge$Parser", "guard", "I", false)
  | 7 => ("ItemJudge$Parser", "deep", "I", false)
  | 8 => ("ItemJudge$Parser", "whose", "I", false)
  | 9 => ("ItemJudge$Parser", "scanned", "I", false)
  | _ => ("ItemJudge$Parser", "onlyGroup", "[Z", true)
def tyX7 : Nat → FieldType := fun k => match k with
  | 0 => .object "ItemJudge$Rules"
  | 1 => .object "ItemJudge$Tokens"
  | 2 => .object "ItemJudge$Tree"
  | 3 => .int
  | 4 => .int
  | 5 => .int
  | 6 => .int
  | 7 => .int
  | 8 => .int
  | 9 => .int
  | _ => .array .boolean
abbrev wsX70 : List Cond := u_ws RX7 TX7 11
theorem nmX7 : ∀ a, a < 11 → ∀ b, b < 11 → a ≠ b → (TX7 a).2.1 ≠ (TX7 b).2.1 := by decide +kernel
theorem tyX7_ok : ∀ k, k < 11 → parseFieldDescriptor (TX7 k).2.2.1 = some (tyX7 k) := by decide +kernel
abbrev cX7_init : ByteArray := prog_9_method_1_code
def yX7_init : MethodName := ⟨RX7, "<init>", "(LItemJudge$Rules;)V"⟩
abbrev cX7_failedToken : ByteArray := prog_9_method_2_code
def yX7_failedToken : MethodName := ⟨RX7, "failedToken", "()I"⟩
abbrev cX7_readRules : ByteArray := prog_9_method_3_code
def yX7_readRules : MethodName := ⟨RX7, "readRules", "(LItemJudge$Rules;)Z"⟩
abbrev cX7_peek : ByteArray := prog_9_method_4_code
def yX7_peek : MethodName := ⟨RX7, "peek", "()I"⟩
abbrev cX7_fail : ByteArray := prog_9_method_5_code
def yX7_fail : MethodName := ⟨RX7, "fail", "()I"⟩
abbrev cX7_take : ByteArray := prog_9_method_6_code
def yX7_take : MethodName := ⟨RX7, "take", "(I)Z"⟩
abbrev cX7_grow : ByteArray := prog_9_method_7_code
def yX7_grow : MethodName := ⟨RX7, "grow", "(II)I"⟩
abbrev cX7_readStatement : ByteArray := prog_9_method_8_code
def yX7_readStatement : MethodName := ⟨RX7, "readStatement", "()Z"⟩
abbrev cX7_beginsBody : ByteArray := prog_9_method_9_code
def yX7_beginsBody : MethodName := ⟨RX7, "beginsBody", "(I)Z"⟩
abbrev cX7_behindParams : ByteArray := prog_9_method_10_code
def yX7_behindParams : MethodName := ⟨RX7, "behindParams", "(I)I"⟩
abbrev cX7_atStatementEnd : ByteArray := prog_9_method_11_code
def yX7_atStatementEnd : MethodName := ⟨RX7, "atStatementEnd", "()Z"⟩
abbrev cX7_readTypeBody : ByteArray := prog_9_method_12_code
def yX7_readTypeBody : MethodName := ⟨RX7, "readTypeBody", "(IZ)Z"⟩
abbrev cX7_goBack : ByteArray := prog_9_method_13_code
def yX7_goBack : MethodName := ⟨RX7, "goBack", "(IIIII)V"⟩
abbrev cX7_readType : ByteArray := prog_9_method_14_code
def yX7_readType : MethodName := ⟨RX7, "readType", "()I"⟩
abbrev cX7_readChoices : ByteArray := prog_9_method_15_code
def yX7_readChoices : MethodName := ⟨RX7, "readChoices", "(I)I"⟩
abbrev cX7_readType1 : ByteArray := prog_9_method_16_code
def yX7_readType1 : MethodName := ⟨RX7, "readType1", "()I"⟩
abbrev cX7_joined : ByteArray := prog_9_method_17_code
def yX7_joined : MethodName := ⟨RX7, "joined", "(IIII)I"⟩
abbrev cX7_controlNamed : ByteArray := prog_9_method_18_code
def yX7_controlNamed : MethodName := ⟨RX7, "controlNamed", "(I)I"⟩
abbrev cX7_readType2 : ByteArray := prog_9_method_19_code
def yX7_readType2 : MethodName := ⟨RX7, "readType2", "()I"⟩
abbrev cX7_readParen : ByteArray := prog_9_method_20_code
def yX7_readParen : MethodName := ⟨RX7, "readParen", "(I)I"⟩
abbrev cX7_readBox : ByteArray := prog_9_method_21_code
def yX7_readBox : MethodName := ⟨RX7, "readBox", "(II)I"⟩
abbrev cX7_readAndGroup : ByteArray := prog_9_method_22_code
def yX7_readAndGroup : MethodName := ⟨RX7, "readAndGroup", "(I)I"⟩
abbrev cX7_readHash : ByteArray := prog_9_method_23_code
def yX7_readHash : MethodName := ⟨RX7, "readHash", "(IJZ)I"⟩
abbrev cX7_readName : ByteArray := prog_9_method_24_code
def yX7_readName : MethodName := ⟨RX7, "readName", "(II)I"⟩
abbrev cX7_readArgument : ByteArray := prog_9_method_25_code
def yX7_readArgument : MethodName := ⟨RX7, "readArgument", "()I"⟩
abbrev cX7_readGroup : ByteArray := prog_9_method_26_code
def yX7_readGroup : MethodName := ⟨RX7, "readGroup", "()I"⟩
abbrev cX7_readEntries : ByteArray := prog_9_method_27_code
def yX7_readEntries : MethodName := ⟨RX7, "readEntries", "(I)Z"⟩
abbrev cX7_beginsEntry : ByteArray := prog_9_method_28_code
def yX7_beginsEntry : MethodName := ⟨RX7, "beginsEntry", "(I)Z"⟩
abbrev cX7_readEntry : ByteArray := prog_9_method_29_code
def yX7_readEntry : MethodName := ⟨RX7, "readEntry", "()I"⟩
abbrev cX7_isOnlyGroup : ByteArray := prog_9_method_30_code
def yX7_isOnlyGroup : MethodName := ⟨RX7, "isOnlyGroup", "(I)Z"⟩
abbrev cX7_noteOnlyGroup : ByteArray := prog_9_method_31_code
def yX7_noteOnlyGroup : MethodName := ⟨RX7, "noteOnlyGroup", "(I)V"⟩
abbrev cX7_readTyped : ByteArray := prog_9_method_32_code
def yX7_readTyped : MethodName := ⟨RX7, "readTyped", "(I)Z"⟩
abbrev cX7_readShortKey : ByteArray := prog_9_method_33_code
def yX7_readShortKey : MethodName := ⟨RX7, "readShortKey", "()I"⟩
def RX8 : String := "ItemJudge$Rules"
def TX8 : u_T := fun k => match k with
  | 0 => ("ItemJudge$Rules", "tokens", "LItemJudge$Tokens;", true)
  | 1 => ("ItemJudge$Rules", "tree", "LItemJudge$Tree;", true)
  | 2 => ("ItemJudge$Rules", "instances", "LItemJudge$Instances;", true)
  | 3 => ("ItemJudge$Rules", "head", "[I", true)
  | 4 => ("ItemJudge$Rules", "sign", "[I", true)
  | 5 => ("ItemJudge$Rules", "params", "[I", true)
  | 6 => ("ItemJudge$Rules", "choice", "[I", true)
  | 7 => ("ItemJudge$Rules", "typed", "[I", true)
  | 8 => ("ItemJudge$Rules", "owner", "[I", true)
  | 9 => ("ItemJudge$Rules", "opening", "[I", true)
  | 10 => ("ItemJudge$Rules", "told", "[I", true)
  | 11 => ("ItemJudge$Rules", "grouped", "[I", true)
  | 12 => ("ItemJudge$Rules", "chain", "[I", true)
  | 13 => ("ItemJudge$Rules", "only", "[I", true)
  | 14 => ("ItemJudge$Rules", "statements", "I", false)
  | 15 => ("ItemJudge$Rules", "count", "I", false)
  | 16 => ("ItemJudge$Rules", "ownToken", "I", false)
  | 17 => ("ItemJudge$Rules", "ownNode", "I", false)
  | 18 => ("ItemJudge$Rules", "ownStatement", "I", false)
  | _ => ("ItemJudge$Rules", "ownRule", "I", false)
def tyX8 : Nat → FieldType := fun k => match k with
  | 0 => .object "ItemJudge$Tokens"
  | 1 => .object "ItemJudge$Tree"
  | 2 => .object "ItemJudge$Instances"
  | 3 => .array .int
  | 4 => .array .int
  | 5 => .array .int
  | 6 => .array .int
  | 7 => .array .int
  | 8 => .array .int
  | 9 => .array .int
  | 10 => .array .int
  | 11 => .array .int
  | 12 => .array .int
  | 13 => .array .int
  | 14 => .int
  | 15 => .int
  | 16 => .int
  | 17 => .int
  | 18 => .int
  | _ => .int
abbrev wsX80 : List Cond := u_ws RX8 TX8 20
theorem nmX8 : ∀ a, a < 20 → ∀ b, b < 20 → a ≠ b → (TX8 a).2.1 ≠ (TX8 b).2.1 := by decide +kernel
theorem tyX8_ok : ∀ k, k < 20 → parseFieldDescriptor (TX8 k).2.2.1 = some (tyX8 k) := by decide +kernel
abbrev cX8_init : ByteArray := prog_10_method_1_code
def yX8_init : MethodName := ⟨RX8, "<init>", "()V"⟩
abbrev cX8_keepPrelude : ByteArray := prog_10_method_2_code
def yX8_keepPrelude : MethodName := ⟨RX8, "keepPrelude", "()V"⟩
abbrev cX8_begin : ByteArray := prog_10_method_3_code
def yX8_begin : MethodName := ⟨RX8, "begin", "()V"⟩
abbrev cX8_addStatement : ByteArray := prog_10_method_4_code
def yX8_addStatement : MethodName := ⟨RX8, "addStatement", "(III)I"⟩
abbrev cX8_addRule : ByteArray := prog_10_method_5_code
def yX8_addRule : MethodName := ⟨RX8, "addRule", "(I)I"⟩
abbrev cX8_ownRules : ByteArray := prog_10_method_6_code
def yX8_ownRules : MethodName := ⟨RX8, "ownRules", "()I"⟩
abbrev cX8_numbered : ByteArray := prog_10_method_7_code
def yX8_numbered : MethodName := ⟨RX8, "numbered", "(I)I"⟩
abbrev cX8_firstNode : ByteArray := prog_10_method_8_code
def yX8_firstNode : MethodName := ⟨RX8, "firstNode", "(I)I"⟩
abbrev cX8_endNode : ByteArray := prog_10_method_9_code
def yX8_endNode : MethodName := ⟨RX8, "endNode", "(I)I"⟩
abbrev cX8_headOf : ByteArray := prog_10_method_10_code
def yX8_headOf : MethodName := ⟨RX8, "headOf", "(I)I"⟩
abbrev cX8_paramsOf : ByteArray := prog_10_method_13_code
def yX8_paramsOf : MethodName := ⟨RX8, "paramsOf", "(I)I"⟩
abbrev cX8_isRule : ByteArray := prog_10_method_14_code
def yX8_isRule : MethodName := ⟨RX8, "isRule", "(I)Z"⟩
abbrev cX8_isOwn : ByteArray := prog_10_method_15_code
def yX8_isOwn : MethodName := ⟨RX8, "isOwn", "(I)Z"⟩
abbrev cX8_isGroup : ByteArray := prog_10_method_16_code
def yX8_isGroup : MethodName := ⟨RX8, "isGroup", "(I)Z"⟩
abbrev cX8_ruleOfNode : ByteArray := prog_10_method_17_code
def yX8_ruleOfNode : MethodName := ⟨RX8, "ruleOfNode", "(I)I"⟩
abbrev cX8_paramToken : ByteArray := prog_10_method_18_code
def yX8_paramToken : MethodName := ⟨RX8, "paramToken", "(II)I"⟩
abbrev cX8_ruleNamed : ByteArray := prog_10_method_19_code
def yX8_ruleNamed : MethodName := ⟨RX8, "ruleNamed", "(III)I"⟩
abbrev cX8_paramNamed : ByteArray := prog_10_method_20_code
def yX8_paramNamed : MethodName := ⟨RX8, "paramNamed", "(II)I"⟩
abbrev cX8_target : ByteArray := prog_10_method_21_code
def yX8_target : MethodName := ⟨RX8, "target", "(II)I"⟩
abbrev cX8_single : ByteArray := prog_10_method_22_code
def yX8_single : MethodName := ⟨RX8, "single", "(I)I"⟩
abbrev cX8_box : ByteArray := prog_10_method_23_code
def yX8_box : MethodName := ⟨RX8, "box", "(I)I"⟩
abbrev cX8_least : ByteArray := prog_10_method_26_code
def yX8_least : MethodName := ⟨RX8, "least", "(I)I"⟩
abbrev cX8_most : ByteArray := prog_10_method_27_code
def yX8_most : MethodName := ⟨RX8, "most", "(I)I"⟩
def RX9 : String := "ItemJudge$Tokens"
def TX9 : u_T := fun k => match k with
  | 0 => ("ItemJudge$Tokens", "text", "[B", true)
  | 1 => ("ItemJudge$Tokens", "kind", "[I", true)
  | 2 => ("ItemJudge$Tokens", "start", "[I", true)
  | 3 => ("ItemJudge$Tokens", "bodyStart", "[I", true)
  | 4 => ("ItemJudge$Tokens", "bodySize", "[I", true)
  | 5 => ("ItemJudge$Tokens", "low", "[J", true)
  | 6 => ("ItemJudge$Tokens", "high", "[J", true)
  | 7 => ("ItemJudge$Tokens", "count", "I", false)
  | 8 => ("ItemJudge$Tokens", "stop", "I", false)
  | 9 => ("ItemJudge$Tokens", "open", "I", false)
  | 10 => ("ItemJudge$Tokens", "bodies", "I", false)
  | 11 => ("ItemJudge$Tokens", "newKind", "I", false)
  | 12 => ("ItemJudge$Tokens", "newStart", "I", false)
  | 13 => ("ItemJudge$Tokens", "newSize", "I", false)
  | 14 => ("ItemJudge$Tokens", "newLow", "J", false)
  | 15 => ("ItemJudge$Tokens", "newHigh", "J", false)
  | _ => ("ItemJudge$Tokens", "number", "J", false)
def tyX9 : Nat → FieldType := fun k => match k with
  | 0 => .array .byte
  | 1 => .array .int
  | 2 => .array .int
  | 3 => .array .int
  | 4 => .array .int
  | 5 => .array .long
  | 6 => .array .long
  | 7 => .int
  | 8 => .int
  | 9 => .int
  | 10 => .int
  | 11 => .int
  | 12 => .int
  | 13 => .int
  | 14 => .long
  | 15 => .long
  | _ => .long
abbrev wsX90 : List Cond := u_ws RX9 TX9 17
theorem nmX9 : ∀ a, a < 17 → ∀ b, b < 17 → a ≠ b → (TX9 a).2.1 ≠ (TX9 b).2.1 := by decide +kernel
theorem tyX9_ok : ∀ k, k < 17 → parseFieldDescriptor (TX9 k).2.2.1 = some (tyX9 k) := by decide +kernel
abbrev cX9_init : ByteArray := prog_11_method_1_code
def yX9_init : MethodName := ⟨RX9, "<init>", "()V"⟩
abbrev cX9_cutPrelude : ByteArray := prog_11_method_2_code
def yX9_cutPrelude : MethodName := ⟨RX9, "cutPrelude", "()V"⟩
abbrev cX9_cutOwn : ByteArray := prog_11_method_3_code
def yX9_cutOwn : MethodName := ⟨RX9, "cutOwn", "([BII)V"⟩
abbrev cX9_kindOf : ByteArray := prog_11_method_4_code
def yX9_kindOf : MethodName := ⟨RX9, "kindOf", "(I)I"⟩
abbrev cX9_placeOf : ByteArray := prog_11_method_5_code
def yX9_placeOf : MethodName := ⟨RX9, "placeOf", "(I)I"⟩
abbrev cX9_lastToken : ByteArray := prog_11_method_6_code
def yX9_lastToken : MethodName := ⟨RX9, "lastToken", "()I"⟩
abbrev cX9_bodyByte : ByteArray := prog_11_method_7_code
def yX9_bodyByte : MethodName := ⟨RX9, "bodyByte", "(II)I"⟩
abbrev cX9_sameBody : ByteArray := prog_11_method_8_code
def yX9_sameBody : MethodName := ⟨RX9, "sameBody", "(II)Z"⟩
abbrev cX9_isWord : ByteArray := prog_11_method_9_code
def yX9_isWord : MethodName := ⟨RX9, "isWord", "(ILjava/lang/String;)Z"⟩
abbrev cX9_load : ByteArray := prog_11_method_10_code
def yX9_load : MethodName := ⟨RX9, "load", "(Ljava/lang/String;I)I"⟩
abbrev cX9_cut : ByteArray := prog_11_method_11_code
def yX9_cut : MethodName := ⟨RX9, "cut", "(II)V"⟩
abbrev cX9_add : ByteArray := prog_11_method_12_code
def yX9_add : MethodName := ⟨RX9, "add", "(II)V"⟩
abbrev cX9_opensTooMuch : ByteArray := prog_11_method_13_code
def yX9_opensTooMuch : MethodName := ⟨RX9, "opensTooMuch", "()Z"⟩
abbrev cX9_look : ByteArray := prog_11_method_14_code
def yX9_look : MethodName := ⟨RX9, "look", "(I)I"⟩
abbrev cX9_behindBlanks : ByteArray := prog_11_method_15_code
def yX9_behindBlanks : MethodName := ⟨RX9, "behindBlanks", "(I)I"⟩
abbrev cX9_one : ByteArray := prog_11_method_16_code
def yX9_one : MethodName := ⟨RX9, "one", "(I)I"⟩
abbrev cX9_sign : ByteArray := prog_11_method_17_code
def yX9_sign : MethodName := ⟨RX9, "sign", "(II)I"⟩
abbrev cX9_dots : ByteArray := prog_11_method_18_code
def yX9_dots : MethodName := ⟨RX9, "dots", "(I)I"⟩
abbrev cX9_slashes : ByteArray := prog_11_method_19_code
def yX9_slashes : MethodName := ⟨RX9, "slashes", "(I)I"⟩
abbrev cX9_named : ByteArray := prog_11_method_20_code
def yX9_named : MethodName := ⟨RX9, "named", "(II)I"⟩
abbrev cX9_numberAt : ByteArray := prog_11_method_21_code
def yX9_numberAt : MethodName := ⟨RX9, "numberAt", "(IZ)I"⟩
abbrev cX9_occur : ByteArray := prog_11_method_22_code
def yX9_occur : MethodName := ⟨RX9, "occur", "(IJ)I"⟩
abbrev cX9_anOccur : ByteArray := prog_11_method_23_code
def yX9_anOccur : MethodName := ⟨RX9, "anOccur", "(IJJ)I"⟩
abbrev cX9_hash : ByteArray := prog_11_method_24_code
def yX9_hash : MethodName := ⟨RX9, "hash", "(I)I"⟩
abbrev cX9_behindUint : ByteArray := prog_11_method_25_code
def yX9_behindUint : MethodName := ⟨RX9, "behindUint", "(I)I"⟩
abbrev cX9_behindZero : ByteArray := prog_11_method_26_code
def yX9_behindZero : MethodName := ⟨RX9, "behindZero", "(I)I"⟩
abbrev cX9_behindDigits : ByteArray := prog_11_method_27_code
def yX9_behindDigits : MethodName := ⟨RX9, "behindDigits", "(II)I"⟩
abbrev cX9_mostBefore : ByteArray := prog_11_method_28_code
def yX9_mostBefore : MethodName := ⟨RX9, "mostBefore", "(II)J"⟩
abbrev cX9_behindFloat : ByteArray := prog_11_method_29_code
def yX9_behindFloat : MethodName := ⟨RX9, "behindFloat", "(I)I"⟩
abbrev cX9_behindPlain : ByteArray := prog_11_method_30_code
def yX9_behindPlain : MethodName := ⟨RX9, "behindPlain", "(I)I"⟩
abbrev cX9_quoted : ByteArray := prog_11_method_31_code
def yX9_quoted : MethodName := ⟨RX9, "quoted", "(III)I"⟩
abbrev cX9_hexBytes : ByteArray := prog_11_method_32_code
def yX9_hexBytes : MethodName := ⟨RX9, "hexBytes", "(I)I"⟩
abbrev cX9_closed : ByteArray := prog_11_method_33_code
def yX9_closed : MethodName := ⟨RX9, "closed", "(III)I"⟩
abbrev cX9_addBody : ByteArray := prog_11_method_34_code
def yX9_addBody : MethodName := ⟨RX9, "addBody", "(I)V"⟩
abbrev cX9_escaped : ByteArray := prog_11_method_35_code
def yX9_escaped : MethodName := ⟨RX9, "escaped", "(I)I"⟩
abbrev cX9_isDigit : ByteArray := prog_11_method_36_code
def yX9_isDigit : MethodName := ⟨RX9, "isDigit", "(I)Z"⟩
abbrev cX9_digit : ByteArray := prog_11_method_37_code
def yX9_digit : MethodName := ⟨RX9, "digit", "(I)I"⟩
abbrev cX9_sticks : ByteArray := prog_11_method_38_code
def yX9_sticks : MethodName := ⟨RX9, "sticks", "(I)Z"⟩
abbrev cX9_startsName : ByteArray := prog_11_method_39_code
def yX9_startsName : MethodName := ⟨RX9, "startsName", "(I)Z"⟩
abbrev cX9_goesOnName : ByteArray := prog_11_method_40_code
def yX9_goesOnName : MethodName := ⟨RX9, "goesOnName", "(I)Z"⟩
def RX10 : String := "ItemJudge$Tree"
def TX10 : u_T := fun k => match k with
  | 0 => ("ItemJudge$Tree", "kind", "[I", true)
  | 1 => ("ItemJudge$Tree", "token", "[I", true)
  | 2 => ("ItemJudge$Tree", "next", "[I", true)
  | 3 => ("ItemJudge$Tree", "first", "[I", true)
  | 4 => ("ItemJudge$Tree", "second", "[I", true)
  | 5 => ("ItemJudge$Tree", "third", "[I", true)
  | 6 => ("ItemJudge$Tree", "mark", "[I", true)
  | 7 => ("ItemJudge$Tree", "guard", "[I", true)
  | 8 => ("ItemJudge$Tree", "deep", "[I", true)
  | 9 => ("ItemJudge$Tree", "statement", "[I", true)
  | 10 => ("ItemJudge$Tree", "weight", "[I", true)
  | 11 => ("ItemJudge$Tree", "place", "[I", true)
  | 12 => ("ItemJudge$Tree", "tied", "[I", true)
  | _ => ("ItemJudge$Tree", "count", "I", false)
def tyX10 : Nat → FieldType := fun k => match k with
  | 0 => .array .int
  | 1 => .array .int
  | 2 => .array .int
  | 3 => .array .int
  | 4 => .array .int
  | 5 => .array .int
  | 6 => .array .int
  | 7 => .array .int
  | 8 => .array .int
  | 9 => .array .int
  | 10 => .array .int
  | 11 => .array .int
  | 12 => .array .int
  | _ => .int
abbrev wsX100 : List Cond := u_ws RX10 TX10 14
theorem nmX10 : ∀ a, a < 14 → ∀ b, b < 14 → a ≠ b → (TX10 a).2.1 ≠ (TX10 b).2.1 := by decide +kernel
theorem tyX10_ok : ∀ k, k < 14 → parseFieldDescriptor (TX10 k).2.2.1 = some (tyX10 k) := by decide +kernel
abbrev cX10_init : ByteArray := prog_12_method_1_code
def yX10_init : MethodName := ⟨RX10, "<init>", "()V"⟩
abbrev cX10_add : ByteArray := prog_12_method_2_code
def yX10_add : MethodName := ⟨RX10, "add", "(II)I"⟩
abbrev cX10_kindOf : ByteArray := prog_12_method_3_code
def yX10_kindOf : MethodName := ⟨RX10, "kindOf", "(I)I"⟩
abbrev cX10_nextOf : ByteArray := prog_12_method_4_code
def yX10_nextOf : MethodName := ⟨RX10, "nextOf", "(I)I"⟩
abbrev cX10_firstOf : ByteArray := prog_12_method_5_code
def yX10_firstOf : MethodName := ⟨RX10, "firstOf", "(I)I"⟩
abbrev cX10_secondOf : ByteArray := prog_12_method_6_code
def yX10_secondOf : MethodName := ⟨RX10, "secondOf", "(I)I"⟩
abbrev cX10_chainIn : ByteArray := prog_12_method_7_code
def yX10_chainIn : MethodName := ⟨RX10, "chainIn", "(II)I"⟩
abbrev cX10_aloneIn : ByteArray := prog_12_method_8_code
def yX10_aloneIn : MethodName := ⟨RX10, "aloneIn", "(II)I"⟩
abbrev cX10_isName : ByteArray := prog_12_method_9_code
def yX10_isName : MethodName := ⟨RX10, "isName", "(I)Z"⟩
abbrev cX10_isEntry : ByteArray := prog_12_method_10_code
def yX10_isEntry : MethodName := ⟨RX10, "isEntry", "(I)Z"⟩
abbrev cX10_nameToken : ByteArray := prog_12_method_11_code
def yX10_nameToken : MethodName := ⟨RX10, "nameToken", "(I)I"⟩
abbrev cX10_append : ByteArray := prog_12_method_12_code
def yX10_append : MethodName := ⟨RX10, "append", "(II)V"⟩
abbrev cX10_length : ByteArray := prog_12_method_13_code
def yX10_length : MethodName := ⟨RX10, "length", "(I)I"⟩
def RX11 : String := "ItemJudge$Writer"
def TX11 : u_T := fun k => match k with
  | 0 => ("ItemJudge$Writer", "items", "LItemJudge$Items;", true)
  | 1 => ("ItemJudge$Writer", "out", "[B", true)
  | 2 => ("ItemJudge$Writer", "outSize", "I", false)
  | 3 => ("ItemJudge$Writer", "draft", "[B", true)
  | 4 => ("ItemJudge$Writer", "sorted", "[B", true)
  | 5 => ("ItemJudge$Writer", "size", "I", false)
  | 6 => ("ItemJudge$Writer", "from", "[I", true)
  | 7 => ("ItemJudge$Writer", "to", "[I", true)
  | 8 => ("ItemJudge$Writer", "order", "[I", true)
  | _ => ("ItemJudge$Writer", "digits", "[I", true)
def tyX11 : Nat → FieldType := fun k => match k with
  | 0 => .object "ItemJudge$Items"
  | 1 => .array .byte
  | 2 => .int
  | 3 => .array .byte
  | 4 => .array .byte
  | 5 => .int
  | 6 => .array .int
  | 7 => .array .int
  | 8 => .array .int
  | _ => .array .int
abbrev wsX110 : List Cond := u_ws RX11 TX11 10
theorem nmX11 : ∀ a, a < 10 → ∀ b, b < 10 → a ≠ b → (TX11 a).2.1 ≠ (TX11 b).2.1 := by decide +kernel
theorem tyX11_ok : ∀ k, k < 10 → parseFieldDescriptor (TX11 k).2.2.1 = some (tyX11 k) := by decide +kernel
abbrev cX11_init : ByteArray := prog_13_method_1_code
def yX11_init : MethodName := ⟨RX11, "<init>", "(LItemJudge$Items;)V"⟩
def RX12 : String := "ItemJudge"
def TX12 : u_T := fun k => match k with
  | 0 => ("ItemJudge", "tape", "[B", true)
  | 1 => ("ItemJudge", "taped", "I", false)
  | 2 => ("ItemJudge", "faultPlace", "I", false)
  | 3 => ("ItemJudge", "rules", "LItemJudge$Rules;", false)
  | 4 => ("ItemJudge", "spare", "LItemJudge$Rules;", false)
  | 5 => ("ItemJudge", "parser", "LItemJudge$Parser;", true)
  | 6 => ("ItemJudge", "checker", "LItemJudge$Checker;", true)
  | 7 => ("ItemJudge", "limits", "LItemJudge$Limits;", true)
  | 8 => ("ItemJudge", "items", "LItemJudge$Items;", true)
  | 9 => ("ItemJudge", "memo", "LItemJudge$Memo;", true)
  | 10 => ("ItemJudge", "referee", "LItemJudge$Judge;", true)
  | _ => ("ItemJudge", "writer", "LItemJudge$Writer;", true)
def tyX12 : Nat → FieldType := fun k => match k with
  | 0 => .array .byte
  | 1 => .int
  | 2 => .int
  | 3 => .object "ItemJudge$Rules"
  | 4 => .object "ItemJudge$Rules"
  | 5 => .object "ItemJudge$Parser"
  | 6 => .object "ItemJudge$Checker"
  | 7 => .object "ItemJudge$Limits"
  | 8 => .object "ItemJudge$Items"
  | 9 => .object "ItemJudge$Memo"
  | 10 => .object "ItemJudge$Judge"
  | _ => .object "ItemJudge$Writer"
abbrev wsX120 : List Cond := u_ws RX12 TX12 12
theorem nmX12 : ∀ a, a < 12 → ∀ b, b < 12 → a ≠ b → (TX12 a).2.1 ≠ (TX12 b).2.1 := by decide +kernel
theorem tyX12_ok : ∀ k, k < 12 → parseFieldDescriptor (TX12 k).2.2.1 = some (tyX12 k) := by decide +kernel
abbrev cX12_init : ByteArray := prog_1_method_1_code
def yX12_init : MethodName := ⟨RX12, "<init>", "()V"⟩
abbrev cX12_feed : ByteArray := prog_1_method_2_code
def yX12_feed : MethodName := ⟨RX12, "feed", "(IIIII)I"⟩
abbrev cX12_end : ByteArray := prog_1_method_3_code
def yX12_end : MethodName := ⟨RX12, "end", "(I)I"⟩
abbrev cX12_grammar : ByteArray := prog_1_method_4_code
def yX12_grammar : MethodName := ⟨RX12, "grammar", "()I"⟩
abbrev cX12_item : ByteArray := prog_1_method_7_code
def yX12_item : MethodName := ⟨RX12, "item", "()I"⟩
abbrev cX12_node : ByteArray := prog_1_method_8_code
def yX12_node : MethodName := ⟨RX12, "node", "(II)J"⟩
abbrev cX12_judge : ByteArray := prog_1_method_9_code
def yX12_judge : MethodName := ⟨RX12, "judge", "(II)I"⟩
abbrev cX12_feedNumber : ByteArray := prog_1_method_13_code
def yX12_feedNumber : MethodName := ⟨RX12, "feedNumber", "(I)V"⟩
abbrev cX12_faulty : ByteArray := prog_1_method_14_code
def yX12_faulty : MethodName := ⟨RX12, "faulty", "(II)I"⟩
abbrev cX12_at : ByteArray := prog_1_method_15_code
def yX12_at : MethodName := ⟨RX12, "at", "([II)I"⟩
abbrev cX12_put : ByteArray := prog_1_method_16_code
def yX12_put : MethodName := ⟨RX12, "put", "([III)V"⟩
abbrev cX12_longAt : ByteArray := prog_1_method_17_code
def yX12_longAt : MethodName := ⟨RX12, "longAt", "([JI)J"⟩
abbrev cX12_putLong : ByteArray := prog_1_method_18_code
def yX12_putLong : MethodName := ⟨RX12, "putLong", "([JIJ)V"⟩
abbrev cX12_byteAt : ByteArray := prog_1_method_19_code
def yX12_byteAt : MethodName := ⟨RX12, "byteAt", "([BI)I"⟩
abbrev cX12_putByte : ByteArray := prog_1_method_20_code
def yX12_putByte : MethodName := ⟨RX12, "putByte", "([BII)V"⟩
abbrev cX12_copy : ByteArray := prog_1_method_21_code
def yX12_copy : MethodName := ⟨RX12, "copy", "([BI[BII)V"⟩
abbrev cX12_below : ByteArray := prog_1_method_22_code
def yX12_below : MethodName := ⟨RX12, "below", "(JJ)Z"⟩
def RX13 : String := "ItemJudgeLaw"
def TX13 : u_T := fun k => match k with
  | _ => ("", "", "", false)
def tyX13 : Nat → FieldType := fun k => match k with
  | _ => .int
abbrev wsX130 : List Cond := u_ws RX13 TX13 0
theorem nmX13 : ∀ a, a < 0 → ∀ b, b < 0 → a ≠ b → (TX13 a).2.1 ≠ (TX13 b).2.1 := by decide +kernel
theorem tyX13_ok : ∀ k, k < 0 → parseFieldDescriptor (TX13 k).2.2.1 = some (tyX13 k) := by decide +kernel
abbrev cL_put : ByteArray := method_2_code
def yL_put : MethodName := ⟨RX13, "put", "(LItemJudge;[II)V"⟩
abbrev cL_close : ByteArray := method_3_code
def yL_close : MethodName := ⟨RX13, "close", "(LItemJudge;[I)Z"⟩
abbrev cL_law : ByteArray := code
def yL_law : MethodName := ⟨RX13, "law", "([I)Z"⟩
def cR : Nat → String := fun o => match o with
  | 0 => RX0
  | 1 => RX1
  | 2 => RX2
  | 3 => RX3
  | 4 => RX4
  | 5 => RX5
  | 6 => RX6
  | 7 => RX7
  | 8 => RX8
  | 9 => RX9
  | 10 => RX10
  | 11 => RX11
  | 12 => RX12
  | _ => RX13
def cT : Nat → u_T := fun o => match o with
  | 0 => TX0
  | 1 => TX1
  | 2 => TX2
  | 3 => TX3
  | 4 => TX4
  | 5 => TX5
  | 6 => TX6
  | 7 => TX7
  | 8 => TX8
  | 9 => TX9
  | 10 => TX10
  | 11 => TX11
  | 12 => TX12
  | _ => TX13
def cY : Nat → Nat → FieldType := fun o => match o with
  | 0 => tyX0
  | 1 => tyX1
  | 2 => tyX2
  | 3 => tyX3
  | 4 => tyX4
  | 5 => tyX5
  | 6 => tyX6
  | 7 => tyX7
  | 8 => tyX8
  | 9 => tyX9
  | 10 => tyX10
  | 11 => tyX11
  | 12 => tyX12
  | _ => tyX13
def cN : Nat → Nat := fun o => match o with
  | 0 => 5
  | 1 => 13
  | 2 => 20
  | 3 => 17
  | 4 => 10
  | 5 => 12
  | 6 => 3
  | 7 => 11
  | 8 => 20
  | 9 => 17
  | 10 => 14
  | 11 => 10
  | 12 => 12
  | _ => 0
abbrev diCl : List vw_C := [(RX0, TX0, 5), (RX1, TX1, 13), (RX2, TX2, 20), (RX3, TX3, 17), (RX4, TX4, 10), (RX5, TX5, 12), (RX6, TX6, 3), (RX7, TX7, 11), (RX8, TX8, 20), (RX9, TX9, 17), (RX10, TX10, 14), (RX11, TX11, 10), (RX12, TX12, 12)]
def tcode : FieldType → Nat
  | .int => 0
  | .long => 1
  | .boolean => 2
  | .object _ => 3
  | .array _ => 3
  | _ => 4
def dFT : Nat → List (Nat × Nat × Nat) := fun o => match o with
  | 0 => [(9, 0, 0), (15, 8, 0), (21, 0, 1), (22, 8, 1), (26, 0, 2), (27, 0, 3), (38, 8, 17), (41, 10, 13), (50, 0, 4), (59, 8, 18), (62, 8, 14), (71, 8, 19), (74, 8, 15), (75, 8, 11), (79, 8, 9), (97, 8, 3), (116, 8, 8), (119, 8, 4), (122, 8, 10), (132, 8, 5), (144, 10, 9), (150, 10, 4), (171, 8, 7), (174, 8, 6), (177, 10, 6), (183, 8, 12), (189, 8, 16), (192, 9, 7), (200, 10, 5), (221, 10, 1), (224, 10, 0), (227, 10, 3), (230, 8, 13)]
  | 1 => [(11, 1, 0), (15, 1, 1), (19, 1, 2), (22, 1, 3), (25, 1, 4), (28, 1, 5), (31, 1, 6), (38, 10, 5), (43, 1, 9), (51, 8, 13), (60, 1, 8), (69, 1, 10), (72, 1, 11), (75, 1, 12), (82, 8, 17), (88, 8, 19), (104, 8, 12), (114, 1, 7), (117, 8, 15), (128, 10, 13), (136, 8, 18), (139, 8, 14), (142, 8, 8)]
  | 2 => [(11, 2, 0), (15, 2, 1), (19, 2, 2), (22, 2, 3), (25, 2, 4), (28, 2, 5), (31, 2, 6), (34, 2, 7), (37, 2, 8), (40, 2, 9), (43, 2, 10), (46, 2, 11), (50, 2, 13), (54, 2, 12), (57, 2, 19), (103, 2, 18), (110, 2, 14), (125, 2, 17), (131, 2, 16), (140, 2, 15)]
  | 3 => [(11, 3, 0), (17, 8, 1), (23, 3, 1), (24, 8, 2), (28, 3, 2), (29, 3, 3), (33, 3, 4), (42, 3, 5), (46, 3, 6), (50, 3, 13), (53, 3, 15), (57, 3, 16), (64, 3, 7), (68, 3, 14), (71, 8, 12), (84, 3, 8), (87, 3, 9), (90, 3, 10), (158, 1, 10), (161, 1, 11), (164, 8, 17), (199, 10, 5), (233, 3, 11), (236, 3, 12), (271, 10, 10), (274, 10, 11), (317, 10, 6)]
  | 4 => [(9, 4, 4), (17, 4, 5), (21, 4, 6), (25, 4, 7), (28, 4, 8), (31, 4, 0), (35, 8, 0), (41, 4, 1), (42, 8, 1), (46, 4, 2), (47, 8, 2), (51, 4, 3), (52, 4, 9), (56, 10, 1), (89, 9, 6), (101, 9, 4), (108, 9, 5), (117, 10, 5), (172, 1, 10), (175, 1, 11), (178, 1, 12)]
  | 5 => [(9, 5, 0), (15, 8, 1), (21, 5, 1), (22, 8, 2), (26, 5, 2), (27, 5, 3), (31, 5, 4), (34, 5, 8), (37, 5, 9), (40, 5, 10), (43, 10, 13), (49, 5, 7), (56, 5, 6), (59, 8, 19), (62, 8, 15), (75, 8, 17), (94, 10, 6), (97, 10, 7), (103, 5, 5), (110, 10, 9), (113, 8, 18), (116, 8, 14), (119, 8, 8), (147, 5, 11), (154, 10, 5), (157, 8, 11), (172, 10, 10), (178, 8, 12), (184, 10, 12), (196, 10, 11), (199, 1, 7), (226, 10, 8), (240, 1, 8), (242, 1, 9)]
  | 6 => [(9, 6, 0), (13, 6, 2), (17, 6, 1)]
  | 7 => [(9, 7, 0), (15, 8, 0), (21, 7, 1), (22, 8, 1), (26, 7, 2), (27, 7, 10), (31, 7, 4), (35, 8, 16), (38, 7, 3), (61, 10, 7), (65, 7, 6), (71, 10, 8), (74, 7, 7), (76, 10, 9), (79, 7, 5), (91, 7, 9), (101, 7, 8), (107, 8, 6), (114, 8, 7), (120, 10, 3), (123, 10, 13), (132, 10, 5), (145, 10, 2), (158, 10, 4), (194, 9, 6), (202, 9, 4), (248, 10, 0), (251, 10, 6)]
  | 8 => [(12, 8, 0), (21, 8, 1), (30, 8, 2), (34, 8, 3), (38, 8, 4), (41, 8, 5), (44, 8, 6), (47, 8, 7), (50, 8, 8), (53, 8, 9), (56, 8, 10), (59, 8, 11), (62, 8, 12), (65, 8, 13), (68, 9, 7), (72, 8, 16), (75, 10, 13), (76, 8, 17), (79, 8, 14), (82, 8, 18), (85, 8, 15), (86, 8, 19), (112, 10, 9), (153, 10, 1), (156, 9, 5), (164, 9, 6)]
  | 9 => [(9, 9, 0), (15, 9, 1), (19, 9, 2), (22, 9, 3), (25, 9, 4), (28, 9, 5), (32, 9, 6), (51, 9, 7), (63, 9, 10), (88, 9, 8), (91, 9, 9), (108, 9, 11), (115, 9, 12), (118, 9, 13), (121, 9, 14), (129, 9, 15), (152, 9, 16)]
  | 10 => [(9, 10, 0), (15, 10, 1), (18, 10, 2), (21, 10, 3), (24, 10, 4), (27, 10, 5), (30, 10, 6), (33, 10, 7), (36, 10, 8), (39, 10, 9), (42, 10, 10), (45, 10, 11), (48, 10, 12), (51, 10, 13)]
  | 11 => [(9, 11, 0), (15, 11, 1), (19, 11, 2), (23, 11, 3), (26, 11, 4), (29, 11, 6), (33, 11, 7), (36, 11, 8), (39, 11, 9)]
  | 12 => [(9, 12, 0), (13, 12, 1), (17, 12, 2), (23, 12, 3), (27, 12, 4), (35, 12, 5), (42, 12, 6), (49, 12, 7), (56, 12, 8), (63, 12, 9), (72, 12, 10), (81, 12, 11), (85, 8, 0), (111, 8, 16), (136, 8, 2), (180, 8, 11)]
  | _ => []
def dMT : Nat → List (Nat × Nat × Nat) := fun o => match o with
  | 0 => [(31, 3, 1), (35, 11, 1), (46, 12, 1), (53, 17, 1), (56, 18, 1), (65, 5, 1), (68, 8, 1), (82, 264, 3), (86, 9, 1), (90, 265, 3), (94, 10, 1), (100, 194, 1), (104, 4, 1), (108, 182, 1), (112, 183, 1), (125, 6, 1), (129, 7, 1), (135, 193, 1), (139, 208, 1), (147, 249, 1), (153, 251, 1), (156, 196, 1), (159, 243, 1), (162, 246, 1), (165, 245, 1), (168, 197, 1), (180, 189, 1), (186, 252, 1), (193, 204, 1), (194, 13, 1), (197, 15, 1), (203, 16, 1), (206, 253, 1), (209, 188, 1), (212, 191, 1), (215, 198, 1), (218, 14, 1)]
  | 1 => [(34, 264, 3), (47, 23, 1), (56, 246, 1), (63, 243, 1), (66, 245, 1), (78, 24, 1), (85, 192, 1), (91, 26, 1), (94, 21, 1), (97, 22, 1), (100, 189, 1), (107, 190, 1), (110, 28, 1), (118, 188, 1), (121, 29, 1), (125, 20, 1), (129, 249, 1), (132, 265, 3), (145, 30, 1), (148, 186, 1), (151, 185, 1), (154, 31, 1), (158, 33, 1), (161, 32, 1), (165, 244, 1), (168, 35, 1), (172, 34, 1)]
  | 2 => [(60, 264, 3), (64, 266, 3), (68, 41, 1), (72, 268, 3), (76, 37, 1), (82, 40, 1), (86, 42, 1), (89, 44, 1), (92, 45, 1), (95, 46, 1), (99, 265, 3), (106, 49, 1), (113, 270, 3), (117, 50, 1), (121, 53, 1), (128, 52, 1), (143, 267, 3), (147, 54, 1), (150, 55, 1), (153, 59, 1), (161, 271, 3), (165, 56, 1), (168, 57, 1), (171, 58, 1)]
  | 3 => [(39, 94, 2), (60, 95, 1), (74, 264, 3), (78, 63, 1), (93, 67, 1), (96, 71, 1), (99, 77, 1), (103, 84, 1), (106, 69, 1), (110, 65, 1), (114, 247, 1), (119, 244, 1), (123, 66, 1), (127, 243, 1), (130, 68, 1), (133, 245, 1), (136, 97, 1), (140, 248, 1), (143, 72, 1), (146, 83, 1), (149, 96, 1), (152, 25, 1), (167, 139, 0), (171, 140, 1), (175, 64, 1), (178, 80, 1), (181, 87, 1), (184, 70, 1), (187, 43, 1), (192, 88, 1), (195, 141, 1), (202, 246, 1), (205, 104, 1), (209, 105, 1), (212, 40, 1), (215, 51, 1), (218, 41, 1), (222, 98, 1), (225, 73, 1), (229, 74, 1), (240, 79, 1), (243, 200, 1), (246, 199, 1), (249, 82, 1), (252, 78, 1), (255, 81, 1), (258, 76, 1), (266, 75, 1), (277, 85, 1), (280, 86, 1), (283, 265, 3), (289, 267, 3), (293, 89, 1), (296, 93, 1), (300, 90, 1), (307, 91, 1), (310, 266, 3), (314, 92, 1)]
  | 4 => [(61, 264, 3), (65, 40, 1), (71, 243, 1), (74, 99, 1), (78, 101, 1), (82, 102, 1), (86, 100, 1), (94, 266, 3), (98, 103, 1), (104, 41, 1), (111, 246, 1), (114, 245, 1), (120, 271, 3), (124, 46, 1), (128, 207, 1), (131, 42, 1), (144, 106, 1), (152, 107, 1), (155, 244, 1), (158, 108, 1), (161, 109, 1), (164, 112, 1), (168, 25, 1), (181, 267, 3), (185, 265, 3), (193, 113, 1), (194, 110, 0), (198, 111, 0), (201, 114, 0)]
  | 5 => [(52, 265, 3), (63, 120, 1), (67, 264, 3), (71, 187, 1), (78, 243, 1), (81, 251, 1), (84, 117, 1), (88, 118, 1), (91, 119, 1), (100, 192, 1), (106, 122, 1), (122, 123, 1), (126, 186, 1), (129, 185, 1), (132, 249, 1), (135, 246, 1), (138, 190, 1), (141, 121, 1), (144, 125, 1), (151, 250, 1), (160, 126, 1), (163, 245, 1), (175, 130, 1), (181, 128, 1), (187, 129, 1), (190, 132, 1), (193, 244, 1), (202, 134, 1), (205, 20, 1), (208, 133, 1), (211, 188, 1), (214, 198, 1), (217, 135, 1), (220, 21, 1), (223, 22, 1), (229, 136, 1), (233, 23, 1), (236, 24, 1)]
  | 6 => [(23, 267, 3), (29, 144, 1), (33, 266, 3), (40, 143, 1), (43, 142, 1)]
  | 7 => [(41, 148, 1), (45, 152, 1), (49, 204, 1), (55, 242, 1), (67, 265, 3), (81, 150, 1), (85, 154, 1), (88, 153, 0), (94, 149, 1), (97, 181, 1), (104, 151, 1), (110, 156, 1), (117, 173, 1), (126, 158, 1), (129, 155, 1), (135, 157, 1), (139, 160, 1), (142, 159, 1), (148, 163, 1), (151, 161, 1), (155, 162, 1), (163, 209, 1), (191, 168, 1), (198, 266, 3), (205, 264, 3), (209, 167, 1), (213, 165, 1), (216, 164, 1), (219, 166, 1), (222, 170, 1), (229, 169, 1), (232, 171, 1), (235, 172, 0), (238, 176, 1), (241, 174, 1), (244, 175, 1), (254, 177, 1)]
  | 8 => [(11, 201, 2), (20, 241, 2), (27, 19, 2), (89, 265, 3), (93, 264, 3), (97, 187, 1), (101, 207, 1), (108, 189, 1), (115, 208, 1), (119, 193, 1), (122, 195, 1), (125, 194, 1), (129, 244, 1), (132, 243, 1), (135, 245, 1), (138, 191, 1), (141, 197, 1), (144, 246, 1), (160, 266, 3)]
  | 9 => [(37, 210, 1), (55, 211, 1), (59, 270, 3), (66, 264, 3), (70, 268, 3), (84, 269, 3), (94, 215, 1), (98, 212, 1), (101, 216, 1), (104, 213, 1), (111, 265, 3), (125, 267, 3), (132, 214, 1), (135, 232, 1), (138, 239, 0), (142, 220, 1), (146, 236, 0), (149, 225, 1), (155, 222, 1), (159, 221, 1), (163, 231, 1), (167, 224, 1), (172, 223, 1), (176, 218, 1), (179, 219, 1), (182, 217, 1), (185, 240, 0), (188, 229, 1), (193, 271, 3), (199, 227, 1), (202, 226, 1), (205, 238, 0), (208, 237, 0), (211, 228, 0), (223, 230, 1), (226, 233, 1), (229, 235, 0), (232, 234, 1)]
  | 10 => [(55, 264, 3), (59, 244, 1), (63, 265, 3)]
  | 11 => []
  | 12 => [(22, 178, 2), (32, 145, 2), (41, 0, 2), (48, 115, 2), (55, 36, 2), (62, 137, 2), (69, 60, 2), (78, 254, 2), (89, 202, 1), (94, 147, 1), (98, 3, 1), (101, 179, 1), (104, 262, 1), (108, 180, 1), (114, 203, 1), (118, 146, 1), (122, 263, 1), (126, 2, 1), (130, 1, 1), (133, 116, 1), (140, 27, 1), (145, 124, 1), (149, 131, 1), (152, 206, 1), (155, 127, 1), (158, 61, 1), (161, 138, 1), (164, 183, 1), (167, 184, 1), (177, 188, 1), (184, 264, 0), (191, 48, 1), (195, 38, 1), (198, 39, 1), (200, 47, 1), (204, 37, 1), (208, 62, 1), (221, 269, 0), (224, 205, 1)]
  | _ => [(7, 256, 1), (13, 272, 0), (19, 257, 1), (25, 255, 2), (27, 273, 0), (31, 259, 1), (35, 260, 1), (81, 258, 1), (84, 261, 1)]
def dOT : Nat → List Nat := fun o => match o with
  | 0 => [3]
  | 1 => [5]
  | 2 => [5]
  | 3 => [5]
  | 4 => [3]
  | 5 => [3]
  | 6 => [1]
  | 7 => [3]
  | 8 => [3]
  | 9 => [3]
  | 10 => [3]
  | 11 => [3]
  | 12 => [3]
  | _ => []
def dCT : Nat → List (Nat × Nat) := fun o => match o with
  | 0 => []
  | 1 => []
  | 2 => []
  | 3 => [(37, 4)]
  | 4 => []
  | 5 => []
  | 6 => []
  | 7 => []
  | 8 => [(9, 9), (18, 10), (25, 1)]
  | 9 => []
  | 10 => []
  | 11 => []
  | 12 => [(20, 8), (30, 7), (39, 0), (46, 5), (53, 2), (60, 6), (67, 3), (76, 11)]
  | _ => [(8, 12)]
def dKT : Nat → List (Nat × Nat) := fun o => match o with
  | 0 => []
  | 1 => []
  | 2 => []
  | 3 => [(239, 1000000)]
  | 4 => []
  | 5 => []
  | 6 => [(39, 2097152)]
  | 7 => []
  | 8 => []
  | 9 => []
  | 10 => []
  | 11 => []
  | 12 => []
  | _ => [(26, 2147483647), (39, 1819244320), (40, 1025518901), (41, 539897376), (42, 891315813), (43, 1998601504), (44, 1953723506), (45, 539915113), (46, 2053447720), (47, 807415584), (48, 841556089), (49, 1702043709), (50, 544502389), (51, 1696622958), (52, 540876891), (53, 1819244381), (54, 544436077), (55, 1696611616), (56, 790652517), (57, 1998597920), (58, 2036691744), (59, 790653294), (60, 543255660), (61, 706769775), (62, 1835359520), (63, 1953984288), (64, 1025530666), (65, 539519342), (66, 1948266287), (67, 543256185), (68, 740324467), (69, 1953638749), (70, 544432493), (71, 1529487451), (72, 1935764837), (73, 1562390304), (74, 590356527), (75, 539177248), (76, 790635315), (77, 539959331), (78, 924856096), (79, 1768840480), (80, 538976288)]
def dJT : Nat → List (Nat × Nat) := fun o => match o with
  | 0 => []
  | 1 => []
  | 2 => [(80, 18446744073709551615), (157, 32), (159, 100)]
  | 3 => [(82, 1125899906842624), (269, 6), (287, 2)]
  | 4 => [(134, 24), (136, 31), (138, 25), (140, 26), (142, 27), (148, 511), (150, 18446744073709551615), (189, 512), (191, 2048), (205, 1099511627776), (207, 64), (215, 63)]
  | 5 => []
  | 6 => [(21, 131071), (37, 16383), (47, 11400714819323198485)]
  | 7 => [(225, 7), (227, 6)]
  | 8 => []
  | 9 => [(170, 1000000), (191, 1000), (197, 18446744073709551615), (215, 1152921504606846975), (217, 9223372036854775807), (219, 1844674407370955161), (221, 1844674407370955160)]
  | 10 => []
  | 11 => []
  | 12 => [(233, 9223372036854775808)]
  | _ => []
def dNT : List (Nat × Nat × Nat) := [(0, 82, 264), (0, 90, 265), (1, 34, 264), (1, 132, 265), (2, 60, 264), (2, 64, 266), (2, 72, 268), (2, 99, 265), (2, 113, 270), (2, 143, 267), (2, 161, 271), (3, 74, 264), (3, 283, 265), (3, 289, 267), (3, 310, 266), (4, 61, 264), (4, 94, 266), (4, 120, 271), (4, 181, 267), (4, 185, 265), (5, 52, 265), (5, 67, 264), (6, 23, 267), (6, 33, 266), (7, 67, 265), (7, 198, 266), (7, 205, 264), (8, 89, 265), (8, 93, 264), (8, 160, 266), (9, 59, 270), (9, 66, 264), (9, 70, 268), (9, 84, 269), (9, 111, 265), (9, 125, 267), (9, 193, 271), (10, 55, 264), (10, 63, 265)]
abbrev dMI : Type := Nat × MethodName × ByteArray × Nat × Option FieldType
def dMi_0 : List dMI := [(0, yX0_init, cX0_init, 2, none), (0, yX0_blamedToken, cX0_blamedToken, 1, (some .int)), (0, yX0_firstFault, cX0_firstFault, 3, (some .int)), (0, yX0_bind, cX0_bind, 3, none), (0, yX0_blame, cX0_blame, 4, none), (0, yX0_collect, cX0_collect, 5, none), (0, yX0_sameParams, cX0_sameParams, 5, (some .boolean)), (0, yX0_checkParams, cX0_checkParams, 6, none), (0, yX0_bindNode, cX0_bindNode, 5, none), (0, yX0_tellsGroup, cX0_tellsGroup, 6, (some .boolean)), (0, yX0_link, cX0_link, 6, none), (0, yX0_checkFloats, cX0_checkFloats, 2, none), (0, yX0_checkNode, cX0_checkNode, 3, none), (0, yX0_checkName, cX0_checkName, 5, none), (0, yX0_canUnwrap, cX0_canUnwrap, 4, (some .boolean)), (0, yX0_needNumber, cX0_needNumber, 2, none), (0, yX0_checkControl, cX0_checkControl, 5, none), (0, yX0_nameEntries, cX0_nameEntries, 7, none), (0, yX0_keepBoxes, cX0_keepBoxes, 2, none), (1, yX1_init, cX1_init, 2, none), (1, yX1_ruleOf, cX1_ruleOf, 2, (some .int)), (1, yX1_argumentOf, cX1_argumentOf, 3, (some .int)), (1, yX1_argumentPlace, cX1_argumentPlace, 3, (some .int)), (1, yX1_lead, cX1_lead, 5, (some .int)), (1, yX1_unwrap, cX1_unwrap, 6, none)]
def dMi_1 : List dMI := [(1, yX1_follow, cX1_follow, 6, none), (1, yX1_ledTo, cX1_ledTo, 2, (some .int)), (1, yX1_fill, cX1_fill, 3, (some .boolean)), (1, yX1_numberCalls, cX1_numberCalls, 4, none), (1, yX1_callAll, cX1_callAll, 6, (some .boolean)), (1, yX1_callStatement, cX1_callStatement, 8, (some .boolean)), (1, yX1_called, cX1_called, 7, (some .int)), (1, yX1_bindArgument, cX1_bindArgument, 8, none), (1, yX1_hasParams, cX1_hasParams, 4, (some .boolean)), (1, yX1_holdsParams, cX1_holdsParams, 3, (some .boolean)), (1, yX1_sameArguments, cX1_sameArguments, 4, (some .boolean)), (2, yX2_init, cX2_init, 1, none), (2, yX2_isTop, cX2_isTop, 2, (some .boolean)), (2, yX2_size, cX2_size, 1, (some .int)), (2, yX2_faultPlace, cX2_faultPlace, 1, (some .int)), (2, yX2_majorOf, cX2_majorOf, 2, (some .int)), (2, yX2_numberOf, cX2_numberOf, 2, (some .long)), (2, yX2_widthOf, cX2_widthOf, 2, (some .int)), (2, yX2_afterOf, cX2_afterOf, 2, (some .int)), (2, yX2_startOf, cX2_startOf, 2, (some .int)), (2, yX2_behindOf, cX2_behindOf, 2, (some .int)), (2, yX2_byteOf, cX2_byteOf, 4, (some .int)), (2, yX2_told, cX2_told, 4, (some .long)), (2, yX2_take, cX2_take, 4, (some .boolean)), (2, yX2_readWhole, cX2_readWhole, 6, (some .boolean))]
def dMi_2 : List dMI := [(2, yX2_open, cX2_open, 4, none), (2, yX2_within, cX2_within, 6, (some .int)), (2, yX2_bad, cX2_bad, 2, (some .int)), (2, yX2_readItem, cX2_readItem, 7, (some .int)), (2, yX2_readHead, cX2_readHead, 9, (some .int)), (2, yX2_readString, cX2_readString, 8, (some .int)), (2, yX2_behindBytes, cX2_behindBytes, 4, (some .int)), (2, yX2_readPartHead, cX2_readPartHead, 4, (some .int)), (2, yX2_partSize, cX2_partSize, 7, (some .long)), (2, yX2_readList, cX2_readList, 10, (some .int)), (3, yX3_init, cX3_init, 4, none), (3, yX3_obey, cX3_obey, 2, none), (3, yX3_says, cX3_says, 6, (some .boolean)), (3, yX3_goTo, cX3_goTo, 4, (some .int)), (3, yX3_look, cX3_look, 3, (some .int)), (3, yX3_set, cX3_set, 5, none), (3, yX3_push, cX3_push, 6, (some .int)), (3, yX3_enter, cX3_enter, 5, (some .int)), (3, yX3_enterNamed, cX3_enterNamed, 7, (some .int)), (3, yX3_leave, cX3_leave, 7, (some .int)), (3, yX3_kept, cX3_kept, 4, (some .int)), (3, yX3_check, cX3_check, 10, (some .int)), (3, yX3_enterArray, cX3_enterArray, 6, (some .int)), (3, yX3_pushGroup, cX3_pushGroup, 7, none), (3, yX3_beginChoice, cX3_beginChoice, 3, none)]
def dMi_3 : List dMI := [(3, yX3_beginEntry, cX3_beginEntry, 3, none), (3, yX3_findGroup, cX3_findGroup, 3, none), (3, yX3_goOn, cX3_goOn, 5, (some .int)), (3, yX3_known, cX3_known, 6, (some .int)), (3, yX3_ended, cX3_ended, 5, (some .int)), (3, yX3_gained, cX3_gained, 5, (some .int)), (3, yX3_take, cX3_take, 5, none), (3, yX3_endEntry, cX3_endEntry, 4, none), (3, yX3_enterMap, cX3_enterMap, 6, (some .int)), (3, yX3_goFit, cX3_goFit, 4, (some .int)), (3, yX3_asksMore, cX3_asksMore, 3, (some .boolean)), (3, yX3_ask, cX3_ask, 6, (some .int)), (3, yX3_answered, cX3_answered, 5, (some .int)), (3, yX3_isGiven, cX3_isGiven, 4, (some .boolean)), (3, yX3_ways, cX3_ways, 14, (some .long)), (3, yX3_throughGroup, cX3_throughGroup, 16, (some .long)), (3, yX3_waysWithin, cX3_waysWithin, 7, (some .long)), (3, yX3_choicesOf, cX3_choicesOf, 3, (some .int)), (3, yX3_giveTo, cX3_giveTo, 16, (some .long)), (4, yX4_init, cX4_init, 3, none), (4, yX4_obey, cX4_obey, 2, none), (4, yX4_isSo, cX4_isSo, 5, (some .boolean)), (4, yX4_isTag, cX4_isTag, 5, (some .boolean)), (4, yX4_compares, cX4_compares, 5, (some .boolean)), (4, yX4_isNumber, cX4_isNumber, 2, (some .boolean))]
def dMi_4 : List dMI := [(4, yX4_inRange, cX4_inRange, 4, (some .boolean)), (4, yX4_compare, cX4_compare, 8, (some .int)), (4, yX4_hasBytes, cX4_hasBytes, 5, (some .boolean)), (4, yX4_isSimple, cX4_isSimple, 6, (some .boolean)), (4, yX4_hasSize, cX4_hasSize, 8, (some .boolean)), (4, yX4_hasBits, cX4_hasBits, 11, (some .boolean)), (4, yX4_mask, cX4_mask, 9, (some .long)), (4, yX4_maskOf, cX4_maskOf, 7, (some .long)), (4, yX4_maskNamed, cX4_maskNamed, 11, (some .long)), (4, yX4_maskControl, cX4_maskControl, 8, (some .long)), (4, yX4_sized, cX4_sized, 6, (some .long)), (4, yX4_withBits, cX4_withBits, 6, (some .long)), (4, yX4_maskLeaf, cX4_maskLeaf, 6, (some .long)), (4, yX4_numberOf, cX4_numberOf, 5, (some .long)), (4, yX4_range, cX4_range, 9, (some .long)), (5, yX5_init, cX5_init, 2, none), (5, yX5_firstLoop, cX5_firstLoop, 5, (some .int)), (5, yX5_meetsItself, cX5_meetsItself, 3, (some .boolean)), (5, yX5_ownBox, cX5_ownBox, 3, (some .int)), (5, yX5_context, cX5_context, 3, (some .int)), (5, yX5_reach, cX5_reach, 4, none), (5, yX5_see, cX5_see, 2, none), (5, yX5_leadOn, cX5_leadOn, 4, none), (5, yX5_leadOnIn, cX5_leadOnIn, 7, none), (5, yX5_groupsTooLarge, cX5_groupsTooLarge, 3, (some .boolean))]
def dMi_5 : List dMI := [(5, yX5_countEntry, cX5_countEntry, 5, (some .int)), (5, yX5_countWithin, cX5_countWithin, 4, (some .int)), (5, yX5_weigh, cX5_weigh, 3, none), (5, yX5_markTied, cX5_markTied, 3, none), (5, yX5_tiesOf, cX5_tiesOf, 5, (some .int)), (5, yX5_placeEntries, cX5_placeEntries, 7, (some .int)), (5, yX5_pathsTooLong, cX5_pathsTooLong, 3, (some .boolean)), (5, yX5_raise, cX5_raise, 4, none), (5, yX5_measure, cX5_measure, 10, (some .int)), (5, yX5_measureArguments, cX5_measureArguments, 7, none), (5, yX5_pathTo, cX5_pathTo, 7, (some .int)), (5, yX5_behindName, cX5_behindName, 7, (some .int)), (6, yX6_init, cX6_init, 1, none), (6, yX6_renew, cX6_renew, 2, none), (6, yX6_key, cX6_key, 4, (some .long)), (6, yX6_find, cX6_find, 9, (some .int)), (6, yX6_keep, cX6_keep, 4, none), (6, yX6_settle, cX6_settle, 7, none), (6, yX6_grow, cX6_grow, 3, none), (6, yX6_slot, cX6_slot, 3, (some .int)), (7, yX7_init, cX7_init, 2, none), (7, yX7_failedToken, cX7_failedToken, 1, (some .int)), (7, yX7_readRules, cX7_readRules, 3, (some .boolean)), (7, yX7_peek, cX7_peek, 1, (some .int)), (7, yX7_fail, cX7_fail, 1, (some .int))]
def dMi_6 : List dMI := [(7, yX7_take, cX7_take, 2, (some .boolean)), (7, yX7_grow, cX7_grow, 4, (some .int)), (7, yX7_readStatement, cX7_readStatement, 6, (some .boolean)), (7, yX7_beginsBody, cX7_beginsBody, 1, (some .boolean)), (7, yX7_behindParams, cX7_behindParams, 5, (some .int)), (7, yX7_atStatementEnd, cX7_atStatementEnd, 2, (some .boolean)), (7, yX7_readTypeBody, cX7_readTypeBody, 7, (some .boolean)), (7, yX7_goBack, cX7_goBack, 6, none), (7, yX7_readType, cX7_readType, 1, (some .int)), (7, yX7_readChoices, cX7_readChoices, 5, (some .int)), (7, yX7_readType1, cX7_readType1, 8, (some .int)), (7, yX7_joined, cX7_joined, 5, (some .int)), (7, yX7_controlNamed, cX7_controlNamed, 2, (some .int)), (7, yX7_readType2, cX7_readType2, 2, (some .int)), (7, yX7_readParen, cX7_readParen, 3, (some .int)), (7, yX7_readBox, cX7_readBox, 8, (some .int)), (7, yX7_readAndGroup, cX7_readAndGroup, 4, (some .int)), (7, yX7_readHash, cX7_readHash, 9, (some .int)), (7, yX7_readName, cX7_readName, 7, (some .int)), (7, yX7_readArgument, cX7_readArgument, 3, (some .int)), (7, yX7_readGroup, cX7_readGroup, 5, (some .int)), (7, yX7_readEntries, cX7_readEntries, 5, (some .boolean)), (7, yX7_beginsEntry, cX7_beginsEntry, 1, (some .boolean)), (7, yX7_readEntry, cX7_readEntry, 8, (some .int)), (7, yX7_isOnlyGroup, cX7_isOnlyGroup, 2, (some .boolean))]
def dMi_7 : List dMI := [(7, yX7_noteOnlyGroup, cX7_noteOnlyGroup, 2, none), (7, yX7_readTyped, cX7_readTyped, 5, (some .boolean)), (7, yX7_readShortKey, cX7_readShortKey, 3, (some .int)), (8, yX8_init, cX8_init, 1, none), (8, yX8_keepPrelude, cX8_keepPrelude, 1, none), (8, yX8_begin, cX8_begin, 1, none), (8, yX8_addStatement, cX8_addStatement, 5, (some .int)), (8, yX8_addRule, cX8_addRule, 3, (some .int)), (8, yX8_ownRules, cX8_ownRules, 1, (some .int)), (8, yX8_numbered, cX8_numbered, 2, (some .int)), (8, yX8_firstNode, cX8_firstNode, 2, (some .int)), (8, yX8_endNode, cX8_endNode, 2, (some .int)), (8, yX8_headOf, cX8_headOf, 2, (some .int)), (8, yX8_paramsOf, cX8_paramsOf, 2, (some .int)), (8, yX8_isRule, cX8_isRule, 2, (some .boolean)), (8, yX8_isOwn, cX8_isOwn, 2, (some .boolean)), (8, yX8_isGroup, cX8_isGroup, 2, (some .boolean)), (8, yX8_ruleOfNode, cX8_ruleOfNode, 2, (some .int)), (8, yX8_paramToken, cX8_paramToken, 3, (some .int)), (8, yX8_ruleNamed, cX8_ruleNamed, 5, (some .int)), (8, yX8_paramNamed, cX8_paramNamed, 5, (some .int)), (8, yX8_target, cX8_target, 5, (some .int)), (8, yX8_single, cX8_single, 4, (some .int)), (8, yX8_box, cX8_box, 6, (some .int)), (8, yX8_least, cX8_least, 3, (some .int))]
def dMi_8 : List dMI := [(8, yX8_most, cX8_most, 3, (some .int)), (9, yX9_init, cX9_init, 1, none), (9, yX9_cutPrelude, cX9_cutPrelude, 2, none), (9, yX9_cutOwn, cX9_cutOwn, 4, none), (9, yX9_kindOf, cX9_kindOf, 2, (some .int)), (9, yX9_placeOf, cX9_placeOf, 2, (some .int)), (9, yX9_lastToken, cX9_lastToken, 1, (some .int)), (9, yX9_bodyByte, cX9_bodyByte, 3, (some .int)), (9, yX9_sameBody, cX9_sameBody, 7, (some .boolean)), (9, yX9_isWord, cX9_isWord, 6, (some .boolean)), (9, yX9_load, cX9_load, 5, (some .int)), (9, yX9_cut, cX9_cut, 6, none), (9, yX9_add, cX9_add, 3, none), (9, yX9_opensTooMuch, cX9_opensTooMuch, 2, (some .boolean)), (9, yX9_look, cX9_look, 2, (some .int)), (9, yX9_behindBlanks, cX9_behindBlanks, 5, (some .int)), (9, yX9_one, cX9_one, 4, (some .int)), (9, yX9_sign, cX9_sign, 3, (some .int)), (9, yX9_dots, cX9_dots, 2, (some .int)), (9, yX9_slashes, cX9_slashes, 2, (some .int)), (9, yX9_named, cX9_named, 5, (some .int)), (9, yX9_numberAt, cX9_numberAt, 6, (some .int)), (9, yX9_occur, cX9_occur, 5, (some .int)), (9, yX9_anOccur, cX9_anOccur, 6, (some .int)), (9, yX9_hash, cX9_hash, 5, (some .int))]
def dMi_9 : List dMI := [(9, yX9_behindUint, cX9_behindUint, 3, (some .int)), (9, yX9_behindZero, cX9_behindZero, 2, (some .int)), (9, yX9_behindDigits, cX9_behindDigits, 7, (some .int)), (9, yX9_mostBefore, cX9_mostBefore, 2, (some .long)), (9, yX9_behindFloat, cX9_behindFloat, 5, (some .int)), (9, yX9_behindPlain, cX9_behindPlain, 3, (some .int)), (9, yX9_quoted, cX9_quoted, 7, (some .int)), (9, yX9_hexBytes, cX9_hexBytes, 7, (some .int)), (9, yX9_closed, cX9_closed, 4, (some .int)), (9, yX9_addBody, cX9_addBody, 2, none), (9, yX9_escaped, cX9_escaped, 1, (some .int)), (9, yX9_isDigit, cX9_isDigit, 1, (some .boolean)), (9, yX9_digit, cX9_digit, 1, (some .int)), (9, yX9_sticks, cX9_sticks, 1, (some .boolean)), (9, yX9_startsName, cX9_startsName, 1, (some .boolean)), (9, yX9_goesOnName, cX9_goesOnName, 1, (some .boolean)), (10, yX10_init, cX10_init, 1, none), (10, yX10_add, cX10_add, 4, (some .int)), (10, yX10_kindOf, cX10_kindOf, 2, (some .int)), (10, yX10_nextOf, cX10_nextOf, 2, (some .int)), (10, yX10_firstOf, cX10_firstOf, 2, (some .int)), (10, yX10_secondOf, cX10_secondOf, 2, (some .int)), (10, yX10_chainIn, cX10_chainIn, 3, (some .int)), (10, yX10_aloneIn, cX10_aloneIn, 3, (some .int)), (10, yX10_isName, cX10_isName, 3, (some .boolean))]
def dMi_10 : List dMI := [(10, yX10_isEntry, cX10_isEntry, 3, (some .boolean)), (10, yX10_nameToken, cX10_nameToken, 2, (some .int)), (10, yX10_append, cX10_append, 5, none), (10, yX10_length, cX10_length, 4, (some .int)), (11, yX11_init, cX11_init, 2, none), (12, yX12_init, cX12_init, 1, none), (12, yX12_feed, cX12_feed, 6, (some .int)), (12, yX12_end, cX12_end, 2, (some .int)), (12, yX12_grammar, cX12_grammar, 5, (some .int)), (12, yX12_item, cX12_item, 2, (some .int)), (12, yX12_node, cX12_node, 3, (some .long)), (12, yX12_judge, cX12_judge, 4, (some .int)), (12, yX12_feedNumber, cX12_feedNumber, 3, none), (12, yX12_faulty, cX12_faulty, 3, (some .int)), (12, yX12_at, cX12_at, 2, (some .int)), (12, yX12_put, cX12_put, 3, none), (12, yX12_longAt, cX12_longAt, 2, (some .long)), (12, yX12_putLong, cX12_putLong, 4, none), (12, yX12_byteAt, cX12_byteAt, 2, (some .int)), (12, yX12_putByte, cX12_putByte, 3, none), (12, yX12_copy, cX12_copy, 5, none), (12, yX12_below, cX12_below, 4, (some .boolean)), (13, yL_put, cL_put, 4, none), (13, yL_close, cL_close, 3, (some .boolean)), (13, yL_law, cL_law, 17, (some .boolean))]
def dMis : List dMI := dMi_0 ++ (dMi_1 ++ (dMi_2 ++ (dMi_3 ++ (dMi_4 ++ (dMi_5 ++ (dMi_6 ++ (dMi_7 ++ (dMi_8 ++ (dMi_9 ++ (dMi_10))))))))))
def dHT : List (MethodName × List (Nat × Nat × Nat × Nat)) := []
def dXN : List (Nat × Nat × Nat × Nat × Nat) := []
def dWith : List Nat := []
/-- where texts are loaded: class, place, number of the text -/
def dSR : List (Nat × Nat × Nat) := [(7, 161, 0), (7, 167, 1), (7, 169, 2), (7, 171, 3), (7, 173, 4), (7, 175, 5), (7, 177, 6), (7, 179, 7), (7, 181, 8), (7, 183, 9), (7, 185, 10), (7, 187, 11), (7, 189, 12), (9, 35, 13), (9, 41, 14), (9, 43, 15), (9, 45, 16), (9, 47, 17), (9, 49, 18)]
def dTn : List String := ["size", "bits", "cbor", "cborseq", "within", "and", "lt", "le", "gt", "ge", "eq", "ne", "default", "any = # uint = #0 nint = #1 int = uint / nint bstr = #2 bytes = #2 tstr = #3 text = #3 tdate = #6.0(tstr) time = #6.1(number) number = int / float ", "biguint = #6.2(bstr) bignint = #6.3(bstr) bigint = biguint / bignint integer = int / bigint unsigned = uint / biguint decfrac = #6.4([e10: int, m: integer]) ", "bigfloat = #6.5([e2: int, m: integer]) eb64url = #6.21(any) eb64legacy = #6.22(any) eb16 = #6.23(any) encoded-cbor = #6.24(bstr) uri = #6.32(tstr) ", "b64url = #6.33(tstr) b64legacy = #6.34(tstr) regexp = #6.35(tstr) mime-message = #6.36(tstr) cbor-any = #6.55799(any) float16 = #7.25 float32 = #7.26 ", "float64 = #7.27 float16-32 = float16 / float32 float32-64 = float32 / float64 float = float16-32 / float64 ", "false = #7.20 true = #7.21 bool = false / true nil = #7.22 null = #7.22 undefined = #7.23 "]
/-- where length(), charAt() and indexOf() are called -/
def dSM : List (Nat × Nat × Nat) := [(9, 74, 1), (9, 80, 2)]
/-- where max and min are called -/
def dMM : List (Nat × Nat × Nat) := [(2, 134, 2), (3, 261, 1), (3, 304, 2), (4, 209, 3), (4, 217, 4), (5, 166, 1)]
/-- where System.arraycopy is called -/
def dAC : List (Nat × Nat) := [(12, 227)]
/-- where Integer.bitCount is called -/
def dBC : List (Nat × Nat) := [(3, 320)]
def dWC9 : List Cond := [.native arraycopyName, .static arraycopyName, .initialized "java/lang/System"]
def dStr : List (Nat × Nat) := [(4, 31405972911805106489862914048), (4, 35731509180791600423899234304), (4, 35415946503753546195493978112), (7, 588787215039039984889134210630025216), (6, 2239416340640141640511735583473664), (3, 121413831608753728270630912), (2, 549786760372839476363264), (2, 478951263129794798157824), (2, 549694526652470928605184), (2, 478859029409426250399744), (2, 535490533715714573860864), (2, 478988156617942217261056), (7, 604506235666083744203163369216147456), (147, 2400109611035358571551659714172276372446051942110115846352448895271921056632910127196361919807753197414681089606255656086508533251367874474797039963528644434757535995250380265728415283581866462161581270641046640395702852114447491882391864629187946951027344852890674200201750823630481706236122456822019043624450964110741882792767653747974031719870571199293559894475320328192), (157, 2875356618791405526016292534695630202107375528570537643906120950715486713066748273660514899042423763082905287997985450640342880478329133008743470148074856756998781091432312804494950929565470863722616510006902748806275694607249832695332991066554151289731230560573082012805618604657713081104578542557954301354998510183255916132085698169262692526526337186277722956057117267544458281161687890554519552), (147, 2378462955333718511567818932782630705771777240052167906864170127002072137751094794488409864290561086430036552042142876459474370745526801825614806721168352761852415699888206776411851658664931356389185987764835610968510525077376802272972197380700420453615741639367403715726074363403663467866086513673950273364505621278755261732578382750765273497275211428056628156877114441728), (150, 39965775337087323412219648462419320496672846933820687727105203802191816444255738829868369491809851548396751299529705549692809884234802893619521004456830104786191673043082314726306762650841905674174275836233574335663541546616300636353925411377414296496122843767952364925467343411468674754490531754826698519854981129188936525533515969845300871804855357941300007235266557359358476288), (107, 1114975357432280033239415539996021826569238207193813811829860698495606277761120669590877114044906895367983917274631008527827744726571059424617655950356209835359680549654489741557522105578977367565280243664849344734264253648019160880263808309140214874228688332448053254590300160), (90, 12797710955846014217545734591746494552042843310699038724135460680631953639653947531226519111663404402213660744058232820538308414480494129904913546628206276009708959596613999561025264969445301116584511323359809356264125949016243823443968)]
end
section
/-! ===== the JDK methods that texts of constants reach (names and decode rows: the printed ones of this claim) ===== -/
def RJ0 : String := "java/lang/String"
def RJ1 : String := "java/lang/StringLatin1"
def RJ3 : String := "jdk/internal/util/Preconditions"
abbrev cJ0_coder_7d493 : ByteArray := prog_18_method_152_code
def yJ0_coder_7d493 : MethodName := ⟨RJ0, "coder", "()B"⟩
abbrev cJ0_length_8abf5 : ByteArray := prog_18_method_54_code
def yJ0_length_8abf5 : MethodName := ⟨RJ0, "length", "()I"⟩
abbrev cJ0_isLatin1_aae02 : ByteArray := prog_18_method_154_code
def yJ0_isLatin1_aae02 : MethodName := ⟨RJ0, "isLatin1", "()Z"⟩
abbrev cJ0_checkIndex_df160 : ByteArray := prog_18_method_155_code
def yJ0_checkIndex_df160 : MethodName := ⟨RJ0, "checkIndex", "(II)V"⟩
abbrev cJ0_charAt_5068e : ByteArray := prog_18_method_56_code
def yJ0_charAt_5068e : MethodName := ⟨RJ0, "charAt", "(I)C"⟩
abbrev cJ1_charAt_3b067 : ByteArray := prog_19_method_2_code
def yJ1_charAt_3b067 : MethodName := ⟨RJ1, "charAt", "([BI)C"⟩
abbrev cJ3_checkIndex_8e157 : ByteArray := prog_22_method_11_code
def yJ3_checkIndex_8e157 : MethodName := ⟨RJ3, "checkIndex", "(IILjava/util/function/BiFunction;)I"⟩
theorem dJ0_coder_7d493_0 : decode cJ0_coder_7d493 0 = .ok (.getstatic 38, 3) := by decide +kernel
theorem dJ0_coder_7d493_3 : decode cJ0_coder_7d493 3 = .ok (.ifCond .eq 10, 3) := by decide +kernel
theorem dJ0_coder_7d493_6 : decode cJ0_coder_7d493 6 = .ok (.aload_n 0, 1) := by decide +kernel
theorem dJ0_coder_7d493_7 : decode cJ0_coder_7d493 7 = .ok (.getfield 15, 3) := by decide +kernel
theorem dJ0_coder_7d493_10 : decode cJ0_coder_7d493 10 = .ok (.goto 4, 3) := by decide +kernel
theorem dJ0_coder_7d493_13 : decode cJ0_coder_7d493 13 = .ok (.iconst 1, 1) := by decide +kernel
theorem dJ0_coder_7d493_14 : decode cJ0_coder_7d493 14 = .ok (.ireturn, 1) := by decide +kernel
theorem dJ0_length_8abf5_0 : decode cJ0_length_8abf5 0 = .ok (.aload_n 0, 1) := by decide +kernel
theorem dJ0_length_8abf5_1 : decode cJ0_length_8abf5 1 = .ok (.getfield 9, 3) := by decide +kernel
theorem dJ0_length_8abf5_4 : decode cJ0_length_8abf5 4 = .ok (.arraylength, 1) := by decide +kernel
theorem dJ0_length_8abf5_5 : decode cJ0_length_8abf5 5 = .ok (.aload_n 0, 1) := by decide +kernel
theorem dJ0_length_8abf5_6 : decode cJ0_length_8abf5 6 = .ok (.invokevirtual 335, 3) := by decide +kernel
theorem dJ0_length_8abf5_9 : decode cJ0_length_8abf5 9 = .ok (.ishr, 1) := by decide +kernel
theorem dJ0_length_8abf5_10 : decode cJ0_length_8abf5 10 = .ok (.ireturn, 1) := by decide +kernel
theorem dJ0_isLatin1_aae02_0 : decode cJ0_isLatin1_aae02 0 = .ok (.getstatic 38, 3) := by decide +kernel
theorem dJ0_isLatin1_aae02_3 : decode cJ0_isLatin1_aae02 3 = .ok (.ifCond .eq 14, 3) := by decide +kernel
theorem dJ0_isLatin1_aae02_6 : decode cJ0_isLatin1_aae02 6 = .ok (.aload_n 0, 1) := by decide +kernel
theorem dJ0_isLatin1_aae02_7 : decode cJ0_isLatin1_aae02 7 = .ok (.getfield 15, 3) := by decide +kernel
theorem dJ0_isLatin1_aae02_10 : decode cJ0_isLatin1_aae02 10 = .ok (.ifCond .ne 7, 3) := by decide +kernel
theorem dJ0_isLatin1_aae02_13 : decode cJ0_isLatin1_aae02 13 = .ok (.iconst 1, 1) := by decide +kernel
theorem dJ0_isLatin1_aae02_14 : decode cJ0_isLatin1_aae02 14 = .ok (.goto 4, 3) := by decide +kernel
theorem dJ0_isLatin1_aae02_17 : decode cJ0_isLatin1_aae02 17 = .ok (.iconst 0, 1) := by decide +kernel
theorem dJ0_isLatin1_aae02_18 : decode cJ0_isLatin1_aae02 18 = .ok (.ireturn, 1) := by decide +kernel
theorem dJ0_checkIndex_df160_0 : decode cJ0_checkIndex_df160 0 = .ok (.iload_n 0, 1) := by decide +kernel
theorem dJ0_checkIndex_df160_1 : decode cJ0_checkIndex_df160 1 = .ok (.iload_n 1, 1) := by decide +kernel
theorem dJ0_checkIndex_df160_2 : decode cJ0_checkIndex_df160 2 = .ok (.getstatic 1053, 3) := by decide +kernel
theorem dJ0_checkIndex_df160_5 : decode cJ0_checkIndex_df160 5 = .ok (.invokestatic 1059, 3) := by decide +kernel
theorem dJ0_checkIndex_df160_8 : decode cJ0_checkIndex_df160 8 = .ok (.pop, 1) := by decide +kernel
theorem dJ0_checkIndex_df160_9 : decode cJ0_checkIndex_df160 9 = .ok (.return_, 1) := by decide +kernel
theorem dJ0_charAt_5068e_0 : decode cJ0_charAt_5068e 0 = .ok (.aload_n 0, 1) := by decide +kernel
theorem dJ0_charAt_5068e_1 : decode cJ0_charAt_5068e 1 = .ok (.invokevirtual 492, 3) := by decide +kernel
theorem dJ0_charAt_5068e_4 : decode cJ0_charAt_5068e 4 = .ok (.ifCond .eq 12, 3) := by decide +kernel
theorem dJ0_charAt_5068e_7 : decode cJ0_charAt_5068e 7 = .ok (.aload_n 0, 1) := by decide +kernel
theorem dJ0_charAt_5068e_8 : decode cJ0_charAt_5068e 8 = .ok (.getfield 9, 3) := by decide +kernel
theorem dJ0_charAt_5068e_11 : decode cJ0_charAt_5068e 11 = .ok (.iload_n 1, 1) := by decide +kernel
theorem dJ0_charAt_5068e_12 : decode cJ0_charAt_5068e 12 = .ok (.invokestatic 495, 3) := by decide +kernel
theorem dJ0_charAt_5068e_15 : decode cJ0_charAt_5068e 15 = .ok (.ireturn, 1) := by decide +kernel
theorem dJ0_charAt_5068e_16 : decode cJ0_charAt_5068e 16 = .ok (.aload_n 0, 1) := by decide +kernel
theorem dJ0_charAt_5068e_17 : decode cJ0_charAt_5068e 17 = .ok (.getfield 9, 3) := by decide +kernel
theorem dJ0_charAt_5068e_20 : decode cJ0_charAt_5068e 20 = .ok (.iload_n 1, 1) := by decide +kernel
theorem dJ0_charAt_5068e_21 : decode cJ0_charAt_5068e 21 = .ok (.invokestatic 498, 3) := by decide +kernel
theorem dJ0_charAt_5068e_24 : decode cJ0_charAt_5068e 24 = .ok (.ireturn, 1) := by decide +kernel
theorem dJ1_charAt_3b067_0 : decode cJ1_charAt_3b067 0 = .ok (.iload_n 1, 1) := by decide +kernel
theorem dJ1_charAt_3b067_1 : decode cJ1_charAt_3b067 1 = .ok (.aload_n 0, 1) := by decide +kernel
theorem dJ1_charAt_3b067_2 : decode cJ1_charAt_3b067 2 = .ok (.arraylength, 1) := by decide +kernel
theorem dJ1_charAt_3b067_3 : decode cJ1_charAt_3b067 3 = .ok (.invokestatic 9, 3) := by decide +kernel
theorem dJ1_charAt_3b067_6 : decode cJ1_charAt_3b067 6 = .ok (.aload_n 0, 1) := by decide +kernel
theorem dJ1_charAt_3b067_7 : decode cJ1_charAt_3b067 7 = .ok (.iload_n 1, 1) := by decide +kernel
theorem dJ1_charAt_3b067_8 : decode cJ1_charAt_3b067 8 = .ok (.baload, 1) := by decide +kernel
theorem dJ1_charAt_3b067_9 : decode cJ1_charAt_3b067 9 = .ok (.sipush 255, 3) := by decide +kernel
theorem dJ1_charAt_3b067_12 : decode cJ1_charAt_3b067 12 = .ok (.iand, 1) := by decide +kernel
theorem dJ1_charAt_3b067_13 : decode cJ1_charAt_3b067 13 = .ok (.i2c, 1) := by decide +kernel
theorem dJ1_charAt_3b067_14 : decode cJ1_charAt_3b067 14 = .ok (.ireturn, 1) := by decide +kernel
theorem dJ3_checkIndex_8e157_0 : decode cJ3_checkIndex_8e157 0 = .ok (.iload_n 0, 1) := by decide +kernel
theorem dJ3_checkIndex_8e157_1 : decode cJ3_checkIndex_8e157 1 = .ok (.ifCond .lt 8, 3) := by decide +kernel
theorem dJ3_checkIndex_8e157_4 : decode cJ3_checkIndex_8e157 4 = .ok (.iload_n 0, 1) := by decide +kernel
theorem dJ3_checkIndex_8e157_5 : decode cJ3_checkIndex_8e157 5 = .ok (.iload_n 1, 1) := by decide +kernel
theorem dJ3_checkIndex_8e157_6 : decode cJ3_checkIndex_8e157 6 = .ok (.if_icmp .lt 10, 3) := by decide +kernel
theorem dJ3_checkIndex_8e157_9 : decode cJ3_checkIndex_8e157 9 = .ok (.aload_n 2, 1) := by decide +kernel
theorem dJ3_checkIndex_8e157_10 : decode cJ3_checkIndex_8e157 10 = .ok (.iload_n 0, 1) := by decide +kernel
theorem dJ3_checkIndex_8e157_11 : decode cJ3_checkIndex_8e157 11 = .ok (.iload_n 1, 1) := by decide +kernel
theorem dJ3_checkIndex_8e157_12 : decode cJ3_checkIndex_8e157 12 = .ok (.invokestatic 95, 3) := by decide +kernel
theorem dJ3_checkIndex_8e157_15 : decode cJ3_checkIndex_8e157 15 = .ok (.athrow, 1) := by decide +kernel
theorem dJ3_checkIndex_8e157_16 : decode cJ3_checkIndex_8e157 16 = .ok (.iload_n 0, 1) := by decide +kernel
theorem dJ3_checkIndex_8e157_17 : decode cJ3_checkIndex_8e157 17 = .ok (.ireturn, 1) := by decide +kernel
end
section
/-! ===== texts of constants: the JDK's length() and charAt() on them ===== -/
def dTJ : List Cond := [.code yJ0_coder_7d493 cJ0_coder_7d493 1 (some .byte), .code yJ0_length_8abf5 cJ0_length_8abf5 1 (some .int), .code yJ0_isLatin1_aae02 cJ0_isLatin1_aae02 1 (some .boolean), .code yJ0_checkIndex_df160 cJ0_checkIndex_df160 2 none, .code yJ0_charAt_5068e cJ0_charAt_5068e 2 (some .char), .code yJ1_charAt_3b067 cJ1_charAt_3b067 2 (some .char), .code yJ3_checkIndex_8e157 cJ3_checkIndex_8e157 3 (some .int),
  .fieldLink RJ0 38 "java/lang/String" "COMPACT_STRINGS" "Z", .fieldLink RJ0 15 "java/lang/String" "coder" "B", .fieldLink RJ0 9 "java/lang/String" "value" "[B", .fieldLink RJ0 1053 "jdk/internal/util/Preconditions" "SIOOBE_FORMATTER" "Ljava/util/function/BiFunction;",
  .methodLink RJ0 335 yJ0_coder_7d493, .instanceMethod yJ0_coder_7d493, .selects RJ0 yJ0_coder_7d493 yJ0_coder_7d493, .methodLink RJ0 492 yJ0_isLatin1_aae02, .instanceMethod yJ0_isLatin1_aae02, .selects RJ0 yJ0_isLatin1_aae02 yJ0_isLatin1_aae02, .initialized RJ0, .initialized RJ1, .initialized RJ3,
  .methodLink RJ0 495 yJ1_charAt_3b067, .static yJ1_charAt_3b067, .methodLink RJ1 9 yJ0_checkIndex_df160, .static yJ0_checkIndex_df160, .methodLink RJ0 1059 yJ3_checkIndex_8e157, .static yJ3_checkIndex_8e157,
  .instanceMethod yJ0_length_8abf5, .selects RJ0 yJ0_length_8abf5 yJ0_length_8abf5, .instanceMethod yJ0_charAt_5068e, .selects RJ0 yJ0_charAt_5068e yJ0_charAt_5068e]
theorem dTJ_good : dTJ.all goodWord = true := by decide +kernel
theorem dGJ {Ts : List Cond} {k : Cond} (hT : ∀ w ∈ dTJ, w ∈ Ts) (hk : k ∈ dTJ) : GoodIn Ts (k :: dTJ) := by
  intro w hw
  have h : w ∈ dTJ := by
    rcases List.mem_cons.mp hw with rfl | h
    · exact hk
    · exact h
  exact ⟨hT w h, good_of_word (List.all_eq_true.mp dTJ_good w h)⟩
/-- what texts hold: coder and bytes -/
def dVS (N : Nat) (len : List Nat) (byt : List (List Int32)) (adK adV : Nat → Nat) (A : Nat → Prop) (U : State) (H : Heap) : Prop :=
  (∀ i : Nat, i < N → va_O "java/lang/String" (adK i) A U H ∧ va_OF "java/lang/String" "coder" "B" (.int 0) (adK i) A U H ∧ va_OF "java/lang/String" "value" "[B" (.ref (adV i)) (adK i) A U H ∧ va_T .byte (adV i) (len.getD i 0) (fun j => .int ((byt.getD i []).getD j 0)) A U H) ∧ True
theorem dVS.moved {N : Nat} {len : List Nat} {byt : List (List Int32)} {adK adV : Nat → Nat} {A : Nat → Prop} {u U : State} {H : Heap} (hvm : u.vm.Alike U.vm) (h : dVS N len byt adK adV A u H) : dVS N len byt adK adV A U H :=
  ⟨fun i hi => ⟨(h.1 i hi).1.moved hvm, (h.1 i hi).2.1.moved hvm, (h.1 i hi).2.2.1.moved hvm, (h.1 i hi).2.2.2.moved hvm⟩, trivial⟩
theorem dVS.kept {N : Nat} {len : List Nat} {byt : List (List Int32)} {adK adV : Nat → Nat} {A : Nat → Prop} {U : State} {H H1 : Heap} (h : dVS N len byt adK adV A U H) (hq : ∀ a : Nat, a < H.size → ¬ A a → H1[a]? = H[a]?) : dVS N len byt adK adV A U H1 :=
  ⟨fun i hi => ⟨(h.1 i hi).1.kept hq, (h.1 i hi).2.1.kept hq, (h.1 i hi).2.2.1.kept hq, (h.1 i hi).2.2.2.kept hq⟩, trivial⟩
theorem dVS_recv {N : Nat} {len : List Nat} {byt : List (List Int32)} {adK adV : Nat → Nat} {A : Nat → Prop} {s : State} {H : Heap} {locs : List Loc} {i : Nat} (hE : dVS N len byt adK adV A s s.heap) (hi : i < N) (hS : va_S A s.heap H locs) : ∃ cell : Cell, H[adK i]? = some cell ∧ cell.vm.isStatics = false ∧ s.vm.findClass "java/lang/String" = some cell.cls := by
  obtain ⟨cell, h1, h2, h3, -⟩ := (hE.1 i hi).1.kept hS.2.1
  exact ⟨cell, h1, h2, h3⟩
/-- what the JDK's statics and the texts hold -/
def dTxt (A : Nat → Prop) (N : Nat) (len : List Nat) (byt : List (List Int32)) (adK adV : Nat → Nat) (U : State) (H : Heap) : Prop :=
  va_Z "java/lang/String" "COMPACT_STRINGS" "Z" (.int 1) A U H ∧ va_Zq "jdk/internal/util/Preconditions" "SIOOBE_FORMATTER" "Ljava/util/function/BiFunction;" A U H ∧ dVS N len byt adK adV A U H
theorem dTxt.moved {A : Nat → Prop} {N : Nat} {len : List Nat} {byt : List (List Int32)} {adK adV : Nat → Nat} {u U : State} {H : Heap} (hvm : u.vm.Alike U.vm) (h : dTxt A N len byt adK adV u H) : dTxt A N len byt adK adV U H := ⟨h.1.moved hvm, h.2.1.moved hvm, h.2.2.moved hvm⟩
theorem dTxt.kept {A : Nat → Prop} {N : Nat} {len : List Nat} {byt : List (List Int32)} {adK adV : Nat → Nat} {U : State} {H H1 : Heap} (h : dTxt A N len byt adK adV U H) (hq : ∀ a : Nat, a < H.size → ¬ A a → H1[a]? = H[a]?) : dTxt A N len byt adK adV U H1 := ⟨h.1.kept hq, h.2.1.kept hq, h.2.2.kept hq⟩
def dQp (v : Option Value) : Array Value → State → Outcome → State → Prop := fun _ st o t => o = .returned v ∧ t.heap = st.heap
section JT
variable {p : Program} {l : Launch} {e : Env} {R : Room} {s : State} {m : MethodId} {args : Array Value} {below : List Frame} {meth : Method} {c : Code} {H : Heap} {locs : List Loc} {cells slots : Nat} {Q : State → Prop}
variable {pc : Nat} {ls : Array Slot} {rest st0 : List Value} {a : Array Value}
/-- behind a call that changes nothing -/
theorem dt_after {v : Option Value} (hr : va_Run p l e R s m args below meth c H locs cells slots 0 0 (F0 m pc ls st0) rest (dQp v a) (fun _ => False)) (kk : W p l e R s m args below meth c H locs cells slots Q (F0 m (pc + 3) ls (v.toList ++ rest))) : W p l e R s m args below meth c H locs cells slots Q (F0 m pc ls st0) := by
  intro T hT X
  obtain ⟨v9, st₀, t, T', L, h0, X', hL, x1, x2, ⟨hv, hh⟩, st⟩ := hr T hT X
  cases hv
  have hLn : L = [] := by
    cases L with
    | nil => rfl
    | cons q L => exact (hL q List.mem_cons_self).elim
  subst hLn
  rw [List.append_nil] at X'
  obtain ⟨t2, a1, b1⟩ := kk T' (by rw [x1, hh, h0]) X'
  exact ⟨t2, st t2 a1, b1⟩
end JT
section JM
variable (l : Launch) {A : Nat → Prop} {N : Nat} {len : List Nat} {byt : List (List Int32)} {adK adV : Nat → Nat}
theorem dTblind {as : List Value} : FrameBlind (va_Pc as (fun U => dTxt A N len byt adK adV U U.heap)) := fun a U g mk x => ⟨x.1, dTxt.moved (u := U) (U := U.calling g mk a) (Vm.Alike.refl U.vm) x.2⟩
theorem jt_coder {z : Nat} (hz : z < N) : Met l yJ0_coder_7d493 (Cond.code yJ0_coder_7d493 cJ0_coder_7d493 1 (some .byte) :: dTJ) (k2_rm 0 0) (va_Pc [.ref (adK z)] (fun U => dTxt A N len byt adK adV U U.heap)) (dQp (some (.int 0))) 0 0 (fun _ => False) := by
  refine Met.ofW (cc := cJ0_coder_7d493) (maxL := 1) (ret := some .byte) (by decide) rfl ?_
  intro p e s m args below meth c s₁ B hml hv
  obtain ⟨rfl, hZ, hQ, hE⟩ := hv
  have hx := B.exec
  have hb := B.bytes
  have hr := B.returns
  have hts := atoms_spec (ws := Cond.code yJ0_coder_7d493 cJ0_coder_7d493 1 (some .byte) :: dTJ) B.pre
  have hown : s.vm.findClass RJ0 = some m.cls := findClass_of_methodNamed B.named
  have hlocks := B.notSynchronized
  have hS : va_S A s.heap s.heap [] := va_S.rf
  have hl := lv_entry ([.ref (adK z)]) (n := 1) (Nat.le_of_ble_eq_true rfl)
  rw [lg_entry_eq]
  generalize (lg_sl ([.ref (adK z)]) ++ List.replicate (1 - (lg_sl ([.ref (adK z)])).length) Slot.unset).toArray = ls at hl ⊢
  have hl : lv_has ls 1 [(0, .ref (adK z))] := hl
  refine va_gets hx hb hZ hS hown (hts (.fieldLink RJ0 38 "java/lang/String" "COMPACT_STRINGS" "Z") (by decide +kernel)) (fun _ h => h) dJ0_coder_7d493_0 ?_
  refine lv_if_eq (tgt := 13) hx hb dJ0_coder_7d493_3 (by decide) (fun h => absurd h (by decide)) (fun _ => ?_)
  refine lv_aload_n hx hb dJ0_coder_7d493_6 rfl (lv_at hl 0 rfl) ?_
  refine vk_getf hx hb (hE.1 z hz).2.1 hS hown (hts (.fieldLink RJ0 15 "java/lang/String" "coder" "B") (by decide +kernel)) (fun _ h => h) dJ0_coder_7d493_7 ?_
  refine lv_goto (tgt := 14) hx hb dJ0_coder_7d493_10 (by decide) ?_
  exact W.zret hx hb hr (by decide) (fun t ht hW => ⟨rfl, ht⟩) (fun _ h => by cases h) dJ0_coder_7d493_14 hlocks
theorem jt_isLatin1 {z : Nat} (hz : z < N) : Met l yJ0_isLatin1_aae02 (Cond.code yJ0_isLatin1_aae02 cJ0_isLatin1_aae02 1 (some .boolean) :: dTJ) (k2_rm 0 0) (va_Pc [.ref (adK z)] (fun U => dTxt A N len byt adK adV U U.heap)) (dQp (some (.int 1))) 0 0 (fun _ => False) := by
  refine Met.ofW (cc := cJ0_isLatin1_aae02) (maxL := 1) (ret := some .boolean) (by decide) rfl ?_
  intro p e s m args below meth c s₁ B hml hv
  obtain ⟨rfl, hZ, hQ, hE⟩ := hv
  have hx := B.exec
  have hb := B.bytes
  have hr := B.returns
  have hts := atoms_spec (ws := Cond.code yJ0_isLatin1_aae02 cJ0_isLatin1_aae02 1 (some .boolean) :: dTJ) B.pre
  have hown : s.vm.findClass RJ0 = some m.cls := findClass_of_methodNamed B.named
  have hlocks := B.notSynchronized
  have hS : va_S A s.heap s.heap [] := va_S.rf
  have hl := lv_entry ([.ref (adK z)]) (n := 1) (Nat.le_of_ble_eq_true rfl)
  rw [lg_entry_eq]
  generalize (lg_sl ([.ref (adK z)]) ++ List.replicate (1 - (lg_sl ([.ref (adK z)])).length) Slot.unset).toArray = ls at hl ⊢
  have hl : lv_has ls 1 [(0, .ref (adK z))] := hl
  refine va_gets hx hb hZ hS hown (hts (.fieldLink RJ0 38 "java/lang/String" "COMPACT_STRINGS" "Z") (by decide +kernel)) (fun _ h => h) dJ0_isLatin1_aae02_0 ?_
  refine lv_if_eq (tgt := 17) hx hb dJ0_isLatin1_aae02_3 (by decide) (fun h => absurd h (by decide)) (fun _ => ?_)
  refine lv_aload_n hx hb dJ0_isLatin1_aae02_6 rfl (lv_at hl 0 rfl) ?_
  refine vk_getf hx hb (hE.1 z hz).2.1 hS hown (hts (.fieldLink RJ0 15 "java/lang/String" "coder" "B") (by decide +kernel)) (fun _ h => h) dJ0_isLatin1_aae02_7 ?_
  refine lv_if_ne (tgt := 17) hx hb dJ0_isLatin1_aae02_10 (by decide) (fun h => absurd rfl h) (fun _ => ?_)
  refine lv_iconst (v := 1) hx hb dJ0_isLatin1_aae02_13 (by decide) ?_
  refine lv_goto (tgt := 18) hx hb dJ0_isLatin1_aae02_14 (by decide) ?_
  exact W.zret hx hb hr (by decide) (fun t ht hW => ⟨rfl, ht⟩) (fun _ h => by cases h) dJ0_isLatin1_aae02_18 hlocks
theorem jt_length {z : Nat} (hz : z < N) : Met l yJ0_length_8abf5 (Cond.code yJ0_length_8abf5 cJ0_length_8abf5 1 (some .int) :: dTJ) (k2_rm 1 22) (va_Pc [.ref (adK z)] (fun U => dTxt A N len byt adK adV U U.heap)) (dQp (some (.int (Int32.ofNat (len.getD z 0))))) 0 0 (fun _ => False) := by
  refine Met.ofW (cc := cJ0_length_8abf5) (maxL := 1) (ret := some .int) (by decide) rfl ?_
  intro p e s m args below meth c s₁ B hml hv
  obtain ⟨rfl, hT⟩ := hv
  obtain ⟨hZ, hQ, hE⟩ := id hT
  have hx := B.exec
  have hb := B.bytes
  have hr := B.returns
  have hts := atoms_spec (ws := Cond.code yJ0_length_8abf5 cJ0_length_8abf5 1 (some .int) :: dTJ) B.pre
  have hown : s.vm.findClass RJ0 = some m.cls := findClass_of_methodNamed B.named
  have hlocks := B.notSynchronized
  have hS : va_S A s.heap s.heap [] := va_S.rf
  have hl := lv_entry ([.ref (adK z)]) (n := 1) (Nat.le_of_ble_eq_true rfl)
  rw [lg_entry_eq]
  generalize (lg_sl ([.ref (adK z)]) ++ List.replicate (1 - (lg_sl ([.ref (adK z)])).length) Slot.unset).toArray = ls at hl ⊢
  have hl : lv_has ls 1 [(0, .ref (adK z))] := hl
  refine lv_aload_n hx hb dJ0_length_8abf5_0 rfl (lv_at hl 0 rfl) ?_
  refine vk_getf hx hb (hE.1 z hz).2.2.1 hS hown (hts (.fieldLink RJ0 9 "java/lang/String" "value" "[B") (by decide +kernel)) (fun _ h => h) dJ0_length_8abf5_1 ?_
  refine va_tlen hx hb (hE.1 z hz).2.2.2 hS rfl dJ0_length_8abf5_4 ?_
  refine lv_aload_n hx hb dJ0_length_8abf5_5 rfl (lv_at hl 0 rfl) ?_
  have cb := callB_of (R := k2_rm 1 22) (own := RJ0) (index := 335) (y := yJ0_coder_7d493) (rm := k2_rm 0 0) 0 hts (dGJ (k := Cond.code yJ0_coder_7d493 cJ0_coder_7d493 1 (some .byte)) (fun w h => List.mem_cons_of_mem _ h) (by decide +kernel)) rfl rfl rfl (hts (.initialized RJ0) (by decide +kernel)) (hts (.methodLink RJ0 335 yJ0_coder_7d493) (by decide +kernel)) ⟨by decide, by decide, by decide +kernel⟩ ⟨by decide, by decide⟩
  refine dt_after (va_runV (C := RJ0) (b := adK z) (As := []) (rest := [.int (Int32.ofNat (len.getD z 0))]) ⟨hx, hb, hml, hown, hts⟩ (jt_coder l (A := A) (N := N) (len := len) (byt := byt) (adK := adK) (adV := adV) hz) ⟨cb, hts (.instanceMethod yJ0_coder_7d493) (by decide +kernel), hts (.selects RJ0 yJ0_coder_7d493 yJ0_coder_7d493) (by decide +kernel)⟩ ⟨dTblind, dVS_recv hE hz hS, fun U hU hW => ⟨rfl, by show dTxt A N len byt adK adV U U.heap; rw [hU]; exact hT.moved hW.alike⟩⟩ rfl rfl hl.1 rfl (lv_room (Nat.le_of_ble_eq_true rfl)) dJ0_length_8abf5_6 ⟨Nat.le_refl _, Nat.le_refl _⟩) ?_
  refine lv_ishr (x := Int32.ofNat (len.getD z 0)) (y := 0) (rest := []) hx hb dJ0_length_8abf5_9 ?_
  have he : Int32.ofNat (len.getD z 0) >>> ((0 : Int32) &&& 31) = Int32.ofNat (len.getD z 0) := by
    rw [show (0 : Int32) &&& 31 = 0 from by decide]; exact Int32.shiftRight_zero
  rw [he]
  exact W.iret hx hb hr (fun t ht hW => ⟨rfl, ht⟩) (fun _ h => by cases h) dJ0_length_8abf5_10 hlocks
/-- checkIndex of a place that is one -/
theorem jt_pre {i n : Int32} {f : Value} (hf : f = .null ∨ ∃ q, f = .ref q) (h0 : ¬ i < 0) (h1 : i < n) : Met l yJ3_checkIndex_8e157 (Cond.code yJ3_checkIndex_8e157 cJ3_checkIndex_8e157 3 (some .int) :: dTJ) (k2_rm 0 0) (va_Pc [.int i, .int n, f] (fun U => dTxt A N len byt adK adV U U.heap)) (dQp (some (.int i))) 0 0 (fun _ => False) := by
  refine Met.ofW (cc := cJ3_checkIndex_8e157) (maxL := 3) (ret := some .int) (by decide) rfl ?_
  intro p e s m args below meth c s₁ B hml hv
  obtain ⟨rfl, hT⟩ := hv
  have hx := B.exec
  have hb := B.bytes
  have hr := B.returns
  have hlocks := B.notSynchronized
  have hcat : f.category = 1 := by rcases hf with rfl | ⟨q, rfl⟩ <;> rfl
  have hlen : (lg_sl ([.int i, .int n, f])).length = 3 := by
    simp only [lg_sl, List.flatMap_cons, List.flatMap_nil, hcat]; rfl
  have hl := lv_entry ([.int i, .int n, f]) (n := 3) (by rw [hlen]; exact Nat.le_refl 3)
  rw [lg_entry_eq]
  generalize (lg_sl ([.int i, .int n, f]) ++ List.replicate (3 - (lg_sl ([.int i, .int n, f])).length) Slot.unset).toArray = ls at hl ⊢
  have hl : lv_has ls 3 [(0, .int i), (1, .int n), (2, f)] := hl
  refine lv_iload_n hx hb dJ3_checkIndex_8e157_0 rfl (lv_at hl 0 rfl) ?_
  refine lv_if_lt (tgt := 9) hx hb dJ3_checkIndex_8e157_1 (by decide) (fun h => absurd h h0) (fun _ => ?_)
  refine lv_iload_n hx hb dJ3_checkIndex_8e157_4 rfl (lv_at hl 0 rfl) ?_
  refine lv_iload_n hx hb dJ3_checkIndex_8e157_5 rfl (lv_at hl 1 rfl) ?_
  refine lv_icmp_lt (tgt := 16) hx hb dJ3_checkIndex_8e157_6 (by decide) (fun _ => ?_) (fun h => absurd h1 h)
  refine lv_iload_n hx hb dJ3_checkIndex_8e157_16 rfl (lv_at hl 0 rfl) ?_
  exact W.iret hx hb hr (fun t ht hW => ⟨rfl, ht⟩) (fun _ h => by cases h) dJ3_checkIndex_8e157_17 hlocks
theorem jt_check {i n : Int32} (h0 : ¬ i < 0) (h1 : i < n) : Met l yJ0_checkIndex_df160 (Cond.code yJ0_checkIndex_df160 cJ0_checkIndex_df160 2 none :: dTJ) (k2_rm 1 22) (va_Pc [.int i, .int n] (fun U => dTxt A N len byt adK adV U U.heap)) (dQp none) 0 0 (fun _ => False) := by
  refine Met.ofW (cc := cJ0_checkIndex_df160) (maxL := 2) (ret := none) (by decide) rfl ?_
  intro p e s m args below meth c s₁ B hml hv
  obtain ⟨rfl, hT⟩ := hv
  obtain ⟨hZ, hQ, hE⟩ := id hT
  have hx := B.exec
  have hb := B.bytes
  have hr := B.returns
  have hts := atoms_spec (ws := Cond.code yJ0_checkIndex_df160 cJ0_checkIndex_df160 2 none :: dTJ) B.pre
  have hown : s.vm.findClass RJ0 = some m.cls := findClass_of_methodNamed B.named
  have hlocks := B.notSynchronized
  have hS : va_S A s.heap s.heap [] := va_S.rf
  have hl := lv_entry ([.int i, .int n]) (n := 2) (Nat.le_of_ble_eq_true rfl)
  rw [lg_entry_eq]
  generalize (lg_sl ([.int i, .int n]) ++ List.replicate (2 - (lg_sl ([.int i, .int n])).length) Slot.unset).toArray = ls at hl ⊢
  have hl : lv_has ls 2 [(0, .int i), (1, .int n)] := hl
  have key : ∀ f : Value, (f = .null ∨ ∃ q, f = .ref q) → va_Z "jdk/internal/util/Preconditions" "SIOOBE_FORMATTER" "Ljava/util/function/BiFunction;" f A s s.heap → W p l e (headSpec (Cond.code yJ0_checkIndex_df160 cJ0_checkIndex_df160 2 none :: dTJ) (k2_rm 1 22)).room s m ([Value.int i, Value.int n]).toArray below meth c s.heap [] 0 0 (MQ below (dQp none) ([Value.int i, Value.int n]).toArray s 0 0 (fun _ => False)) (F0 m 0 ls []) := by
    intro f hf hZf
    refine lv_iload_n hx hb dJ0_checkIndex_df160_0 rfl (lv_at hl 0 rfl) ?_
    refine lv_iload_n hx hb dJ0_checkIndex_df160_1 rfl (lv_at hl 1 rfl) ?_
    refine va_gets hx hb hZf hS hown (hts (.fieldLink RJ0 1053 "jdk/internal/util/Preconditions" "SIOOBE_FORMATTER" "Ljava/util/function/BiFunction;") (by decide +kernel)) (fun _ h => h) dJ0_checkIndex_df160_2 ?_
    have cb := callB_of (R := k2_rm 1 22) (own := RJ0) (index := 1059) (y := yJ3_checkIndex_8e157) (rm := k2_rm 0 0) 3 hts (dGJ (k := Cond.code yJ3_checkIndex_8e157 cJ3_checkIndex_8e157 3 (some .int)) (fun w h => List.mem_cons_of_mem _ h) (by decide +kernel)) rfl rfl rfl (hts (.initialized RJ3) (by decide +kernel)) (hts (.methodLink RJ0 1059 yJ3_checkIndex_8e157) (by decide +kernel)) ⟨by decide, by decide, by decide +kernel⟩ ⟨by decide, by decide⟩
    refine dt_after (va_runS (As := [.int i, .int n, f]) (rest := []) ⟨hx, hb, hml, hown, hts⟩ (jt_pre l (A := A) (N := N) (len := len) (byt := byt) (adK := adK) (adV := adV) hf h0 h1) ⟨cb, hts (.static yJ3_checkIndex_8e157) (by decide +kernel)⟩ ⟨dTblind, fun U hU hW => ⟨rfl, by show dTxt A N len byt adK adV U U.heap; rw [hU]; exact hT.moved hW.alike⟩⟩ rfl rfl hl.1 rfl (lv_room (Nat.le_of_ble_eq_true rfl)) dJ0_checkIndex_df160_5 ⟨Nat.le_refl _, Nat.le_refl _⟩) ?_
    refine lv_pop (va := .int i) (rest := []) hx hb dJ0_checkIndex_df160_8 rfl ?_
    exact W.vret hx hb hr (fun t ht hW => ⟨rfl, ht⟩) (fun _ h => by cases h) dJ0_checkIndex_df160_9 hlocks
  rcases hQ with hq | ⟨t, hq⟩
  · exact key _ (Or.inl rfl) hq
  · exact key _ (Or.inr ⟨t, rfl⟩) hq
end JM
section JC
variable (l : Launch) {A : Nat → Prop} {N : Nat} {len : List Nat} {byt : List (List Int32)} {adK adV : Nat → Nat}
theorem jt_latin {z : Nat} (hz : z < N) {i : Int32} {v : Nat} (h0 : ¬ i < 0) (h1 : i < Int32.ofNat (len.getD z 0)) (hin : vp_in i (len.getD z 0)) (hv : (byt.getD z []).getD i.toNatClampNeg 0 = Int32.ofNat v) (hlt : v < 256) : Met l yJ1_charAt_3b067 (Cond.code yJ1_charAt_3b067 cJ1_charAt_3b067 2 (some .char) :: dTJ) (k2_rm 2 43) (va_Pc [.ref (adV z), .int i] (fun U => dTxt A N len byt adK adV U U.heap)) (dQp (some (.int (Int32.ofNat v)))) 0 0 (fun _ => False) := by
  refine Met.ofW (cc := cJ1_charAt_3b067) (maxL := 2) (ret := some .char) (by decide) rfl ?_
  intro p e s m args below meth c s₁ B hml hw
  obtain ⟨rfl, hT⟩ := hw
  obtain ⟨hZ, hQ, hE⟩ := id hT
  have hx := B.exec
  have hb := B.bytes
  have hr := B.returns
  have hts := atoms_spec (ws := Cond.code yJ1_charAt_3b067 cJ1_charAt_3b067 2 (some .char) :: dTJ) B.pre
  have hown : s.vm.findClass RJ1 = some m.cls := findClass_of_methodNamed B.named
  have hlocks := B.notSynchronized
  have hS : va_S A s.heap s.heap [] := va_S.rf
  have hl := lv_entry ([.ref (adV z), .int i]) (n := 2) (Nat.le_of_ble_eq_true rfl)
  rw [lg_entry_eq]
  generalize (lg_sl ([.ref (adV z), .int i]) ++ List.replicate (2 - (lg_sl ([.ref (adV z), .int i])).length) Slot.unset).toArray = ls at hl ⊢
  have hl : lv_has ls 2 [(0, .ref (adV z)), (1, .int i)] := hl
  refine lv_iload_n hx hb dJ1_charAt_3b067_0 rfl (lv_at hl 1 rfl) ?_
  refine lv_aload_n hx hb dJ1_charAt_3b067_1 rfl (lv_at hl 0 rfl) ?_
  refine va_tlen hx hb (hE.1 z hz).2.2.2 hS rfl dJ1_charAt_3b067_2 ?_
  have cb := callB_of (R := k2_rm 2 43) (own := RJ1) (index := 9) (y := yJ0_checkIndex_df160) (rm := k2_rm 1 22) 2 hts (dGJ (k := Cond.code yJ0_checkIndex_df160 cJ0_checkIndex_df160 2 none) (fun w h => List.mem_cons_of_mem _ h) (by decide +kernel)) rfl rfl rfl (hts (.initialized RJ0) (by decide +kernel)) (hts (.methodLink RJ1 9 yJ0_checkIndex_df160) (by decide +kernel)) ⟨by decide, by decide, by decide +kernel⟩ ⟨by decide, by decide⟩
  refine dt_after (va_runS (As := [.int i, .int (Int32.ofNat (len.getD z 0))]) (rest := []) ⟨hx, hb, hml, hown, hts⟩ (jt_check l (A := A) (N := N) (len := len) (byt := byt) (adK := adK) (adV := adV) h0 h1) ⟨cb, hts (.static yJ0_checkIndex_df160) (by decide +kernel)⟩ ⟨dTblind, fun U hU hW => ⟨rfl, by show dTxt A N len byt adK adV U U.heap; rw [hU]; exact hT.moved hW.alike⟩⟩ rfl rfl hl.1 rfl (lv_room (Nat.le_of_ble_eq_true rfl)) dJ1_charAt_3b067_3 ⟨Nat.le_refl _, Nat.le_refl _⟩) ?_
  refine lv_aload_n hx hb dJ1_charAt_3b067_6 rfl (lv_at hl 0 rfl) ?_
  refine lv_iload_n hx hb dJ1_charAt_3b067_7 rfl (lv_at hl 1 rfl) ?_
  refine va_tb (v := .int (Int32.ofNat v)) hx hb (hE.1 z hz).2.2.2 hS hin (by rw [hv]) dJ1_charAt_3b067_8 ?_
  refine lv_sipush (v := 255) hx hb dJ1_charAt_3b067_9 (by decide) ?_
  refine lv_iand hx hb dJ1_charAt_3b067_12 ?_
  have ha : Int32.ofNat v &&& 255 = nI v := by
    rw [show (255 : Int32) = Int32.ofNat 255 from rfl, di_and0, show v &&& 255 = v % 256 from Nat.and_two_pow_sub_one_eq_mod v 8, Nat.mod_eq_of_lt hlt]; rfl
  rw [ha]
  refine lv_i2c (v := nI v) hx hb dJ1_charAt_3b067_13 (by
    rw [pk_char]
    have : (nI v).toBitVec.toNat = v := by
      show (BitVec.ofNat 32 v).toNat = v
      rw [BitVec.toNat_ofNat]; omega
    rw [this, Nat.mod_eq_of_lt (by omega)]) ?_
  exact W.zret hx hb hr (pk_charN (by omega)).1 (fun t ht hW => ⟨rfl, ht⟩) (fun _ h => by cases h) dJ1_charAt_3b067_14 hlocks
theorem jt_charAt {z : Nat} (hz : z < N) {i : Int32} {v : Nat} (h0 : ¬ i < 0) (h1 : i < Int32.ofNat (len.getD z 0)) (hin : vp_in i (len.getD z 0)) (hv : (byt.getD z []).getD i.toNatClampNeg 0 = Int32.ofNat v) (hlt : v < 256) : Met l yJ0_charAt_5068e (Cond.code yJ0_charAt_5068e cJ0_charAt_5068e 2 (some .char) :: dTJ) (k2_rm 3 64) (va_Pc [.ref (adK z), .int i] (fun U => dTxt A N len byt adK adV U U.heap)) (dQp (some (.int (Int32.ofNat v)))) 0 0 (fun _ => False) := by
  refine Met.ofW (cc := cJ0_charAt_5068e) (maxL := 2) (ret := some .char) (by decide) rfl ?_
  intro p e s m args below meth c s₁ B hml hw
  obtain ⟨rfl, hT⟩ := hw
  obtain ⟨hZ, hQ, hE⟩ := id hT
  have hx := B.exec
  have hb := B.bytes
  have hr := B.returns
  have hts := atoms_spec (ws := Cond.code yJ0_charAt_5068e cJ0_charAt_5068e 2 (some .char) :: dTJ) B.pre
  have hown : s.vm.findClass RJ0 = some m.cls := findClass_of_methodNamed B.named
  have hlocks := B.notSynchronized
  have hS : va_S A s.heap s.heap [] := va_S.rf
  have hl := lv_entry ([.ref (adK z), .int i]) (n := 2) (Nat.le_of_ble_eq_true rfl)
  rw [lg_entry_eq]
  generalize (lg_sl ([.ref (adK z), .int i]) ++ List.replicate (2 - (lg_sl ([.ref (adK z), .int i])).length) Slot.unset).toArray = ls at hl ⊢
  have hl : lv_has ls 2 [(0, .ref (adK z)), (1, .int i)] := hl
  refine lv_aload_n hx hb dJ0_charAt_5068e_0 rfl (lv_at hl 0 rfl) ?_
  have cb := callB_of (R := k2_rm 3 64) (own := RJ0) (index := 492) (y := yJ0_isLatin1_aae02) (rm := k2_rm 0 0) 0 hts (dGJ (k := Cond.code yJ0_isLatin1_aae02 cJ0_isLatin1_aae02 1 (some .boolean)) (fun w h => List.mem_cons_of_mem _ h) (by decide +kernel)) rfl rfl rfl (hts (.initialized RJ0) (by decide +kernel)) (hts (.methodLink RJ0 492 yJ0_isLatin1_aae02) (by decide +kernel)) ⟨by decide, by decide, by decide +kernel⟩ ⟨by decide, by decide⟩
  refine dt_after (va_runV (C := RJ0) (b := adK z) (As := []) (rest := []) ⟨hx, hb, hml, hown, hts⟩ (jt_isLatin1 l (A := A) (N := N) (len := len) (byt := byt) (adK := adK) (adV := adV) hz) ⟨cb, hts (.instanceMethod yJ0_isLatin1_aae02) (by decide +kernel), hts (.selects RJ0 yJ0_isLatin1_aae02 yJ0_isLatin1_aae02) (by decide +kernel)⟩ ⟨dTblind, dVS_recv hE hz hS, fun U hU hW => ⟨rfl, by show dTxt A N len byt adK adV U U.heap; rw [hU]; exact hT.moved hW.alike⟩⟩ rfl rfl hl.1 rfl (lv_room (Nat.le_of_ble_eq_true rfl)) dJ0_charAt_5068e_1 ⟨Nat.le_refl _, Nat.le_refl _⟩) ?_
  refine lv_if_eq (tgt := 16) (rest := []) hx hb dJ0_charAt_5068e_4 (by decide) (fun h => absurd h (by decide)) (fun _ => ?_)
  refine lv_aload_n hx hb dJ0_charAt_5068e_7 rfl (lv_at hl 0 rfl) ?_
  refine vk_getf hx hb (hE.1 z hz).2.2.1 hS hown (hts (.fieldLink RJ0 9 "java/lang/String" "value" "[B") (by decide +kernel)) (fun _ h => h) dJ0_charAt_5068e_8 ?_
  refine lv_iload_n hx hb dJ0_charAt_5068e_11 rfl (lv_at hl 1 rfl) ?_
  have cb2 := callB_of (R := k2_rm 3 64) (own := RJ0) (index := 495) (y := yJ1_charAt_3b067) (rm := k2_rm 2 43) 2 hts (dGJ (k := Cond.code yJ1_charAt_3b067 cJ1_charAt_3b067 2 (some .char)) (fun w h => List.mem_cons_of_mem _ h) (by decide +kernel)) rfl rfl rfl (hts (.initialized RJ1) (by decide +kernel)) (hts (.methodLink RJ0 495 yJ1_charAt_3b067) (by decide +kernel)) ⟨by decide, by decide, by decide +kernel⟩ ⟨by decide, by decide⟩
  refine dt_after (va_runS (As := [.ref (adV z), .int i]) (rest := []) ⟨hx, hb, hml, hown, hts⟩ (jt_latin l (A := A) (N := N) (len := len) (byt := byt) (adK := adK) (adV := adV) hz h0 h1 hin hv hlt) ⟨cb2, hts (.static yJ1_charAt_3b067) (by decide +kernel)⟩ ⟨dTblind, fun U hU hW => ⟨rfl, by show dTxt A N len byt adK adV U U.heap; rw [hU]; exact hT.moved hW.alike⟩⟩ rfl rfl hl.1 rfl (lv_room (Nat.le_of_ble_eq_true rfl)) dJ0_charAt_5068e_12 ⟨Nat.le_refl _, Nat.le_refl _⟩) ?_
  exact W.zret hx hb hr (pk_charN (show v < 65536 by omega)).1 (fun t ht hW => ⟨rfl, ht⟩) (fun _ h => by cases h) dJ0_charAt_5068e_15 hlocks
end JC
end
section
/-! ===== quotients, rests, shifts with sign on words ===== -/
def dDiv (a b : Nat) : Nat := cond (Nat.blt (Nat.mod a 4294967296) 2147483648) (cond (Nat.blt (Nat.mod b 4294967296) 2147483648) (Nat.div (Nat.mod a 4294967296) (Nat.mod b 4294967296)) (dNeg (Nat.div (Nat.mod a 4294967296) (dNeg b)))) (cond (Nat.blt (Nat.mod b 4294967296) 2147483648) (dNeg (Nat.div (dNeg a) (Nat.mod b 4294967296))) (Nat.div (dNeg a) (dNeg b)))
def dRem (a b : Nat) : Nat := dSub a (dMul (dDiv a b) b)
def dLNeg (a : Nat) : Nat := Nat.mod (Nat.sub 18446744073709551616 (Nat.mod a 18446744073709551616)) 18446744073709551616
def dLDiv (a b : Nat) : Nat := cond (Nat.blt (Nat.mod a 18446744073709551616) 9223372036854775808) (cond (Nat.blt (Nat.mod b 18446744073709551616) 9223372036854775808) (Nat.div (Nat.mod a 18446744073709551616) (Nat.mod b 18446744073709551616)) (dLNeg (Nat.div (Nat.mod a 18446744073709551616) (dLNeg b)))) (cond (Nat.blt (Nat.mod b 18446744073709551616) 9223372036854775808) (dLNeg (Nat.div (dLNeg a) (Nat.mod b 18446744073709551616))) (Nat.div (dLNeg a) (dLNeg b)))
def dShr (a b : Nat) : Nat := cond (Nat.blt (Nat.mod a 4294967296) 2147483648) (Nat.shiftRight (Nat.mod a 4294967296) (Nat.mod b 32)) (Nat.sub 4294967295 (Nat.shiftRight (Nat.sub 4294967295 (Nat.mod a 4294967296)) (Nat.mod b 32)))
def dZ (b : Nat) : Bool := Nat.beq (Nat.mod b 4294967296) 0
def dLZ (b : Nat) : Bool := Nat.beq (Nat.mod b 18446744073709551616) 0
theorem di_bvneg (a : Nat) : -(BitVec.ofNat 32 a) = BitVec.ofNat 32 (dNeg a) := by
  apply BitVec.eq_of_toNat_eq
  rw [BitVec.toNat_neg, BitVec.toNat_ofNat, BitVec.toNat_ofNat]
  show (4294967296 - a % 4294967296) % 4294967296 = ((4294967296 - a % 4294967296) % 4294967296) % 4294967296
  omega
theorem di_bvlneg (a : Nat) : -(BitVec.ofNat 64 a) = BitVec.ofNat 64 (dLNeg a) := by
  apply BitVec.eq_of_toNat_eq
  rw [BitVec.toNat_neg, BitVec.toNat_ofNat, BitVec.toNat_ofNat]
  show (18446744073709551616 - a % 18446744073709551616) % 18446744073709551616 = ((18446744073709551616 - a % 18446744073709551616) % 18446744073709551616) % 18446744073709551616
  omega
theorem di_msb (a : Nat) : (BitVec.ofNat 32 a).msb = !(Nat.blt (Nat.mod a 4294967296) 2147483648) := by
  rw [BitVec.msb_eq_decide, BitVec.toNat_ofNat]
  show decide (2147483648 ≤ a % 4294967296) = !(Nat.blt (a % 4294967296) 2147483648)
  by_cases h : a % 4294967296 < 2147483648
  · rw [di_blt.mpr h, decide_eq_false (by omega)]; rfl
  · rw [Bool.eq_false_iff.mpr (fun z => h (di_blt.mp z)), decide_eq_true (by omega)]; rfl
theorem di_lmsb (a : Nat) : (BitVec.ofNat 64 a).msb = !(Nat.blt (Nat.mod a 18446744073709551616) 9223372036854775808) := by
  rw [BitVec.msb_eq_decide, BitVec.toNat_ofNat]
  show decide (9223372036854775808 ≤ a % 18446744073709551616) = !(Nat.blt (a % 18446744073709551616) 9223372036854775808)
  by_cases h : a % 18446744073709551616 < 9223372036854775808
  · rw [di_blt.mpr h, decide_eq_false (by omega)]; rfl
  · rw [Bool.eq_false_iff.mpr (fun z => h (di_blt.mp z)), decide_eq_true (by omega)]; rfl
theorem di_udiv (a b : Nat) : (BitVec.ofNat 32 a).udiv (BitVec.ofNat 32 b) = BitVec.ofNat 32 (Nat.div (Nat.mod a 4294967296) (Nat.mod b 4294967296)) := by
  apply BitVec.eq_of_toNat_eq
  rw [BitVec.udiv_eq, BitVec.toNat_udiv, BitVec.toNat_ofNat, BitVec.toNat_ofNat, BitVec.toNat_ofNat]
  exact (Nat.mod_eq_of_lt (Nat.lt_of_le_of_lt (Nat.div_le_self _ _) (Nat.mod_lt _ (by decide)))).symm
theorem di_ludiv (a b : Nat) : (BitVec.ofNat 64 a).udiv (BitVec.ofNat 64 b) = BitVec.ofNat 64 (Nat.div (Nat.mod a 18446744073709551616) (Nat.mod b 18446744073709551616)) := by
  apply BitVec.eq_of_toNat_eq
  rw [BitVec.udiv_eq, BitVec.toNat_udiv, BitVec.toNat_ofNat, BitVec.toNat_ofNat, BitVec.toNat_ofNat]
  exact (Nat.mod_eq_of_lt (Nat.lt_of_le_of_lt (Nat.div_le_self _ _) (Nat.mod_lt _ (by decide)))).symm
theorem di_negm (a : Nat) : Nat.mod (dNeg a) 4294967296 = dNeg a := Nat.mod_mod _ _
theorem di_lnegm (a : Nat) : Nat.mod (dLNeg a) 18446744073709551616 = dLNeg a := Nat.mod_mod _ _
theorem di_div (a b : Nat) : Int32.ofNat a / Int32.ofNat b = Int32.ofNat (dDiv a b) := Int32.toBitVec_inj.mp (by
  rw [Int32.toBitVec_div]
  show (BitVec.ofNat 32 a).sdiv (BitVec.ofNat 32 b) = BitVec.ofNat 32 (dDiv a b)
  rw [BitVec.sdiv_eq, di_msb, di_msb]
  unfold dDiv
  cases Nat.blt (Nat.mod a 4294967296) 2147483648 <;> cases Nat.blt (Nat.mod b 4294967296) 2147483648 <;> simp only [Bool.not_true, Bool.not_false, cond_true, cond_false, di_bvneg, di_udiv, di_negm])
theorem di_ldiv (a b : Nat) : Int64.ofNat a / Int64.ofNat b = Int64.ofNat (dLDiv a b) := Int64.toBitVec_inj.mp (by
  rw [Int64.toBitVec_div]
  show (BitVec.ofNat 64 a).sdiv (BitVec.ofNat 64 b) = BitVec.ofNat 64 (dLDiv a b)
  rw [BitVec.sdiv_eq, di_lmsb, di_lmsb]
  unfold dLDiv
  cases Nat.blt (Nat.mod a 18446744073709551616) 9223372036854775808 <;> cases Nat.blt (Nat.mod b 18446744073709551616) 9223372036854775808 <;> simp only [Bool.not_true, Bool.not_false, cond_true, cond_false, di_bvlneg, di_ludiv, di_lnegm])
theorem di_rem (a b : Nat) : Int32.ofNat a - Int32.ofNat a / Int32.ofNat b * Int32.ofNat b = Int32.ofNat (dRem a b) := by
  rw [di_div, di_mul, di_sub]; rfl
theorem di_z {b : Nat} (h : dZ b = false) : ¬ Int32.ofNat b = 0 := fun z => by
  have h2 : Int32.ofNat b = Int32.ofNat 0 := z
  rw [di_ieq] at h2
  have h3 : Nat.beq (Nat.mod b 4294967296) 0 = true := Nat.beq_eq ▸ h2
  rw [show Nat.beq (Nat.mod b 4294967296) 0 = dZ b from rfl, h] at h3
  cases h3
theorem di_lz {b : Nat} (h : dLZ b = false) : ¬ Int64.ofNat b = 0 := fun z => by
  have h2 : Int64.ofNat b = Int64.ofNat 0 := z
  rw [di_jeq] at h2
  have h3 : Nat.beq (Nat.mod b 18446744073709551616) 0 = true := Nat.beq_eq ▸ h2
  rw [show Nat.beq (Nat.mod b 18446744073709551616) 0 = dLZ b from rfl, h] at h3
  cases h3
theorem di_shr (a b : Nat) : Int32.ofNat a >>> (Int32.ofNat b &&& 31) = Int32.ofNat (dShr a b) := by
  rw [di_and31]
  apply Int32.toBitVec_inj.mp
  rw [Int32.toBitVec_shiftRight]
  have e : ((Int32.ofNat (b % 32)).toBitVec.smod 32).toNat = b % 32 := di_sm32 _ (Nat.mod_lt _ (by decide))
  show (Int32.ofNat a).toBitVec.sshiftRight ((Int32.ofNat (b % 32)).toBitVec.smod 32).toNat = _
  rw [e]
  show (BitVec.ofNat 32 a).sshiftRight (b % 32) = BitVec.ofNat 32 (dShr a b)
  apply BitVec.eq_of_toNat_eq
  have hm := di_msb a
  unfold dShr
  cases h : Nat.blt (Nat.mod a 4294967296) 2147483648
  · rw [h] at hm
    rw [BitVec.toNat_sshiftRight_of_msb_true hm, BitVec.toNat_ofNat, BitVec.toNat_ofNat]
    show 2 ^ 32 - 1 - ((2 ^ 32 - 1 - a % 2 ^ 32) >>> (b % 32)) = (4294967295 - ((4294967295 - a % 4294967296) >>> (b % 32))) % 2 ^ 32
    refine (Nat.mod_eq_of_lt ?_).symm
    exact Nat.lt_of_le_of_lt (Nat.sub_le _ _) (by decide)
  · rw [h] at hm
    rw [BitVec.toNat_sshiftRight_of_msb_false hm, BitVec.toNat_ofNat, BitVec.toNat_ofNat]
    show (a % 2 ^ 32) >>> (b % 32) = ((a % 4294967296) >>> (b % 32)) % 2 ^ 32
    refine (Nat.mod_eq_of_lt ?_).symm
    rw [Nat.shiftRight_eq_div_pow]
    exact Nat.lt_of_le_of_lt (Nat.div_le_self _ _) (Nat.mod_lt _ (by decide))
def dMax (a b : Nat) : Nat := cond (dLt a b) b a
def dMin (a b : Nat) : Nat := cond (dLt b a) b a
def dLMax (a b : Nat) : Nat := cond (dLLt b a) a b
def dLMin (a b : Nat) : Nat := cond (dLLt b a) b a
theorem di_max (a b : Nat) : (if Int32.ofNat a < Int32.ofNat b then Int32.ofNat b else Int32.ofNat a) = Int32.ofNat (dMax a b) := by
  unfold dMax
  cases h : dLt a b
  · rw [if_neg (fun z => by rw [(di_lt a b).mpr z] at h; cases h)]; rfl
  · rw [if_pos ((di_lt a b).mp h)]; rfl
theorem di_min (a b : Nat) : (if Int32.ofNat b < Int32.ofNat a then Int32.ofNat b else Int32.ofNat a) = Int32.ofNat (dMin a b) := by
  unfold dMin
  cases h : dLt b a
  · rw [if_neg (fun z => by rw [(di_lt b a).mpr z] at h; cases h)]; rfl
  · rw [if_pos ((di_lt b a).mp h)]; rfl
theorem di_lmax (a b : Nat) : (if Int64.ofNat b < Int64.ofNat a then Int64.ofNat a else Int64.ofNat b) = Int64.ofNat (dLMax a b) := by
  unfold dLMax
  cases h : dLLt b a
  · rw [if_neg (fun z => by rw [(di_llt b a).mpr z] at h; cases h)]; rfl
  · rw [if_pos ((di_llt b a).mp h)]; rfl
theorem di_lmin (a b : Nat) : (if Int64.ofNat b < Int64.ofNat a then Int64.ofNat b else Int64.ofNat a) = Int64.ofNat (dLMin a b) := by
  unfold dLMin
  cases h : dLLt b a
  · rw [if_neg (fun z => by rw [(di_llt b a).mpr z] at h; cases h)]; rfl
  · rw [if_pos ((di_llt b a).mp h)]; rfl
end
section
/-! ===== the words that texts need (no indexOf here) ===== -/
def dTI : List Cond := dTJ ++ [.static Lib.Math.max.name, .initialized "java/lang/Math", .code Lib.Math.max.name Lib.Math.max.code 2 (some .int), .static Lib.Math.min.name, .code Lib.Math.min.name Lib.Math.min.code 2 (some .int)]
theorem dTI_good : dTI.all goodWord = true := by decide +kernel
theorem dTI_j {w : Cond} (h : w ∈ dTJ) : w ∈ dTI := List.mem_append.mpr (Or.inl h)
end
section
/-! ===== Integer.bitCount ===== -/
def dBitY : MethodName := ⟨"java/lang/Integer", "bitCount", "(I)I"⟩
def dBitC : ByteArray := ⟨#[0x1a, 0x1a, 0x04, 0x7c, 0x13, 0x01, 0x09, 0x7e, 0x64, 0x3b, 0x1a, 0x13, 0x01, 0x0a, 0x7e, 0x1a, 0x05, 0x7c, 0x13, 0x01, 0x0a, 0x7e, 0x60, 0x3b, 0x1a, 0x1a, 0x07, 0x7c, 0x60, 0x13, 0x01, 0x0b, 0x7e, 0x3b, 0x1a, 0x1a, 0x10, 0x08, 0x7c, 0x60, 0x3b, 0x1a, 0x1a, 0x10, 0x10, 0x7c, 0x60, 0x3b, 0x1a, 0x10, 0x3f, 0x7e, 0xac]⟩
def dUshr (a b : Nat) : Nat := Nat.shiftRight (Nat.mod a 4294967296) (Nat.mod b 32)
theorem di_ushr (a b : Nat) : ((Int32.ofNat a).toUInt32 >>> ((Int32.ofNat b).toUInt32 &&& Int32.toUInt32 31)).toInt32 = Int32.ofNat (dUshr a b) := by
  have e : (Int32.ofNat a).toUInt32 >>> ((Int32.ofNat b).toUInt32 &&& Int32.toUInt32 31) = UInt32.ofNat (dUshr a b) := UInt32.toNat_inj.mp (by
    have hb : ((Int32.ofNat b).toUInt32 &&& Int32.toUInt32 31).toNat = b % 32 := by
      rw [UInt32.toNat_and, show (Int32.toUInt32 31).toNat = 2 ^ 5 - 1 from rfl, Nat.and_two_pow_sub_one_eq_mod]
      show (BitVec.ofNat 32 b).toNat % 2 ^ 5 = _
      rw [BitVec.toNat_ofNat]
      omega
    rw [UInt32.toNat_shiftRight, hb]
    have hd : dUshr a b = (a % 4294967296) >>> (b % 32) := rfl
    have h1 : (Int32.ofNat a).toUInt32.toNat = a % 4294967296 := by
      show (BitVec.ofNat 32 a).toNat = _
      rw [BitVec.toNat_ofNat]
    rw [h1, hd, UInt32.toNat_ofNat', Nat.shiftRight_eq_div_pow, Nat.shiftRight_eq_div_pow, show b % 32 % 32 = b % 32 by omega]
    have h2 : a % 4294967296 / 2 ^ (b % 32) ≤ a % 4294967296 := Nat.div_le_self _ _
    omega)
  rw [e]
  rfl
def dBit1 (a : Nat) : Nat := dSub a (dAnd (dUshr a 1) 1431655765)
def dBit2 (a : Nat) : Nat := dAdd (dAnd a 858993459) (dAnd (dUshr a 2) 858993459)
def dBit3 (a : Nat) : Nat := dAnd (dAdd a (dUshr a 4)) 252645135
def dBit4 (a : Nat) : Nat := dAdd a (dUshr a 8)
def dBit5 (a : Nat) : Nat := dAdd a (dUshr a 16)
def dBit (a : Nat) : Nat := dAnd (dBit5 (dBit4 (dBit3 (dBit2 (dBit1 a))))) 63
def dWB0 : List Cond := [.static dBitY, .initialized "java/lang/Integer", .code dBitY dBitC 1 (some .int), .constant "java/lang/Integer" 265 (Int32.ofNat 1431655765), .constant "java/lang/Integer" 266 (Int32.ofNat 858993459), .constant "java/lang/Integer" 267 (Int32.ofNat 252645135)]
theorem jt_bit (l : Launch) (a : Nat) : Met l dBitY (Cond.code dBitY dBitC 1 (some .int) :: dWB0) (k2_rm 0 0) (va_Pc [.int (Int32.ofNat a)] (fun _ => True)) (dQp (some (.int (Int32.ofNat (dBit a))))) 0 0 (fun _ => False) := by
  refine Met.ofW (cc := dBitC) (maxL := 1) (ret := some .int) (by decide) rfl ?_
  intro p e s m args below meth c s₁ B hml hv
  obtain ⟨rfl, hT⟩ := hv
  have hx := B.exec
  have hb := B.bytes
  have hr := B.returns
  have hts := atoms_spec (ws := Cond.code dBitY dBitC 1 (some .int) :: dWB0) B.pre
  have hown : s.vm.findClass "java/lang/Integer" = some m.cls := findClass_of_methodNamed B.named
  have hlocks := B.notSynchronized
  have hl := lv_entry ([.int (Int32.ofNat a)]) (n := 1) (Nat.le_of_ble_eq_true rfl)
  rw [lg_entry_eq]
  generalize (lg_sl ([.int (Int32.ofNat a)]) ++ List.replicate (1 - (lg_sl ([.int (Int32.ofNat a)])).length) Slot.unset).toArray = ls at hl ⊢
  have hl : lv_has ls 1 [(0, .int (Int32.ofNat a))] := hl
  refine lv_iload_n (k := 0) hx hb (by decide +kernel) rfl (lv_at hl 0 rfl) ?_
  refine lv_iload_n (k := 0) hx hb (by decide +kernel) rfl (lv_at hl 0 rfl) ?_
  refine lv_iconst (n := 1) (v := Int32.ofNat 1) hx hb (by decide +kernel) (by decide) ?_
  refine lv_iushr hx hb (by decide +kernel) (di_ushr _ _) ?_
  refine lv_ldcw (index := 265) (v := Int32.ofNat 1431655765) hx hb hown (hts _ (List.mem_cons_of_mem _ (by simp [dWB0]))) (by decide +kernel) ?_
  refine lv_iand hx hb (by decide +kernel) ?_
  rw [di_and]
  refine lv_isub hx hb (by decide +kernel) ?_
  rw [di_sub]
  refine lv_istore_n (k := 0) hx hb (by decide +kernel) rfl hl (by decide) rfl fun ls1 hl1 => ?_
  have hl1 : lv_has ls1 1 [(0, .int (Int32.ofNat (dBit1 a)))] := hl1
  clear hl
  refine lv_iload_n (k := 0) hx hb (by decide +kernel) rfl (lv_at hl1 0 rfl) ?_
  refine lv_ldcw (index := 266) (v := Int32.ofNat 858993459) hx hb hown (hts _ (List.mem_cons_of_mem _ (by simp [dWB0]))) (by decide +kernel) ?_
  refine lv_iand hx hb (by decide +kernel) ?_
  rw [di_and]
  refine lv_iload_n (k := 0) hx hb (by decide +kernel) rfl (lv_at hl1 0 rfl) ?_
  refine lv_iconst (n := 2) (v := Int32.ofNat 2) hx hb (by decide +kernel) (by decide) ?_
  refine lv_iushr hx hb (by decide +kernel) (di_ushr _ _) ?_
  refine lv_ldcw (index := 266) (v := Int32.ofNat 858993459) hx hb hown (hts _ (List.mem_cons_of_mem _ (by simp [dWB0]))) (by decide +kernel) ?_
  refine lv_iand hx hb (by decide +kernel) ?_
  rw [di_and]
  refine lv_iadd hx hb (by decide +kernel) ?_
  rw [di_add]
  refine lv_istore_n (k := 0) hx hb (by decide +kernel) rfl hl1 (by decide) rfl fun ls2 hl2 => ?_
  have hl2 : lv_has ls2 1 [(0, .int (Int32.ofNat (dBit2 (dBit1 a))))] := hl2
  clear hl1
  refine lv_iload_n (k := 0) hx hb (by decide +kernel) rfl (lv_at hl2 0 rfl) ?_
  refine lv_iload_n (k := 0) hx hb (by decide +kernel) rfl (lv_at hl2 0 rfl) ?_
  refine lv_iconst (n := 4) (v := Int32.ofNat 4) hx hb (by decide +kernel) (by decide) ?_
  refine lv_iushr hx hb (by decide +kernel) (di_ushr _ _) ?_
  refine lv_iadd hx hb (by decide +kernel) ?_
  rw [di_add]
  refine lv_ldcw (index := 267) (v := Int32.ofNat 252645135) hx hb hown (hts _ (List.mem_cons_of_mem _ (by simp [dWB0]))) (by decide +kernel) ?_
  refine lv_iand hx hb (by decide +kernel) ?_
  rw [di_and]
  refine lv_istore_n (k := 0) hx hb (by decide +kernel) rfl hl2 (by decide) rfl fun ls3 hl3 => ?_
  have hl3 : lv_has ls3 1 [(0, .int (Int32.ofNat (dBit3 (dBit2 (dBit1 a)))))] := hl3
  clear hl2
  refine lv_iload_n (k := 0) hx hb (by decide +kernel) rfl (lv_at hl3 0 rfl) ?_
  refine lv_iload_n (k := 0) hx hb (by decide +kernel) rfl (lv_at hl3 0 rfl) ?_
  refine lv_bipush (n := 8) (v := Int32.ofNat 8) hx hb (by decide +kernel) (by decide) ?_
  refine lv_iushr hx hb (by decide +kernel) (di_ushr _ _) ?_
  refine lv_iadd hx hb (by decide +kernel) ?_
  rw [di_add]
  refine lv_istore_n (k := 0) hx hb (by decide +kernel) rfl hl3 (by decide) rfl fun ls4 hl4 => ?_
  have hl4 : lv_has ls4 1 [(0, .int (Int32.ofNat (dBit4 (dBit3 (dBit2 (dBit1 a))))))] := hl4
  clear hl3
  refine lv_iload_n (k := 0) hx hb (by decide +kernel) rfl (lv_at hl4 0 rfl) ?_
  refine lv_iload_n (k := 0) hx hb (by decide +kernel) rfl (lv_at hl4 0 rfl) ?_
  refine lv_bipush (n := 16) (v := Int32.ofNat 16) hx hb (by decide +kernel) (by decide) ?_
  refine lv_iushr hx hb (by decide +kernel) (di_ushr _ _) ?_
  refine lv_iadd hx hb (by decide +kernel) ?_
  rw [di_add]
  refine lv_istore_n (k := 0) hx hb (by decide +kernel) rfl hl4 (by decide) rfl fun ls5 hl5 => ?_
  have hl5 : lv_has ls5 1 [(0, .int (Int32.ofNat (dBit5 (dBit4 (dBit3 (dBit2 (dBit1 a)))))))] := hl5
  clear hl4
  refine lv_iload_n (k := 0) hx hb (by decide +kernel) rfl (lv_at hl5 0 rfl) ?_
  refine lv_bipush (n := 63) (v := Int32.ofNat 63) hx hb (by decide +kernel) (by decide) ?_
  refine lv_iand hx hb (by decide +kernel) ?_
  rw [di_and]
  exact W.iret hx hb hr (fun t ht hW => ⟨rfl, ht⟩) (fun _ h => by cases h) (by decide +kernel) hlocks
end
section
/-! ===== a program of words: what each instruction does, and the run of a method ===== -/
def dT0 : Nat := 281474976710656
def dT1 : Nat := 562949953421312
abbrev dI : Type := Instr × Nat × Nat
abbrev dL : Type := List (Nat × dV)
abbrev dR : Type := Option (Option dV × dH)
/-- on to a block: how deep, the method, the place, locals, stack, heap -/
abbrev dRec : Type := Nat → Nat → Nat → dL → List dV → dH → dR
abbrev dCode : Type := dRec → Nat → dL → List dV → dH → dR
/-- the method, what is resolved of the instruction, what comes behind -/
abbrev dOp : Type := Nat → Nat → dCode → dCode
noncomputable def disl (v : dV) : Bool := Sum.rec (motive := fun _ => Bool) (fun _ => false) (fun w => Sum.rec (motive := fun _ => Bool) (fun _ => true) (fun _ => false) w) v
noncomputable def dlk (L : dL) (i : Nat) : Option dV := List.rec (motive := fun _ => Option dV) none (fun a _ ih => cond (Nat.beq a.1 i) (some a.2) ih) L
noncomputable def fltc {α β : Type} (p : α → Bool) (L : List α) : (List α → β) → β := List.rec (motive := fun _ => (List α → β) → β) (fun k => k []) (fun a _ ih k => cond (p a) (ih (fun u => k (a :: u))) (ih k)) L
noncomputable def dp1 (i : Nat) (q : Nat × dV) : Bool := cond (Nat.beq q.1 i) false (cond (Nat.beq (Nat.succ q.1) i) (cond (disl q.2) false true) true)
noncomputable def dp2 (i : Nat) (q : Nat × dV) : Bool := cond (Nat.beq q.1 i) false (cond (Nat.beq q.1 (Nat.succ i)) false (cond (Nat.beq (Nat.succ q.1) i) (cond (disl q.2) false true) true))
def dcd (c : ClassFile.Cond) (a b : Nat) : Bool := match c with
  | .eq => dEq a b
  | .ne => cond (dEq a b) false true
  | .lt => dLt a b
  | .ge => cond (dLt a b) false true
  | .gt => dLt b a
  | .le => cond (dLt b a) false true
/-- a field's word, as its type has it -/
def fv (tc w : Nat) : dV := match tc with
  | 0 => .inl w
  | 1 => .inr (.inl w)
  | 2 => .inl w
  | _ => .inr (.inr w)
-- what a value must be to go on
noncomputable def vI (v : dV) (k : Nat → dR) : dR := Sum.rec (motive := fun _ => dR) k (fun _ => none) v
noncomputable def vL (v : dV) (k : Nat → dR) : dR := Sum.rec (motive := fun _ => dR) (fun _ => none) (fun w => Sum.rec (motive := fun _ => dR) k (fun _ => none) w) v
noncomputable def vR (v : dV) (k : Nat → dR) : dR := Sum.rec (motive := fun _ => dR) (fun _ => none) (fun w => Sum.rec (motive := fun _ => dR) (fun _ => none) k w) v
noncomputable def vA (v : dV) (k : Nat → dR) : dR := vR v fun n => Nat.rec (motive := fun _ => dR) none (fun m _ => k m) n
noncomputable def pop (st : List dV) (k : dV → List dV → dR) : dR := List.rec (motive := fun _ => dR) none (fun v r _ => k v r) st
noncomputable def emp (st : List dV) (x : dR) : dR := List.rec (motive := fun _ => dR) x (fun _ _ _ => none) st
noncomputable def opt {α : Type} (o : Option α) (k : α → dR) : dR := Option.rec (motive := fun _ => dR) none k o
noncomputable def cel (o : Option dC) (k : Nat → Nat → Nat → dR) : dR := Option.rec (motive := fun _ => dR) none (fun c => Prod.rec (motive := fun _ => dR) (fun kd p => Prod.rec (motive := fun _ => dR) (fun n ct => k kd n ct) p) c) o
noncomputable def trip (h : dH) (k : Nat → Nat → List (List dC) → dR) : dR := Prod.rec (motive := fun _ => dR) (fun n p => Prod.rec (motive := fun _ => dR) (fun s cs => k n s cs) p) h
noncomputable def d1 (st : List dV) (k : Nat → List dV → dR) : dR := pop st fun v r => vI v fun a => k a r
noncomputable def d2 (st : List dV) (k : Nat → Nat → List dV → dR) : dR := pop st fun v r => vI v fun b => pop r fun w r => vI w fun a => k a b r
noncomputable def d1l (st : List dV) (k : Nat → List dV → dR) : dR := pop st fun v r => vL v fun a => k a r
noncomputable def d2l (st : List dV) (k : Nat → Nat → List dV → dR) : dR := pop st fun v r => vL v fun b => pop r fun w r => vL w fun a => k a b r
noncomputable def dil (st : List dV) (k : Nat → Nat → List dV → dR) : dR := pop st fun v r => vI v fun b => pop r fun w r => vL w fun a => k a b r
noncomputable def d1a (st : List dV) (k : Nat → List dV → dR) : dR := pop st fun v r => vA v fun a => k a r
noncomputable def dia (st : List dV) (k : Nat → Nat → List dV → dR) : dR := pop st fun v r => vI v fun i => pop r fun w r => vA w fun a => fo (Nat.mod i 4294967296) fun j => k a j r
noncomputable def diia (st : List dV) (k : Nat → Nat → Nat → List dV → dR) : dR := pop st fun v r => vI v fun x => dia r fun a i r => k a i x r
noncomputable def dlia (st : List dV) (k : Nat → Nat → Nat → List dV → dR) : dR := pop st fun v r => vL v fun x => dia r fun a i r => k a i x r
/-- the word of a value, if the type may hold it -/
noncomputable def fe (tc : Nat) (v : dV) (k : Nat → dR) : dR := match tc with
  | 0 => vI v fun n => fo (Nat.mod n 4294967296) k
  | 1 => vL v fun n => fo (Nat.mod n 18446744073709551616) k
  | 2 => vI v fun n => cond (Nat.ble (Nat.mod n 4294967296) 1) (fo (Nat.mod n 4294967296) k) none
  | 3 => vR v fun n => cond (Nat.blt n 18446744073709551616) (k n) none
  | _ => none
/-- arguments, from the last on the stack -/
noncomputable def dpop (n : Nat) : List dV → List dV → (List dV → List dV → dR) → dR := Nat.rec (motive := fun _ => List dV → List dV → (List dV → List dV → dR) → dR) (fun st acc k => k acc st) (fun _ ih st acc k => pop st fun v r => ih r (v :: acc) k) n
/-- locals of arguments -/
noncomputable def dargs {β : Type} (as : List dV) : Nat → (dL → Nat → β) → β := List.rec (motive := fun _ => Nat → (dL → Nat → β) → β) (fun i k => k [] i) (fun v _ ih i k => cond (disl v) (ih (Nat.succ (Nat.succ i)) (fun u n => k ((i, v) :: u) n)) (ih (Nat.succ i) (fun u n => k ((i, v) :: u) n))) as
noncomputable def dcat (st : List dV) : Nat := List.rec (motive := fun _ => Nat) 0 (fun v _ ih => Nat.add (cond (disl v) 2 1) ih) st
/-- a place in a row -/
def din (i n : Nat) (x : dR) : dR := cond (Nat.blt i n) (cond (Nat.blt i 2147483648) x none) none
/-- a call: x has the method, its locals, how many arguments, its class -/
noncomputable def dcall (rec : dRec) (d : Nat) (x : Nat) (as : List dV) (h : dH) (k : Option dV → dH → dR) : dR := Nat.rec (motive := fun _ => dR) none (fun d' _ => dargs as 0 fun L n => cond (Nat.ble n (Nat.mod (Nat.div x 256) 64)) (opt (rec d' (Nat.div x 16384) 0 L [] h) fun z => Prod.rec (motive := fun _ => dR) (fun r h' => k r h') z) none) d
/-- thrown: no method answers a reference, so such an answer says that it threw -/
noncomputable def dthr (v : Option dV) : Bool := Option.rec (motive := fun _ => Bool) false (fun w => Sum.rec (motive := fun _ => Bool) (fun _ => false) (fun z => Sum.rec (motive := fun _ => Bool) (fun _ => false) (fun _ => true) z) w) v
noncomputable def dgo (nxt : dCode) (rec : dRec) (d : Nat) (L : dL) (r : List dV) (v : Option dV) (h : dH) : dR := Option.rec (motive := fun _ => dR) (nxt rec d L r h) (fun w => nxt rec d L (w :: r) h) v
/-- the text of a constant: how long, and its bytes -/
noncomputable def dstr (a : Nat) (k : Nat → Nat → dR) : dR := cond (Nat.beq (dT0 + a % 1048576) a) (opt (nth dStr (a % 1048576)) fun z => Prod.rec (motive := fun _ => dR) (fun n ct => k n ct) z) none
-- the instructions
noncomputable def o_int (y x : Nat) (nxt : dCode) : dCode := fun rec d L st h => nxt rec d L (.inl x :: st) h
noncomputable def o_long (y x : Nat) (nxt : dCode) : dCode := fun rec d L st h => nxt rec d L (.inr (.inl x) :: st) h
noncomputable def o_ldc (y x : Nat) (nxt : dCode) : dCode := fun rec d L st h => cond (Nat.blt x 4294967296) (nxt rec d L (.inl x :: st) h) none
/-- a text -/
noncomputable def o_ldt (y x : Nat) (nxt : dCode) : dCode := fun rec d L st h => cond (Nat.blt x 4294967296) none (nxt rec d L (.inr (.inr (Nat.succ (dT0 + x % 1048576))) :: st) h)
noncomputable def o_iload (y x : Nat) (nxt : dCode) : dCode := fun rec d L st h => opt (dlk L x) fun v => vI v fun n => nxt rec d L (.inl n :: st) h
noncomputable def o_lload (y x : Nat) (nxt : dCode) : dCode := fun rec d L st h => opt (dlk L x) fun v => vL v fun n => nxt rec d L (.inr (.inl n) :: st) h
noncomputable def o_aload (y x : Nat) (nxt : dCode) : dCode := fun rec d L st h => opt (dlk L x) fun v => vA v fun n => nxt rec d L (.inr (.inr (Nat.succ n)) :: st) h
noncomputable def o_istore (y x : Nat) (nxt : dCode) : dCode := fun rec d L st h => d1 st fun v r => fltc (dp1 x) L fun u => nxt rec d ((x, .inl v) :: u) r h
noncomputable def o_lstore (y x : Nat) (nxt : dCode) : dCode := fun rec d L st h => d1l st fun v r => fltc (dp2 x) L fun u => nxt rec d ((x, .inr (.inl v)) :: u) r h
noncomputable def o_astore (y x : Nat) (nxt : dCode) : dCode := fun rec d L st h => d1a st fun v r => fltc (dp1 x) L fun u => nxt rec d ((x, .inr (.inr (Nat.succ v))) :: u) r h
noncomputable def o_iinc (y x : Nat) (nxt : dCode) : dCode := fun rec d L st h => opt (dlk L (Nat.div x 4294967296)) fun v => vI v fun n => fo (dAdd n (Nat.mod x 4294967296)) fun w => fltc (dp1 (Nat.div x 4294967296)) L fun u => nxt rec d ((Nat.div x 4294967296, .inl w) :: u) st h
noncomputable def o_bin (f : Nat → Nat → Nat) (y x : Nat) (nxt : dCode) : dCode := fun rec d L st h => d2 st fun a b r => fo (f a b) fun v => nxt rec d L (.inl v :: r) h
noncomputable def o_div (f : Nat → Nat → Nat) (y x : Nat) (nxt : dCode) : dCode := fun rec d L st h => d2 st fun a b r => cond (dZ b) none (fo (f a b) fun v => nxt rec d L (.inl v :: r) h)
noncomputable def o_binl (f : Nat → Nat → Nat) (y x : Nat) (nxt : dCode) : dCode := fun rec d L st h => d2l st fun a b r => fo (f a b) fun v => nxt rec d L (.inr (.inl v) :: r) h
noncomputable def o_ldv (y x : Nat) (nxt : dCode) : dCode := fun rec d L st h => d2l st fun a b r => cond (dLZ b) none (fo (dLDiv a b) fun v => nxt rec d L (.inr (.inl v) :: r) h)
noncomputable def o_shl (f : Nat → Nat → Nat) (y x : Nat) (nxt : dCode) : dCode := fun rec d L st h => dil st fun a b r => fo (f a b) fun v => nxt rec d L (.inr (.inl v) :: r) h
noncomputable def o_lcmp (y x : Nat) (nxt : dCode) : dCode := fun rec d L st h => d2l st fun a b r => fo (dCmp a b) fun v => nxt rec d L (.inl v :: r) h
noncomputable def o_un (f : Nat → Nat) (y x : Nat) (nxt : dCode) : dCode := fun rec d L st h => d1 st fun a r => fo (f a) fun v => nxt rec d L (.inl v :: r) h
noncomputable def o_i2l (y x : Nat) (nxt : dCode) : dCode := fun rec d L st h => d1 st fun a r => fo (dI2l a) fun v => nxt rec d L (.inr (.inl v) :: r) h
noncomputable def o_l2i (y x : Nat) (nxt : dCode) : dCode := fun rec d L st h => d1l st fun a r => fo (dL2i a) fun v => nxt rec d L (.inl v :: r) h
noncomputable def o_if (c : ClassFile.Cond) (y x : Nat) (nxt : dCode) : dCode := fun rec d L st h => d1 st fun a r => cond (dcd c a 0) (rec d y x L r h) (nxt rec d L r h)
noncomputable def o_icmp (c : ClassFile.Cond) (y x : Nat) (nxt : dCode) : dCode := fun rec d L st h => d2 st fun a b r => cond (dcd c a b) (rec d y x L r h) (nxt rec d L r h)
noncomputable def o_goto (y x : Nat) (nxt : dCode) : dCode := fun rec d L st h => rec d y x L st h
noncomputable def o_tsw (y x : Nat) (nxt : dCode) : dCode := fun rec d L st h => d1 st fun a r => fo (dSub a (Nat.mod x 4294967296)) fun j => fo (Nat.shiftRight x 32) fun w => cond (Nat.blt j (wq 16 w 0)) (fo (wq 16 w (Nat.succ (Nat.succ j))) fun t => rec d y t L r h) (fo (wq 16 w 1) fun t => rec d y t L r h)
/-- the target of a value among pairs, from the j-th on -/
noncomputable def dlsw (w a t n : Nat) : Nat → Nat := Nat.rec (motive := fun _ => Nat → Nat) (fun _ => t) (fun _ ih j => cond (Nat.beq (wq 48 w (Nat.mul 2 j)) a) (wq 48 w (Nat.succ (Nat.mul 2 j))) (ih (Nat.succ j))) n
noncomputable def o_lsw (y x : Nat) (nxt : dCode) : dCode := fun rec d L st h => d1 st fun a r => fo (Nat.mod a 4294967296) fun a => fo (Nat.shiftRight x 32) fun w => fo (dlsw w a (wq 16 x 1) (wq 16 x 0) 0) fun t => rec d y t L r h
noncomputable def o_dup (y x : Nat) (nxt : dCode) : dCode := fun rec d L st h => pop st fun v r => cond (disl v) none (nxt rec d L (v :: v :: r) h)
noncomputable def o_pop (y x : Nat) (nxt : dCode) : dCode := fun rec d L st h => pop st fun v r => cond (disl v) none (nxt rec d L r h)
noncomputable def o_dup2 (y x : Nat) (nxt : dCode) : dCode := fun rec d L st h => pop st fun v r => cond (disl v) (nxt rec d L (v :: v :: r) h) (pop r fun w r2 => cond (disl w) none (nxt rec d L (v :: w :: v :: w :: r2) h))
noncomputable def o_getfield (y x : Nat) (nxt : dCode) : dCode := fun rec d L st h => d1a st fun a r => cel (hat h a) fun kd n ct => cond (Nat.beq kd (Nat.add (Nat.div x 1024) 4)) (fo (wd 64 ct (Nat.mod (Nat.div x 4) 256)) fun w => nxt rec d L (fv (Nat.mod x 4) w :: r) h) none
noncomputable def o_putfield (y x : Nat) (nxt : dCode) : dCode := fun rec d L st h => pop st fun v st1 => d1a st1 fun a r => cel (hat h a) fun kd n ct => cond (Nat.beq kd (Nat.add (Nat.div x 1024) 4)) (fe (Nat.mod x 4) v fun w => fo (wst 64 ct (Nat.mod (Nat.div x 4) 256) w) fun c' => hset h a (kd, n, c') (fun h' => nxt rec d L r h') none) none
noncomputable def o_new (y x : Nat) (nxt : dCode) : dCode := fun rec d L st h => trip h fun n s cs => cond (Nat.blt n 1073741824) (fo (Nat.add (Nat.div x 256) 4) fun kd => hpush (n, s, cs) (kd, Nat.mod x 256, 0) (Nat.mod x 256) (fun h' => nxt rec d L (.inr (.inr (Nat.succ n)) :: st) h') none) none
noncomputable def o_newarray (y x : Nat) (nxt : dCode) : dCode := fun rec d L st h => d1 st fun a r => trip h fun n s cs => cond (Nat.blt n 1073741824) (fo (Nat.mod a 4294967296) fun k => cond (Nat.ble k 67108864) (hpush (n, s, cs) (x, k, 0) k (fun h' => nxt rec d L (.inr (.inr (Nat.succ n)) :: r) h') none) none) none
noncomputable def o_alen (y x : Nat) (nxt : dCode) : dCode := fun rec d L st h => d1a st fun a r => cel (hat h a) fun kd n _ => cond (Nat.blt kd 4) (nxt rec d L (.inl n :: r) h) none
noncomputable def o_iaload (y x : Nat) (nxt : dCode) : dCode := fun rec d L st h => dia st fun a i r => cel (hat h a) fun kd n ct => cond (Nat.beq kd 0) (din i n (fo (wd 32 ct i) fun w => nxt rec d L (.inl w :: r) h)) none
noncomputable def o_laload (y x : Nat) (nxt : dCode) : dCode := fun rec d L st h => dia st fun a i r => cel (hat h a) fun kd n ct => cond (Nat.beq kd 1) (din i n (fo (wd 64 ct i) fun w => nxt rec d L (.inr (.inl w) :: r) h)) none
noncomputable def o_baload (y x : Nat) (nxt : dCode) : dCode := fun rec d L st h => dia st fun a i r => cel (hat h a) fun kd n ct => cond (Nat.beq kd 2) (din i n (fo (dI2b (wd 8 ct i)) fun w => nxt rec d L (.inl w :: r) h)) (cond (Nat.beq kd 3) (din i n (fo (wd 8 ct i) fun w => nxt rec d L (.inl w :: r) h)) none)
noncomputable def o_iastore (y x : Nat) (nxt : dCode) : dCode := fun rec d L st h => diia st fun a i v r => cel (hat h a) fun kd n ct => cond (Nat.beq kd 0) (din i n (fo (wst 32 ct i (Nat.mod v 4294967296)) fun c' => hset h a (0, n, c') (fun h' => nxt rec d L r h') none)) none
noncomputable def o_lastore (y x : Nat) (nxt : dCode) : dCode := fun rec d L st h => dlia st fun a i v r => cel (hat h a) fun kd n ct => cond (Nat.beq kd 1) (din i n (fo (wst 64 ct i (Nat.mod v 18446744073709551616)) fun c' => hset h a (1, n, c') (fun h' => nxt rec d L r h') none)) none
noncomputable def o_bastore (y x : Nat) (nxt : dCode) : dCode := fun rec d L st h => diia st fun a i v r => cel (hat h a) fun kd n ct => cond (Nat.beq kd 2) (din i n (fo (wst 8 ct i (Nat.mod v 256)) fun c' => hset h a (2, n, c') (fun h' => nxt rec d L r h') none)) (cond (Nat.beq kd 3) (din i n (fo (wst 8 ct i (Nat.mod v 2)) fun c' => hset h a (3, n, c') (fun h' => nxt rec d L r h') none)) none)
noncomputable def o_static (y x : Nat) (nxt : dCode) : dCode := fun rec d L st h => dpop (Nat.mod (Nat.div x 16) 16) st [] fun as r => cond (Nat.ble (dcat r) 8) (dcall rec d x as h fun v h' => cond (dthr v) none (dgo nxt rec d L r v h')) none
noncomputable def o_virtual (y x : Nat) (nxt : dCode) : dCode := fun rec d L st h => dpop (Nat.mod (Nat.div x 16) 16) st [] fun as r1 => d1a r1 fun a r => cel (hat h a) fun kd _ _ => cond (Nat.beq kd (Nat.add (Nat.mod x 16) 4)) (cond (Nat.ble (dcat r) 8) (dcall rec d x (.inr (.inr (Nat.succ a)) :: as) h fun v h' => cond (dthr v) (some (v, h')) (dgo nxt rec d L r v h')) none) none
/-- a call where a handler stands: x has the place behind the handler's store, and where it stores -/
noncomputable def o_vtry (y x : Nat) (nxt : dCode) : dCode := fun rec d L st h => dpop (Nat.mod (Nat.div x 16) 16) st [] fun as r1 => d1a r1 fun a r => cel (hat h a) fun kd _ _ => cond (Nat.beq kd (Nat.add (Nat.mod x 16) 4)) (cond (Nat.ble (dcat r) 8) (dcall rec d (Nat.mod x 1099511627776) (.inr (.inr (Nat.succ a)) :: as) h fun v h' => cond (dthr v) (fltc (dp1 (Nat.mod (Nat.div x 2199023255552) 64)) L fun u => rec d y (Nat.div x 140737488355328) u [] h') (dgo nxt rec d L r v h')) none) none
/-- a throw of an exception that is kept -/
noncomputable def o_athrow (y x : Nat) (nxt : dCode) : dCode := fun rec d L st h => d1a st fun a r => cel (hat h a) fun kd _ _ => cond (Nat.beq kd 18) (some (some (.inr (.inr 1)), h)) none
/-- an exception with a text: new, dup, ldc, <init>, and on behind these -/
noncomputable def o_xnew (y x : Nat) (nxt : dCode) : dCode := fun rec d L st h => trip h fun n s cs => cond (Nat.blt n 1073741824) (cond (Nat.ble 10 d) (cond (Nat.ble (dcat st) 8) (hpush (n, s, cs) (18, 6, 0) 6 (fun h' => rec d y (Nat.mod x 1099511627776) L (.inr (.inr (Nat.succ n)) :: st) h') none) none) none) none
noncomputable def o_special (y x : Nat) (nxt : dCode) : dCode := fun rec d L st h => dpop (Nat.mod (Nat.div x 16) 16) st [] fun as r1 => d1a r1 fun a r => cond (Nat.ble (dcat r) 8) (dcall rec d x (.inr (.inr (Nat.succ a)) :: as) h fun v h' => cond (dthr v) none (dgo nxt rec d L r v h')) none
noncomputable def o_objinit (y x : Nat) (nxt : dCode) : dCode := fun rec d L st h => Nat.rec (motive := fun _ => dR) none (fun _ _ => d1a st fun _ r => cond (Nat.ble (dcat r) 8) (nxt rec d L r h) none) d
noncomputable def o_return (y x : Nat) (nxt : dCode) : dCode := fun rec d L st h => emp st (some (none, h))
noncomputable def o_ireturn (y x : Nat) (nxt : dCode) : dCode := fun rec d L st h => d1 st fun v r => emp r (cond (Nat.beq x 1) (some (some (.inl v), h)) (cond (Nat.ble (Nat.mod v 4294967296) 1) (some (some (.inl v), h)) none))
noncomputable def o_lreturn (y x : Nat) (nxt : dCode) : dCode := fun rec d L st h => d1l st fun v r => emp r (some (some (.inr (.inl v)), h))
noncomputable def o_strlen (y x : Nat) (nxt : dCode) : dCode := fun rec d L st h => d1a st fun a r => dstr a fun n _ => cond (Nat.ble 4 d) (cond (Nat.ble (dcat r) 8) (nxt rec d L (.inl n :: r) h) none) none
noncomputable def o_charAt (y x : Nat) (nxt : dCode) : dCode := fun rec d L st h => dia st fun a i r => dstr a fun n ct => cond (Nat.blt i n) (cond (Nat.ble 4 d) (cond (Nat.ble (dcat r) 8) (fo (wd 8 ct i) fun w => nxt rec d L (.inl w :: r) h) none) none) none
/-- the place of the first byte t, from i on, n places -/
noncomputable def dix9 (ct t n : Nat) : Nat → Nat := Nat.rec (motive := fun _ => Nat → Nat) (fun _ => 4294967295) (fun _ ih i => cond (Nat.beq (wd 8 ct i) t) i (ih (Nat.succ i))) n
noncomputable def o_indexOf (y x : Nat) (nxt : dCode) : dCode := fun rec d L st h => dia st fun a i r => dstr a fun n ct => cond (Nat.ble 5 d) (cond (Nat.ble (dcat r) 8) (fo (cond (Nat.blt i 256) (dix9 ct (dI2b i) n 0) 4294967295) fun w => nxt rec d L (.inl w :: r) h) none) none
noncomputable def o_mm (f : Nat → Nat → Nat) (y x : Nat) (nxt : dCode) : dCode := fun rec d L st h => d2 st fun a b r => cond (Nat.ble 1 d) (cond (Nat.ble (dcat r) 8) (fo (f a b) fun v => nxt rec d L (.inl v :: r) h) none) none
noncomputable def o_mml (f : Nat → Nat → Nat) (y x : Nat) (nxt : dCode) : dCode := fun rec d L st h => d2l st fun a b r => cond (Nat.ble 1 d) (cond (Nat.ble (dcat r) 8) (fo (f a b) fun v => nxt rec d L (.inr (.inl v) :: r) h) none) none
noncomputable def o_acopy (y x : Nat) (nxt : dCode) : dCode := fun rec d L st h => pop st fun v r0 => vI v fun xn => dia r0 fun a2 xd r1 => dia r1 fun a1 xs r => cel (hat h a1) fun kd1 n1 ct1 => cel (hat h a2) fun kd2 n2 ct2 => cond (Nat.beq kd1 2 && (Nat.beq kd2 2 && (Nat.blt (Nat.mod xn 4294967296) 2147483648 && (Nat.blt xs 2147483648 && (Nat.blt xd 2147483648 && (Nat.ble (Nat.add xs (Nat.mod xn 4294967296)) n1 && (Nat.ble (Nat.add xd (Nat.mod xn 4294967296)) n2 && (Nat.ble 1 d && Nat.ble (dcat r) 8)))))))) (fo (dcp ct1 ct2 xs xd (Nat.mod xn 4294967296)) fun c' => hset h a2 (2, n2, c') (fun h' => nxt rec d L r h') none) none
noncomputable def o_bitc (y x : Nat) (nxt : dCode) : dCode := fun rec d L st h => pop st fun v r => vI v fun n => cond (Nat.ble 1 d && Nat.ble (dcat r) 8) (fo (dBit n) fun w => nxt rec d L (.inl w :: r) h) none
noncomputable def dopM (x : Nat) : Option dOp := cond (Nat.beq x 1099511627777) (some (o_mm dMax)) (cond (Nat.beq x 1099511627778) (some (o_mm dMin)) (cond (Nat.beq x 1099511627779) (some (o_mml dLMax)) (cond (Nat.beq x 1099511627780) (some (o_mml dLMin)) (cond (Nat.beq x 1099511627782) (some o_acopy) (cond (Nat.beq x 1099511627781) (some o_bitc) none)))))
/-- what an instruction does; none: no instruction of this program of words -/
noncomputable def dop (ins : Instr) (x : Nat) : Option dOp := match ins with
  | .iconst _ => some o_int
  | .bipush _ => some o_int
  | .sipush _ => some o_int
  | .lconst _ => some o_long
  | .ldc _ => cond (Nat.blt x 4294967296) (some o_ldc) (some o_ldt)
  | .ldc_w _ => cond (Nat.blt x 4294967296) (some o_ldc) (some o_ldt)
  | .ldc2_w _ => some o_long
  | .iload_n _ => some o_iload
  | .iload _ => some o_iload
  | .lload_n _ => some o_lload
  | .lload _ => some o_lload
  | .aload_n _ => some o_aload
  | .aload _ => some o_aload
  | .istore_n _ => some o_istore
  | .istore _ => some o_istore
  | .lstore_n _ => some o_lstore
  | .lstore _ => some o_lstore
  | .astore_n _ => some o_astore
  | .astore _ => some o_astore
  | .iinc _ _ => some o_iinc
  | .iadd => some (o_bin dAdd)
  | .isub => some (o_bin dSub)
  | .imul => some (o_bin dMul)
  | .iand => some (o_bin dAnd)
  | .ior => some (o_bin dOr)
  | .ixor => some (o_bin dXor)
  | .ishl => some (o_bin dShl)
  | .ishr => some (o_bin dShr)
  | .idiv => some (o_div dDiv)
  | .irem => some (o_div dRem)
  | .ldiv => some o_ldv
  | .lookupswitch _ _ => some o_lsw
  | .ineg => some (o_un dNeg)
  | .i2b => some (o_un dI2b)
  | .i2l => some o_i2l
  | .l2i => some o_l2i
  | .ladd => some (o_binl dLAdd)
  | .lsub => some (o_binl dLSub)
  | .lmul => some (o_binl dLMul)
  | .land => some (o_binl dLAnd)
  | .lor => some (o_binl dLOr)
  | .lxor => some (o_binl dLXor)
  | .lcmp => some o_lcmp
  | .lshl => some (o_shl dLShl)
  | .lushr => some (o_shl dLUshr)
  | .ifCond c _ => some (o_if c)
  | .if_icmp c _ => some (o_icmp c)
  | .goto _ => some o_goto
  | .tableswitch _ _ _ _ => some o_tsw
  | .dup => some o_dup
  | .pop => some o_pop
  | .dup2 => some o_dup2
  | .getfield _ => some o_getfield
  | .putfield _ => some o_putfield
  | .new _ => cond (Nat.beq x 0) none (cond (Nat.ble 1099511627776 x) (some o_xnew) (some o_new))
  | .athrow => some o_athrow
  | .newarray _ => some o_newarray
  | .arraylength => some o_alen
  | .iaload => some o_iaload
  | .laload => some o_laload
  | .baload => some o_baload
  | .iastore => some o_iastore
  | .lastore => some o_lastore
  | .bastore => some o_bastore
  | .invokestatic _ => cond (Nat.ble 1099511627776 x) (dopM x) (some o_static)
  | .invokevirtual _ => cond (Nat.ble 2199023255552 x) (some o_vtry) (cond (Nat.ble 1099511627776 x) (cond (Nat.beq x 1099511627777) (some o_strlen) (cond (Nat.beq x 1099511627778) (some o_charAt) (cond (Nat.beq x 1099511627779) (some o_indexOf) none))) (some o_virtual))
  | .invokespecial _ => cond (Nat.ble 1099511627776 x) (cond (Nat.beq x 1099511627776) (some o_objinit) none) (some o_special)
  | .return_ => some o_return
  | .ireturn => some o_ireturn
  | .lreturn => some o_lreturn
  | _ => none
/-- a block: what it does, and on to the block behind it -/
noncomputable def djmp (y pc : Nat) : dCode := fun rec d L st h => rec d y pc L st h
noncomputable def dnone : dCode := fun _ _ _ _ _ => none
noncomputable def dcomp (y : Nat) (is : List dI) : Nat → dCode := List.rec (motive := fun _ => Nat → dCode) (fun pc => djmp y pc) (fun i _ ih pc => match dop i.1 i.2.2 with
  | none => dnone
  | some o => o y i.2.2 (ih (pc + i.2.1))) is
noncomputable def drun (P : Nat → Nat → Option dCode) (f : Nat) : dRec := Nat.rec (motive := fun _ => dRec) (fun _ _ _ _ _ _ => none) (fun _ ih d y pc L st h => opt (P y pc) fun c => c ih d L st h) f
end
section
/-! ===== sums that stand for numbers: a number and some unknowns, each between two bounds ===== -/
abbrev sN : Type := Nat × List Nat
abbrev sV : Type := sN ⊕ sN ⊕ Nat
abbrev sL : Type := List (Nat × sV)
/-- what the unknowns of a list come to -/
def ssum (ρ : Nat → Nat) : List Nat → Nat
  | [] => 0
  | v :: t => ρ v + ssum ρ t
def sden (ρ : Nat → Nat) (a : sN) : Nat := a.1 + ssum ρ a.2
def svd (ρ : Nat → Nat) : sV → dV
  | .inl a => .inl (sden ρ a)
  | .inr (.inl a) => .inr (.inl (sden ρ a))
  | .inr (.inr k) => .inr (.inr k)
def slD (ρ : Nat → Nat) (L : sL) : dL := L.map fun e => (e.1, svd ρ e.2)
/-- the unknowns keep to their bounds -/
def sok (ρ : Nat → Nat) (B : List (Nat × Nat)) : Prop := ∀ (v lo hi : Nat), B[v]? = some (lo, hi) → lo ≤ ρ v ∧ ρ v ≤ hi
section S
variable {β : Type}
/-- the least and the greatest that a sum can be -/
noncomputable def shi (B : List (Nat × Nat)) (z : β) (vs : List Nat) : Nat → Nat → (Nat → Nat → β) → β := List.rec (motive := fun _ => Nat → Nat → (Nat → Nat → β) → β) (fun lo hi k => k lo hi) (fun v _ ih lo hi k => Option.rec (motive := fun _ => β) z (fun q => fo (Nat.add lo q.1) fun lo => fo (Nat.add hi q.2) fun hi => ih lo hi k) (nth B v)) vs
theorem shi_spec {ρ : Nat → Nat} {B : List (Nat × Nat)} (hB : sok ρ B) (z : β) (vs : List Nat) (lo hi c : Nat) (k : Nat → Nat → β) (h1 : lo ≤ c) (h2 : c ≤ hi) : shi B z vs lo hi k = z ∨ ∃ lo' hi', shi B z vs lo hi k = k lo' hi' ∧ lo' ≤ c + ssum ρ vs ∧ c + ssum ρ vs ≤ hi' := by
  induction vs generalizing lo hi c with
  | nil => exact Or.inr ⟨lo, hi, rfl, h1, h2⟩
  | cons v t ih =>
    cases e : nth B v with
    | none =>
      left
      show Option.rec (motive := fun _ => β) z _ (nth B v) = z
      rw [e]
    | some q =>
      have e2 : shi B z (v :: t) lo hi k = shi B z t (Nat.add lo q.1) (Nat.add hi q.2) k := by
        show Option.rec (motive := fun _ => β) z _ (nth B v) = _
        rw [e]
        show fo _ _ = _
        rw [fo_eq, fo_eq]; rfl
      rw [nth_eq] at e
      obtain ⟨q1, q2⟩ := q
      obtain ⟨h3, h4⟩ := hB v q1 q2 e
      rw [e2]
      have h5 : c + ssum ρ (v :: t) = (c + ρ v) + ssum ρ t := by simp only [ssum]; omega
      rw [h5]
      exact ih (lo + q1) (hi + q2) (c + ρ v) (by omega) (by omega)
/-- take one unknown out of a list -/
noncomputable def srm (v : Nat) (no : β) (ws : List Nat) : (List Nat → β) → β := List.rec (motive := fun _ => (List Nat → β) → β) (fun _ => no) (fun w t ih y => cond (Nat.beq w v) (y t) (ih fun u => y (w :: u))) ws
theorem srm_spec (ρ : Nat → Nat) (v : Nat) (no : β) (ws : List Nat) (y : List Nat → β) : srm v no ws y = no ∨ ∃ u, srm v no ws y = y u ∧ ssum ρ ws = ρ v + ssum ρ u := by
  induction ws generalizing y with
  | nil => exact Or.inl rfl
  | cons w t ih =>
    have e : srm v no (w :: t) y = cond (Nat.beq w v) (y t) (srm v no t fun u => y (w :: u)) := rfl
    cases hb : Nat.beq w v with
    | true =>
      rw [e, hb]
      have := Nat.eq_of_beq_eq_true hb
      subst this
      exact Or.inr ⟨t, rfl, rfl⟩
    | false =>
      rw [e, hb]
      rcases ih (fun u => y (w :: u)) with h | ⟨u, h1, h2⟩
      · exact Or.inl h
      · exact Or.inr ⟨w :: u, h1, by simp only [ssum]; omega⟩
/-- what two lists have in common goes out of both -/
noncomputable def scn (vs : List Nat) : List Nat → List Nat → (List Nat → List Nat → β) → β := List.rec (motive := fun _ => List Nat → List Nat → (List Nat → List Nat → β) → β) (fun ws acc k => k acc ws) (fun v _ ih ws acc k => srm v (ih ws (v :: acc) k) ws fun u => ih u acc k) vs
theorem scn_spec (ρ : Nat → Nat) (vs ws acc : List Nat) (k : List Nat → List Nat → β) : ∃ xs ys, scn vs ws acc k = k xs ys ∧ ssum ρ vs + ssum ρ acc + ssum ρ ys = ssum ρ ws + ssum ρ xs := by
  induction vs generalizing ws acc with
  | nil => exact ⟨acc, ws, rfl, by simp only [ssum]; omega⟩
  | cons v t ih =>
    have e : scn (v :: t) ws acc k = srm v (scn t ws (v :: acc) k) ws (fun u => scn t u acc k) := rfl
    rcases srm_spec ρ v (scn t ws (v :: acc) k) ws (fun u => scn t u acc k) with h | ⟨u, h1, h2⟩
    · obtain ⟨xs, ys, g1, g2⟩ := ih ws (v :: acc)
      exact ⟨xs, ys, by rw [e, h, g1], by simp only [ssum] at *; omega⟩
    · obtain ⟨xs, ys, g1, g2⟩ := ih u acc
      exact ⟨xs, ys, by rw [e, h1, g1], by simp only [ssum] at *; omega⟩
noncomputable def snil (vs : List Nat) (y n : β) : β := List.rec (motive := fun _ => β) y (fun _ _ _ => n) vs
theorem snil_spec (vs : List Nat) (y n : β) : (vs = [] ∧ snil vs y n = y) ∨ (vs ≠ [] ∧ snil vs y n = n) := by
  cases vs with
  | nil => exact Or.inl ⟨rfl, rfl⟩
  | cons a t => exact Or.inr ⟨by simp, rfl⟩
/-- less, the same, more -/
noncomputable def scmp (B : List (Nat × Nat)) (a b : sN) (lt eq gt z : β) : β := scn a.2 b.2 [] fun xs ys => snil xs (snil ys (cond (Nat.blt a.1 b.1) lt (cond (Nat.beq a.1 b.1) eq gt)) (shi B z xs a.1 a.1 fun lo1 hi1 => shi B z ys b.1 b.1 fun lo2 hi2 => cond (Nat.blt hi1 lo2) lt (cond (Nat.blt hi2 lo1) gt z))) (shi B z xs a.1 a.1 fun lo1 hi1 => shi B z ys b.1 b.1 fun lo2 hi2 => cond (Nat.blt hi1 lo2) lt (cond (Nat.blt hi2 lo1) gt z))
theorem scmp_spec {ρ : Nat → Nat} {B : List (Nat × Nat)} (hB : sok ρ B) (a b : sN) (lt eq gt z : β) : scmp B a b lt eq gt z = z ∨ (scmp B a b lt eq gt z = lt ∧ sden ρ a < sden ρ b) ∨ (scmp B a b lt eq gt z = eq ∧ sden ρ a = sden ρ b) ∨ (scmp B a b lt eq gt z = gt ∧ sden ρ b < sden ρ a) := by
  obtain ⟨xs, ys, h1, h2⟩ := scn_spec ρ a.2 b.2 [] (fun xs ys => snil xs (snil ys (cond (Nat.blt a.1 b.1) lt (cond (Nat.beq a.1 b.1) eq gt)) (shi B z xs a.1 a.1 fun lo1 hi1 => shi B z ys b.1 b.1 fun lo2 hi2 => cond (Nat.blt hi1 lo2) lt (cond (Nat.blt hi2 lo1) gt z))) (shi B z xs a.1 a.1 fun lo1 hi1 => shi B z ys b.1 b.1 fun lo2 hi2 => cond (Nat.blt hi1 lo2) lt (cond (Nat.blt hi2 lo1) gt z)))
  unfold scmp sden
  rw [h1]
  simp only [ssum, Nat.add_zero] at h2
  have key : ∀ X : β, X = shi B z xs a.1 a.1 (fun lo1 hi1 => shi B z ys b.1 b.1 fun lo2 hi2 => cond (Nat.blt hi1 lo2) lt (cond (Nat.blt hi2 lo1) gt z)) → X = z ∨ (X = lt ∧ a.1 + ssum ρ a.2 < b.1 + ssum ρ b.2) ∨ (X = eq ∧ a.1 + ssum ρ a.2 = b.1 + ssum ρ b.2) ∨ (X = gt ∧ b.1 + ssum ρ b.2 < a.1 + ssum ρ a.2) := by
    intro X hX
    rcases shi_spec hB z xs a.1 a.1 a.1 (fun lo1 hi1 => shi B z ys b.1 b.1 fun lo2 hi2 => cond (Nat.blt hi1 lo2) lt (cond (Nat.blt hi2 lo1) gt z)) (Nat.le_refl _) (Nat.le_refl _) with g | ⟨lo1, hi1, g, g1, g2⟩
    · exact Or.inl (hX.trans g)
    · rcases shi_spec hB z ys b.1 b.1 b.1 (fun lo2 hi2 => cond (Nat.blt hi1 lo2) lt (cond (Nat.blt hi2 lo1) gt z)) (Nat.le_refl _) (Nat.le_refl _) with q | ⟨lo2, hi2, q, q1, q2⟩
      · exact Or.inl (hX.trans (g.trans q))
      · rw [hX, g, q]
        cases e1 : Nat.blt hi1 lo2 with
        | true => exact Or.inr (Or.inl ⟨rfl, by have := di_blt.mp e1; omega⟩)
        | false => cases e2 : Nat.blt hi2 lo1 with
          | true => exact Or.inr (Or.inr (Or.inr ⟨rfl, by have := di_blt.mp e2; omega⟩))
          | false => exact Or.inl rfl
  rcases snil_spec xs (snil ys (cond (Nat.blt a.1 b.1) lt (cond (Nat.beq a.1 b.1) eq gt)) (shi B z xs a.1 a.1 fun lo1 hi1 => shi B z ys b.1 b.1 fun lo2 hi2 => cond (Nat.blt hi1 lo2) lt (cond (Nat.blt hi2 lo1) gt z))) (shi B z xs a.1 a.1 fun lo1 hi1 => shi B z ys b.1 b.1 fun lo2 hi2 => cond (Nat.blt hi1 lo2) lt (cond (Nat.blt hi2 lo1) gt z)) with ⟨hx, e⟩ | ⟨_, e⟩
  · rcases snil_spec ys (cond (Nat.blt a.1 b.1) lt (cond (Nat.beq a.1 b.1) eq gt)) (shi B z xs a.1 a.1 fun lo1 hi1 => shi B z ys b.1 b.1 fun lo2 hi2 => cond (Nat.blt hi1 lo2) lt (cond (Nat.blt hi2 lo1) gt z)) with ⟨hy, e2⟩ | ⟨_, e2⟩
    · rw [e, e2]
      subst hx hy
      simp only [ssum] at h2
      cases e3 : Nat.blt a.1 b.1 with
      | true => exact Or.inr (Or.inl ⟨rfl, by have := di_blt.mp e3; omega⟩)
      | false => cases e4 : Nat.beq a.1 b.1 with
        | true => exact Or.inr (Or.inr (Or.inl ⟨rfl, by have := Nat.eq_of_beq_eq_true e4; omega⟩))
        | false =>
          have h5 : ¬ a.1 < b.1 := fun w => by rw [di_blt.mpr w] at e3; cases e3
          have h6 : a.1 ≠ b.1 := fun w => by rw [w, Nat.beq_refl] at e4; cases e4
          exact Or.inr (Or.inr (Or.inr ⟨rfl, by omega⟩))
    · exact key _ (e.trans e2)
  · exact key _ e
end S
end
section
/-! ===== what is reckoned with sums ===== -/
def clt : ClassFile.Cond → Bool
  | .lt => true
  | .le => true
  | .ne => true
  | _ => false
def ceq : ClassFile.Cond → Bool
  | .eq => true
  | .ge => true
  | .le => true
  | _ => false
def cgt : ClassFile.Cond → Bool
  | .gt => true
  | .ge => true
  | .ne => true
  | _ => false
theorem dlt_eq {a b : Nat} (ha : a < 2147483648) (hb : b < 2147483648) : dLt a b = decide (a < b) := by
  show Nat.blt ((a + 2147483648) % 4294967296) ((b + 2147483648) % 4294967296) = _
  cases h : Nat.blt ((a + 2147483648) % 4294967296) ((b + 2147483648) % 4294967296) with
  | true => have := di_blt.mp h; exact (decide_eq_true (by omega)).symm
  | false =>
    have h2 : ¬ ((a + 2147483648) % 4294967296 < (b + 2147483648) % 4294967296) := fun w => by rw [di_blt.mpr w] at h; cases h
    exact (decide_eq_false (by omega)).symm
theorem deq_eq {a b : Nat} (ha : a < 4294967296) (hb : b < 4294967296) : dEq a b = decide (a = b) := by
  show Nat.beq (a % 4294967296) (b % 4294967296) = _
  cases h : Nat.beq (a % 4294967296) (b % 4294967296) with
  | true => have := Nat.eq_of_beq_eq_true h; exact (decide_eq_true (by omega)).symm
  | false =>
    have h2 : ¬ (a % 4294967296 = b % 4294967296) := fun w => by rw [w, Nat.beq_refl] at h; cases h
    exact (decide_eq_false (by omega)).symm
theorem dcd_lt {a b : Nat} (c : ClassFile.Cond) (ha : a < 2147483648) (hb : b < 2147483648) (h : a < b) : dcd c a b = clt c := by
  have e1 := dlt_eq ha hb
  have e2 := dlt_eq hb ha
  have e3 := deq_eq (show a < 4294967296 by omega) (show b < 4294967296 by omega)
  rw [decide_eq_true h] at e1
  rw [decide_eq_false (by omega)] at e2 e3
  cases c <;> simp [dcd, clt, e1, e2, e3]
theorem dcd_gt {a b : Nat} (c : ClassFile.Cond) (ha : a < 2147483648) (hb : b < 2147483648) (h : b < a) : dcd c a b = cgt c := by
  have e1 := dlt_eq ha hb
  have e2 := dlt_eq hb ha
  have e3 := deq_eq (show a < 4294967296 by omega) (show b < 4294967296 by omega)
  rw [decide_eq_true h] at e2
  rw [decide_eq_false (by omega)] at e1 e3
  cases c <;> simp [dcd, cgt, e1, e2, e3]
theorem dcd_eq {a b : Nat} (c : ClassFile.Cond) (ha : a < 2147483648) (h : a = b) : dcd c a b = ceq c := by
  subst h
  have e1 := dlt_eq ha ha
  have e3 := deq_eq (show a < 4294967296 by omega) (show a < 4294967296 by omega)
  rw [decide_eq_false (by omega)] at e1
  rw [decide_eq_true rfl] at e3
  cases c <;> simp [dcd, ceq, e1, e3]
theorem dcd_neg {a b : Nat} (c : ClassFile.Cond) (ha : a < 2147483648) (hb : 2147483648 ≤ b) (hb2 : b < 4294967296) : dcd c a b = cgt c := by
  have e1 : dLt a b = false := by
    show Nat.blt ((a + 2147483648) % 4294967296) ((b + 2147483648) % 4294967296) = false
    exact Bool.eq_false_iff.mpr fun z => by have := di_blt.mp z; omega
  have e2 : dLt b a = true := by
    show Nat.blt ((b + 2147483648) % 4294967296) ((a + 2147483648) % 4294967296) = true
    exact di_blt.mpr (by omega)
  have e3 := deq_eq (show a < 4294967296 by omega) hb2
  rw [decide_eq_false (by omega)] at e3
  cases c <;> simp [dcd, cgt, e1, e2, e3]
theorem dcd_neg2 {a b : Nat} (c : ClassFile.Cond) (hb : b < 2147483648) (ha : 2147483648 ≤ a) (ha2 : a < 4294967296) : dcd c a b = clt c := by
  have e1 : dLt b a = false := by
    show Nat.blt ((b + 2147483648) % 4294967296) ((a + 2147483648) % 4294967296) = false
    exact Bool.eq_false_iff.mpr fun z => by have := di_blt.mp z; omega
  have e2 : dLt a b = true := by
    show Nat.blt ((a + 2147483648) % 4294967296) ((b + 2147483648) % 4294967296) = true
    exact di_blt.mpr (by omega)
  have e3 := deq_eq ha2 (show b < 4294967296 by omega)
  rw [decide_eq_false (by omega)] at e3
  cases c <;> simp [dcd, clt, e1, e2, e3]
section S
variable {β : Type}
noncomputable def sbl (t : Bool) (k : Bool → β) : β := cond t (k true) (k false)
theorem sbl_eq (t : Bool) (k : Bool → β) : sbl t k = k t := by cases t <;> rfl
/-- a number, and no unknowns -/
noncomputable def scs (a : sN) (n : β) (y : Nat → β) : β := snil a.2 (y a.1) n
theorem scs_spec (ρ : Nat → Nat) (a : sN) (n : β) (y : Nat → β) : (scs a n y = y a.1 ∧ sden ρ a = a.1 ∧ a = (a.1, [])) ∨ scs a n y = n := by
  obtain ⟨c, vs⟩ := a
  cases vs with
  | nil => exact Or.inl ⟨rfl, rfl, rfl⟩
  | cons v t => exact Or.inr rfl
/-- it is below a bound -/
noncomputable def sbel (B : List (Nat × Nat)) (m : Nat) (a : sN) (z y : β) : β := shi B z a.2 a.1 a.1 fun _ hi => cond (Nat.blt hi m) y z
theorem sbel_spec {ρ : Nat → Nat} {B : List (Nat × Nat)} (hB : sok ρ B) (m : Nat) (a : sN) (z y : β) : sbel B m a z y = z ∨ (sbel B m a z y = y ∧ sden ρ a < m) := by
  rcases shi_spec hB z a.2 a.1 a.1 a.1 (fun _ hi => cond (Nat.blt hi m) y z) (Nat.le_refl _) (Nat.le_refl _) with h | ⟨lo, hi, h, h1, h2⟩
  · exact Or.inl h
  · unfold sbel
    rw [h]
    cases e : Nat.blt hi m with
    | true => exact Or.inr ⟨rfl, Nat.lt_of_le_of_lt h2 (di_blt.mp e)⟩
    | false => exact Or.inl rfl
/-- a comparison of ints -/
noncomputable def scd (B : List (Nat × Nat)) (c : ClassFile.Cond) (a b : sN) (z : β) (k : Bool → β) : β := scs a (sbel B 2147483648 a z (scs b (sbel B 2147483648 b z (scmp B a b (k (clt c)) (k (ceq c)) (k (cgt c)) z)) fun y => cond (Nat.blt y 2147483648) (scmp B a b (k (clt c)) (k (ceq c)) (k (cgt c)) z) (cond (Nat.blt y 4294967296) (k (cgt c)) z))) fun x => scs b (cond (Nat.blt x 2147483648) (sbel B 2147483648 a z (sbel B 2147483648 b z (scmp B a b (k (clt c)) (k (ceq c)) (k (cgt c)) z))) (cond (Nat.blt x 4294967296) (sbel B 2147483648 b z (k (clt c))) z)) fun y => sbl (dcd c x y) k
theorem scd_spec {ρ : Nat → Nat} {B : List (Nat × Nat)} (hB : sok ρ B) (c : ClassFile.Cond) (a b : sN) (z : β) (k : Bool → β) : scd B c a b z k = z ∨ scd B c a b z k = k (dcd c (sden ρ a) (sden ρ b)) := by
  have key : ∀ X, X = scmp B a b (k (clt c)) (k (ceq c)) (k (cgt c)) z → sden ρ a < 2147483648 → sden ρ b < 2147483648 → X = z ∨ X = k (dcd c (sden ρ a) (sden ρ b)) := by
    intro X hX ha hb
    rcases scmp_spec hB a b (k (clt c)) (k (ceq c)) (k (cgt c)) z with h | ⟨h, g⟩ | ⟨h, g⟩ | ⟨h, g⟩
    · exact Or.inl (hX.trans h)
    · exact Or.inr (by rw [hX, h, dcd_lt c ha hb g])
    · exact Or.inr (by rw [hX, h, dcd_eq c ha g])
    · exact Or.inr (by rw [hX, h, dcd_gt c ha hb g])
  unfold scd
  rcases scs_spec ρ a (sbel B 2147483648 a z (scs b (sbel B 2147483648 b z (scmp B a b (k (clt c)) (k (ceq c)) (k (cgt c)) z)) fun y => cond (Nat.blt y 2147483648) (scmp B a b (k (clt c)) (k (ceq c)) (k (cgt c)) z) (cond (Nat.blt y 4294967296) (k (cgt c)) z))) (fun x => scs b (cond (Nat.blt x 2147483648) (sbel B 2147483648 a z (sbel B 2147483648 b z (scmp B a b (k (clt c)) (k (ceq c)) (k (cgt c)) z))) (cond (Nat.blt x 4294967296) (sbel B 2147483648 b z (k (clt c))) z)) fun y => sbl (dcd c x y) k) with ⟨h, h2, -⟩ | h
  · rw [h]
    rcases scs_spec ρ b (cond (Nat.blt a.1 2147483648) (sbel B 2147483648 a z (sbel B 2147483648 b z (scmp B a b (k (clt c)) (k (ceq c)) (k (cgt c)) z))) (cond (Nat.blt a.1 4294967296) (sbel B 2147483648 b z (k (clt c))) z)) (fun y => sbl (dcd c a.1 y) k) with ⟨g, g2, -⟩ | g
    · rw [g, sbl_eq, h2, g2]; exact Or.inr rfl
    · rw [g]
      cases e1 : Nat.blt a.1 2147483648 with
      | false =>
        have h5 : ¬ a.1 < 2147483648 := fun w => by rw [di_blt.mpr w] at e1; cases e1
        cases e2 : Nat.blt a.1 4294967296 with
        | false => exact Or.inl rfl
        | true =>
          rcases sbel_spec hB 2147483648 b z (k (clt c)) with q | ⟨q, qb⟩
          · exact Or.inl q
          · refine Or.inr ?_
            show sbel B 2147483648 b z (k (clt c)) = _
            rw [q, h2, dcd_neg2 c qb (by omega) (di_blt.mp e2)]
      | true =>
      show sbel B 2147483648 a z _ = z ∨ sbel B 2147483648 a z _ = _
      rcases sbel_spec hB 2147483648 a z (sbel B 2147483648 b z (scmp B a b (k (clt c)) (k (ceq c)) (k (cgt c)) z)) with q | ⟨q, qa⟩
      · exact Or.inl q
      · rw [q]
        rcases sbel_spec hB 2147483648 b z (scmp B a b (k (clt c)) (k (ceq c)) (k (cgt c)) z) with w | ⟨w, wb⟩
        · exact Or.inl w
        · exact key _ w qa wb
  · rw [h]
    rcases sbel_spec hB 2147483648 a z (scs b (sbel B 2147483648 b z (scmp B a b (k (clt c)) (k (ceq c)) (k (cgt c)) z)) fun y => cond (Nat.blt y 2147483648) (scmp B a b (k (clt c)) (k (ceq c)) (k (cgt c)) z) (cond (Nat.blt y 4294967296) (k (cgt c)) z)) with q | ⟨q, qa⟩
    · exact Or.inl q
    · rw [q]
      rcases scs_spec ρ b (sbel B 2147483648 b z (scmp B a b (k (clt c)) (k (ceq c)) (k (cgt c)) z)) (fun y => cond (Nat.blt y 2147483648) (scmp B a b (k (clt c)) (k (ceq c)) (k (cgt c)) z) (cond (Nat.blt y 4294967296) (k (cgt c)) z)) with ⟨g, g2, -⟩ | g
      · rw [g]
        cases e1 : Nat.blt b.1 2147483648 with
        | true => exact key _ rfl qa (by rw [g2]; exact di_blt.mp e1)
        | false =>
          have h5 : ¬ b.1 < 2147483648 := fun w => by rw [di_blt.mpr w] at e1; cases e1
          cases e2 : Nat.blt b.1 4294967296 with
          | true => exact Or.inr (by show k _ = _; rw [g2, dcd_neg c qa (by omega) (di_blt.mp e2)])
          | false => exact Or.inl rfl
      · rw [g]
        rcases sbel_spec hB 2147483648 b z (scmp B a b (k (clt c)) (k (ceq c)) (k (cgt c)) z) with w | ⟨w, wb⟩
        · exact Or.inl w
        · exact key _ w qa wb
noncomputable def sapp (vs : List Nat) : List Nat → (List Nat → β) → β := List.rec (motive := fun _ => List Nat → (List Nat → β) → β) (fun ws k => k ws) (fun v _ ih ws k => ih ws fun u => k (v :: u)) vs
theorem sapp_spec (ρ : Nat → Nat) (vs ws : List Nat) (k : List Nat → β) : ∃ u, sapp vs ws k = k u ∧ ssum ρ u = ssum ρ vs + ssum ρ ws := by
  induction vs generalizing k with
  | nil => exact ⟨ws, rfl, by simp only [ssum]; omega⟩
  | cons v t ih =>
    obtain ⟨u, h1, h2⟩ := ih (fun u => k (v :: u))
    exact ⟨v :: u, h1, by simp only [ssum]; omega⟩
/-- a function of two numbers -/
noncomputable def sbin (f : Nat → Nat → Nat) (a b : sN) (z : β) (k : sN → β) : β := scs a z fun x => scs b z fun y => fo (f x y) fun v => k (v, [])
theorem sbin_spec (ρ : Nat → Nat) (f : Nat → Nat → Nat) (a b : sN) (z : β) (k : sN → β) : sbin f a b z k = z ∨ ∃ v, sbin f a b z k = k v ∧ sden ρ v = f (sden ρ a) (sden ρ b) := by
  unfold sbin
  rcases scs_spec ρ a z (fun x => scs b z fun y => fo (f x y) fun v => k (v, [])) with ⟨h, h2, -⟩ | h
  · rw [h]
    rcases scs_spec ρ b z (fun y => fo (f a.1 y) fun v => k (v, [])) with ⟨g, g2, -⟩ | g
    · rw [g, fo_eq]; exact Or.inr ⟨_, rfl, by rw [h2, g2]; rfl⟩
    · exact Or.inl g
  · exact Or.inl h
/-- a sum; M: from where it would begin anew -/
noncomputable def sadd (B : List (Nat × Nat)) (M : Nat) (a b : sN) (z : β) (k : sN → β) : β := sapp a.2 b.2 fun u => fo (Nat.add a.1 b.1) fun c => cond (Nat.blt c M) (sbel B M (c, u) z (k (c, u))) (fo (Nat.sub c M) fun c => sbel B M (c, u) z (k (c, u)))
theorem sadd_spec {ρ : Nat → Nat} {B : List (Nat × Nat)} (hB : sok ρ B) (M : Nat) (hM : 0 < M) (a b : sN) (z : β) (k : sN → β) : sadd B M a b z k = z ∨ ∃ v, sadd B M a b z k = k v ∧ sden ρ v = (sden ρ a + sden ρ b) % M := by
  obtain ⟨u, h1, h2⟩ := sapp_spec ρ a.2 b.2 (fun u => fo (Nat.add a.1 b.1) fun c => cond (Nat.blt c M) (sbel B M (c, u) z (k (c, u))) (fo (Nat.sub c M) fun c => sbel B M (c, u) z (k (c, u))))
  unfold sadd
  rw [h1, fo_eq]
  cases e : Nat.blt (Nat.add a.1 b.1) M with
  | true =>
    show sbel B M (Nat.add a.1 b.1, u) z _ = z ∨ ∃ v, sbel B M (Nat.add a.1 b.1, u) z _ = _ ∧ _
    rcases sbel_spec hB M (Nat.add a.1 b.1, u) z (k (Nat.add a.1 b.1, u)) with q | ⟨q, qa⟩
    · exact Or.inl q
    · refine Or.inr ⟨_, q, ?_⟩
      have e2 : sden ρ (Nat.add a.1 b.1, u) = sden ρ a + sden ρ b := by
        show a.1 + b.1 + ssum ρ u = _
        unfold sden; omega
      rw [e2] at qa ⊢
      exact (Nat.mod_eq_of_lt qa).symm
  | false =>
    have h5 : ¬ a.1 + b.1 < M := fun w => by rw [show Nat.blt (Nat.add a.1 b.1) M = true from di_blt.mpr w] at e; cases e
    show fo (Nat.sub (Nat.add a.1 b.1) M) (fun c => sbel B M (c, u) z (k (c, u))) = z ∨ ∃ v, fo (Nat.sub (Nat.add a.1 b.1) M) (fun c => sbel B M (c, u) z (k (c, u))) = _ ∧ _
    rw [fo_eq]
    rcases sbel_spec hB M (Nat.sub (Nat.add a.1 b.1) M, u) z (k (Nat.sub (Nat.add a.1 b.1) M, u)) with q | ⟨q, qa⟩
    · exact Or.inl q
    · refine Or.inr ⟨_, q, ?_⟩
      have e2 : sden ρ a + sden ρ b = sden ρ (Nat.sub (Nat.add a.1 b.1) M, u) + M := by
        show _ = a.1 + b.1 - M + ssum ρ u + M
        unfold sden; omega
      rw [e2, Nat.add_mod_right]
      exact (Nat.mod_eq_of_lt qa).symm
theorem sub_mod (M a b : Nat) (hM : 0 < M) (h1 : b ≤ a) (h2 : a < M) : (a + (M - b % M)) % M = a - b := by
  rw [Nat.mod_eq_of_lt (show b < M by omega), show a + (M - b) = (a - b) + M by omega, Nat.add_mod_right, Nat.mod_eq_of_lt (by omega)]
theorem sub_same (M c d s : Nat) (hM : 0 < M) : (c + s + (M - (d + s) % M)) % M = (c + (M - d % M)) % M := by
  have key : ∀ x : Nat, (x + (M - x % M)) % M = 0 := by
    intro x
    have h := Nat.div_add_mod x M
    have h3 := Nat.mod_lt x hM
    have h4 : x + (M - x % M) = M * (x / M) + M := by omega
    rw [h4, Nat.add_mod_right, Nat.mul_mod_right]
  -- both sides are c - d
  have l1 : (c + s + (M - (d + s) % M) + (d + (M - d % M))) % M = (c + (M - d % M) + ((d + s) + (M - (d + s) % M))) % M := by
    congr 1; omega
  rw [Nat.add_mod, key d, Nat.add_zero, Nat.mod_mod] at l1
  rw [Nat.add_mod (c + (M - d % M)), key (d + s), Nat.add_zero, Nat.mod_mod] at l1
  exact l1
/-- a difference -/
noncomputable def ssub (B : List (Nat × Nat)) (M : Nat) (f : Nat → Nat → Nat) (a b : sN) (z : β) (k : sN → β) : β := scn a.2 b.2 [] fun xs ys => snil ys (cond (Nat.ble b.1 a.1) (sbel B M a z (fo (Nat.sub a.1 b.1) fun c => k (c, xs))) (snil xs (fo (f a.1 b.1) fun c => k (c, [])) z)) z
theorem ssub_spec {ρ : Nat → Nat} {B : List (Nat × Nat)} (hB : sok ρ B) (M : Nat) (hM : 0 < M) (f : Nat → Nat → Nat) (hf : ∀ x y, f x y = (x + (M - y % M)) % M) (a b : sN) (z : β) (k : sN → β) : ssub B M f a b z k = z ∨ ∃ v, ssub B M f a b z k = k v ∧ sden ρ v = f (sden ρ a) (sden ρ b) := by
  obtain ⟨xs, ys, h1, h2⟩ := scn_spec ρ a.2 b.2 [] (fun xs ys => snil ys (cond (Nat.ble b.1 a.1) (sbel B M a z (fo (Nat.sub a.1 b.1) fun c => k (c, xs))) (snil xs (fo (f a.1 b.1) fun c => k (c, [])) z)) z)
  unfold ssub
  rw [h1]
  simp only [ssum, Nat.add_zero] at h2
  rcases snil_spec ys (cond (Nat.ble b.1 a.1) (sbel B M a z (fo (Nat.sub a.1 b.1) fun c => k (c, xs))) (snil xs (fo (f a.1 b.1) fun c => k (c, [])) z)) z with ⟨hy, e⟩ | ⟨-, e⟩
  · rw [e]
    subst hy
    simp only [ssum, Nat.add_zero] at h2
    cases e1 : Nat.ble b.1 a.1 with
    | true =>
      have h3 := Nat.le_of_ble_eq_true e1
      rcases sbel_spec hB M a z (fo (Nat.sub a.1 b.1) fun c => k (c, xs)) with q | ⟨q, qa⟩
      · exact Or.inl q
      · refine Or.inr ⟨(Nat.sub a.1 b.1, xs), ?_, ?_⟩
        · show sbel B M a z _ = _
          rw [q, fo_eq]
        · rw [hf, sub_mod M _ _ hM (by unfold sden; omega) qa]
          show a.1 - b.1 + ssum ρ xs = _
          unfold sden; omega
    | false =>
      rcases snil_spec xs (fo (f a.1 b.1) fun c => k (c, [])) z with ⟨hx, g⟩ | ⟨-, g⟩
      · subst hx
        simp only [ssum, Nat.add_zero] at h2
        refine Or.inr ⟨(f a.1 b.1, []), ?_, ?_⟩
        · exact g.trans (fo_eq _ _)
        · show f a.1 b.1 + 0 = f (a.1 + ssum ρ a.2) (b.1 + ssum ρ b.2)
          rw [Nat.add_zero, hf, hf, h2]
          exact (sub_same M _ _ _ hM).symm
      · exact Or.inl g
  · exact Or.inl e
/-- what stays under a mask of ones -/
noncomputable def sand (B : List (Nat × Nat)) (M : Nat) (f : Nat → Nat → Nat) (a b : sN) (z : β) (k : sN → β) : β := scs a (scs b z fun m => cond (Nat.beq (Nat.land (Nat.add m 1) m) 0) (cond (Nat.blt m M) (sbel B (Nat.add m 1) a z (k a)) z) z) fun _ => sbin f a b z k
theorem and_mask {x m : Nat} (h : Nat.land (m + 1) m = 0) (hx : x < m + 1) : Nat.land x m = x := by
  obtain ⟨n, hn⟩ : ∃ n, m + 1 = 2 ^ n := by
    have h2 : (m + 1) &&& (m + 1 - 1) = 0 := h
    exact (Nat.ne_zero_and_sub_one_eq_zero_iff_isPowerOfTwo).mp ⟨by omega, h2⟩
  obtain rfl : m = 2 ^ n - 1 := by omega
  show x &&& (2 ^ n - 1) = x
  rw [Nat.and_two_pow_sub_one_eq_mod]
  exact Nat.mod_eq_of_lt (by omega)
end S
end
section
/-! ===== a heap of which some cells are known in part ===== -/
abbrev sX : Type := Nat ⊕ List (sN × sN)
abbrev sC : Type := Nat × Nat × sX
abbrev sH : Type := List (Nat × sC)
def kw (kd : Nat) : Nat := match kd with
  | 0 => 32
  | 2 => 8
  | 3 => 8
  | _ => 64
section S
variable {β : Type}
theorem sand_spec {ρ : Nat → Nat} {B : List (Nat × Nat)} (hB : sok ρ B) (M : Nat) (f : Nat → Nat → Nat) (hf : ∀ x y, f x y = Nat.land (x % M) (y % M)) (a b : sN) (z : β) (k : sN → β) : sand B M f a b z k = z ∨ ∃ v, sand B M f a b z k = k v ∧ sden ρ v = f (sden ρ a) (sden ρ b) := by
  unfold sand
  rcases scs_spec ρ a (scs b z fun m => cond (Nat.beq (Nat.land (Nat.add m 1) m) 0) (cond (Nat.blt m M) (sbel B (Nat.add m 1) a z (k a)) z) z) (fun _ => sbin f a b z k) with ⟨h, -⟩ | h
  · rw [h]; exact sbin_spec ρ f a b z k
  · rw [h]
    rcases scs_spec ρ b z (fun m => cond (Nat.beq (Nat.land (Nat.add m 1) m) 0) (cond (Nat.blt m M) (sbel B (Nat.add m 1) a z (k a)) z) z) with ⟨g, g2, -⟩ | g
    · rw [g]
      cases e1 : Nat.beq (Nat.land (Nat.add b.1 1) b.1) 0 with
      | false => exact Or.inl rfl
      | true => cases e2 : Nat.blt b.1 M with
        | false => exact Or.inl rfl
        | true =>
          rcases sbel_spec hB (Nat.add b.1 1) a z (k a) with q | ⟨q, qa⟩
          · exact Or.inl q
          · refine Or.inr ⟨a, q, ?_⟩
            have h3 := di_blt.mp e2
            have h4 : sden ρ a < b.1 + 1 := qa
            rw [hf, g2, Nat.mod_eq_of_lt h3, Nat.mod_eq_of_lt (show sden ρ a < M by omega)]
            exact (and_mask (Nat.eq_of_beq_eq_true e1) h4).symm
    · exact Or.inl g
/-- a function of one number that leaves those below m -/
noncomputable def sun (B : List (Nat × Nat)) (f : Nat → Nat) (m : Nat) (a : sN) (z : β) (k : sN → β) : β := scs a (sbel B m a z (k a)) fun x => fo (f x) fun v => k (v, [])
theorem sun_spec {ρ : Nat → Nat} {B : List (Nat × Nat)} (hB : sok ρ B) (f : Nat → Nat) (m : Nat) (hf : ∀ x, x < m → f x = x) (a : sN) (z : β) (k : sN → β) : sun B f m a z k = z ∨ ∃ v, sun B f m a z k = k v ∧ sden ρ v = f (sden ρ a) := by
  unfold sun
  rcases scs_spec ρ a (sbel B m a z (k a)) (fun x => fo (f x) fun v => k (v, [])) with ⟨h, h2, -⟩ | h
  · rw [h, fo_eq]; exact Or.inr ⟨_, rfl, by rw [h2]; rfl⟩
  · rw [h]
    rcases sbel_spec hB m a z (k a) with q | ⟨q, qa⟩
    · exact Or.inl q
    · exact Or.inr ⟨a, q, (hf _ qa).symm⟩
/-- bits side by side -/
noncomputable def sor (B : List (Nat × Nat)) (M : Nat) (f : Nat → Nat → Nat) (a b : sN) (z : β) (k : sN → β) : β := scs b (scs a z fun c => fo (Nat.sub c (Nat.land c (Nat.sub c 1))) fun w => cond (Nat.beq (Nat.land w (Nat.sub w 1)) 0) (cond (Nat.beq w 0) z (cond (Nat.beq (Nat.mod c w) 0) (sbel B w b z (fo (Nat.add c b.1) fun s => sbel B M (s, b.2) z (k (s, b.2)))) z)) z) fun _ => sbin f a b z k
theorem or_add {c w b : Nat} (h1 : Nat.land w (Nat.sub w 1) = 0) (h0 : w ≠ 0) (h2 : c % w = 0) (h3 : b < w) : Nat.lor c b = c + b := by
  obtain ⟨n, rfl⟩ : ∃ n, w = 2 ^ n := (Nat.ne_zero_and_sub_one_eq_zero_iff_isPowerOfTwo).mp ⟨h0, h1⟩
  obtain ⟨q, rfl⟩ := Nat.dvd_of_mod_eq_zero h2
  exact (Nat.two_pow_add_eq_or_of_lt h3 q).symm
theorem sor_spec {ρ : Nat → Nat} {B : List (Nat × Nat)} (hB : sok ρ B) (M : Nat) (f : Nat → Nat → Nat) (hf : ∀ x y, f x y = Nat.lor x y % M) (a b : sN) (z : β) (k : sN → β) : sor B M f a b z k = z ∨ ∃ v, sor B M f a b z k = k v ∧ sden ρ v = f (sden ρ a) (sden ρ b) := by
  unfold sor
  rcases scs_spec ρ b (scs a z fun c => fo (Nat.sub c (Nat.land c (Nat.sub c 1))) fun w => cond (Nat.beq (Nat.land w (Nat.sub w 1)) 0) (cond (Nat.beq w 0) z (cond (Nat.beq (Nat.mod c w) 0) (sbel B w b z (fo (Nat.add c b.1) fun s => sbel B M (s, b.2) z (k (s, b.2)))) z)) z) (fun _ => sbin f a b z k) with ⟨h, -⟩ | h
  · rw [h]; exact sbin_spec ρ f a b z k
  · rw [h]
    rcases scs_spec ρ a z (fun c => fo (Nat.sub c (Nat.land c (Nat.sub c 1))) fun w => cond (Nat.beq (Nat.land w (Nat.sub w 1)) 0) (cond (Nat.beq w 0) z (cond (Nat.beq (Nat.mod c w) 0) (sbel B w b z (fo (Nat.add c b.1) fun s => sbel B M (s, b.2) z (k (s, b.2)))) z)) z) with ⟨g, g2, -⟩ | g
    · rw [g, fo_eq]
      generalize hw : Nat.sub a.1 (Nat.land a.1 (Nat.sub a.1 1)) = w
      cases e1 : Nat.beq (Nat.land w (Nat.sub w 1)) 0 with
      | false => exact Or.inl rfl
      | true => cases e2 : Nat.beq w 0 with
        | true => exact Or.inl rfl
        | false => cases e3 : Nat.beq (Nat.mod a.1 w) 0 with
          | false => exact Or.inl rfl
          | true =>
            show sbel B w b z _ = z ∨ ∃ v, sbel B w b z _ = _ ∧ _
            rcases sbel_spec hB w b z (fo (Nat.add a.1 b.1) fun s => sbel B M (s, b.2) z (k (s, b.2))) with q | ⟨q, qa⟩
            · exact Or.inl q
            · rw [q, fo_eq]
              rcases sbel_spec hB M (Nat.add a.1 b.1, b.2) z (k (Nat.add a.1 b.1, b.2)) with p | ⟨p, pa⟩
              · exact Or.inl p
              · refine Or.inr ⟨_, p, ?_⟩
                have e4 : sden ρ (Nat.add a.1 b.1, b.2) = a.1 + sden ρ b := by show a.1 + b.1 + ssum ρ b.2 = _; unfold sden; omega
                rw [hf, g2, or_add (Nat.eq_of_beq_eq_true e1) (fun w0 => by rw [w0] at e2; cases e2) (Nat.eq_of_beq_eq_true e3) qa, e4]
                rw [e4] at pa
                exact (Nat.mod_eq_of_lt pa).symm
    · exact Or.inl g
noncomputable def slk (S : sH) (a : Nat) (z : β) (k : Nat → Nat → sX → β) : β := List.rec (motive := fun _ => β) z (fun e _ ih => cond (Nat.beq e.1 a) (k e.2.1 e.2.2.1 e.2.2.2) ih) S
theorem slk_spec (S : sH) (a : Nat) (z : β) (k : Nat → Nat → sX → β) : slk S a z k = z ∨ ∃ kd n X, (a, kd, n, X) ∈ S ∧ slk S a z k = k kd n X := by
  induction S with
  | nil => exact Or.inl rfl
  | cons e t ih =>
    have e1 : slk (e :: t) a z k = cond (Nat.beq e.1 a) (k e.2.1 e.2.2.1 e.2.2.2) (slk t a z k) := rfl
    cases h : Nat.beq e.1 a with
    | true =>
      obtain ⟨a', kd, n, X⟩ := e
      have := Nat.eq_of_beq_eq_true h
      subst this
      rw [e1, h]
      exact Or.inr ⟨kd, n, X, List.mem_cons_self, rfl⟩
    | false =>
      rw [e1, h]
      rcases ih with q | ⟨kd, n, X, q1, q2⟩
      · exact Or.inl q
      · exact Or.inr ⟨kd, n, X, List.mem_cons_of_mem _ q1, q2⟩
def ssl (a : Nat) (c : sC) : sH → sH
  | [] => []
  | e :: t => if e.1 = a then (a, c) :: t else e :: ssl a c t
noncomputable def sst (a : Nat) (c : sC) (S : sH) : (sH → β) → β := List.rec (motive := fun _ => (sH → β) → β) (fun k => k []) (fun e t ih k => cond (Nat.beq e.1 a) (k ((a, c) :: t)) (ih fun u => k (e :: u))) S
theorem sst_eq (a : Nat) (c : sC) (S : sH) (k : sH → β) : sst a c S k = k (ssl a c S) := by
  induction S generalizing k with
  | nil => rfl
  | cons e t ih =>
    have e1 : sst a c (e :: t) k = cond (Nat.beq e.1 a) (k ((a, c) :: t)) (sst a c t fun u => k (e :: u)) := rfl
    cases h : Nat.beq e.1 a with
    | true => rw [e1, h, ssl, if_pos (Nat.eq_of_beq_eq_true h)]; rfl
    | false =>
      rw [e1, h, ssl, if_neg (fun w => by rw [w, Nat.beq_refl] at h; cases h)]
      exact ih _
theorem ssl_keys (a : Nat) (c : sC) (S : sH) : (ssl a c S).map (·.1) = S.map (·.1) := by
  induction S with
  | nil => rfl
  | cons e t ih =>
    rw [ssl]
    split
    · rename_i h; rw [List.map_cons, List.map_cons, h]
    · rw [List.map_cons, List.map_cons, ih]
theorem ssl_mem {a : Nat} {c : sC} {S : sH} (hn : (S.map (·.1)).Nodup) {e : Nat × sC} (h : e ∈ ssl a c S) : e = (a, c) ∨ (e ∈ S ∧ e.1 ≠ a) := by
  induction S with
  | nil => cases h
  | cons x t ih =>
    rw [List.map_cons, List.nodup_cons] at hn
    rw [ssl] at h
    split at h
    · rename_i hx
      rcases List.mem_cons.mp h with h | h
      · exact Or.inl h
      · exact Or.inr ⟨List.mem_cons_of_mem _ h, fun w => hn.1 (by rw [hx, ← w]; exact List.mem_map.mpr ⟨e, h, rfl⟩)⟩
    · rename_i hx
      rcases List.mem_cons.mp h with h | h
      · rw [h]; exact Or.inr ⟨List.mem_cons_self, hx⟩
      · rcases ih hn.2 h with q | ⟨q1, q2⟩
        · exact Or.inl q
        · exact Or.inr ⟨List.mem_cons_of_mem _ q1, q2⟩
/-- a place whose word is known -/
noncomputable def sgt (B : List (Nat × Nat)) (i : sN) (z : β) (O : List (sN × sN)) (k : sN → β) : β := List.rec (motive := fun _ => β) z (fun e _ ih => scmp B e.1 i ih (k e.2) ih z) O
theorem sgt_spec {ρ : Nat → Nat} {B : List (Nat × Nat)} (hB : sok ρ B) (i : sN) (z : β) (O : List (sN × sN)) (k : sN → β) : sgt B i z O k = z ∨ ∃ e ∈ O, sden ρ e.1 = sden ρ i ∧ sgt B i z O k = k e.2 := by
  induction O with
  | nil => exact Or.inl rfl
  | cons e t ih =>
    have e1 : sgt B i z (e :: t) k = scmp B e.1 i (sgt B i z t k) (k e.2) (sgt B i z t k) z := rfl
    have tl : ∀ X, X = sgt B i z t k → X = z ∨ ∃ e' ∈ e :: t, sden ρ e'.1 = sden ρ i ∧ X = k e'.2 := by
      intro X hX
      rcases ih with q | ⟨e', q1, q2, q3⟩
      · exact Or.inl (hX.trans q)
      · exact Or.inr ⟨e', List.mem_cons_of_mem _ q1, q2, hX.trans q3⟩
    rcases scmp_spec hB e.1 i (sgt B i z t k) (k e.2) (sgt B i z t k) z with h | ⟨h, -⟩ | ⟨h, g⟩ | ⟨h, -⟩
    · exact Or.inl (e1.trans h)
    · exact tl _ (e1.trans h)
    · exact Or.inr ⟨e, List.mem_cons_self, g, e1.trans h⟩
    · exact tl _ (e1.trans h)
/-- what a row of known places says of a content; elsewhere it is as at first -/
def sct (ρ : Nat → Nat) (w ct0 : Nat) (X : sX) (ct : Nat) : Prop := match X with
  | .inl c => ct = c
  | .inr O => (O.map fun e => sden ρ e.1).Nodup ∧ (∀ e ∈ O, wd w ct (sden ρ e.1) = sden ρ e.2) ∧ ∀ j, (∀ e ∈ O, sden ρ e.1 ≠ j) → wd w ct j = wd w ct0 j
noncomputable def srd (B : List (Nat × Nat)) (w : Nat) (X : sX) (i : sN) (z : β) (k : sN → β) : β := Sum.rec (motive := fun _ => β) (fun ct => scs i z fun j => fo (wd w ct j) fun v => k (v, [])) (fun O => sgt B i z O k) X
theorem srd_spec {ρ : Nat → Nat} {B : List (Nat × Nat)} (hB : sok ρ B) (w ct0 ct : Nat) (X : sX) (hX : sct ρ w ct0 X ct) (i : sN) (z : β) (k : sN → β) : srd B w X i z k = z ∨ ∃ v, srd B w X i z k = k v ∧ sden ρ v = wd w ct (sden ρ i) := by
  cases X with
  | inl c =>
    have hc : ct = c := hX
    subst hc
    show scs i z (fun j => fo (wd w ct j) fun v => k (v, [])) = z ∨ ∃ v, scs i z (fun j => fo (wd w ct j) fun v => k (v, [])) = k v ∧ _
    rcases scs_spec ρ i z (fun j => fo (wd w ct j) fun v => k (v, [])) with ⟨h, h2, -⟩ | h
    · rw [h, fo_eq]; exact Or.inr ⟨_, rfl, by rw [h2]; rfl⟩
    · exact Or.inl h
  | inr O =>
    rcases sgt_spec hB i z O k with h | ⟨e, h1, h2, h3⟩
    · exact Or.inl h
    · exact Or.inr ⟨e.2, h3, by rw [← h2]; exact (hX.2.1 e h1).symm⟩
noncomputable def sup (B : List (Nat × Nat)) (i v : sN) (z : β) (O : List (sN × sN)) : (List (sN × sN) → β) → β := List.rec (motive := fun _ => (List (sN × sN) → β) → β) (fun k => k [(i, v)]) (fun e t ih k => scmp B e.1 i (ih fun u => k (e :: u)) (k ((i, v) :: t)) (ih fun u => k (e :: u)) z) O
theorem sup_spec {ρ : Nat → Nat} {B : List (Nat × Nat)} (hB : sok ρ B) (i v : sN) (z : β) (O : List (sN × sN)) (k : List (sN × sN) → β) : sup B i v z O k = z ∨ ∃ O', sup B i v z O k = k O' ∧ ((∃ P e Q, O = P ++ e :: Q ∧ sden ρ e.1 = sden ρ i ∧ O' = P ++ (i, v) :: Q) ∨ (O' = O ++ [(i, v)] ∧ ∀ e ∈ O, sden ρ e.1 ≠ sden ρ i)) := by
  induction O generalizing k with
  | nil => exact Or.inr ⟨[(i, v)], rfl, Or.inr ⟨rfl, fun e he => by cases he⟩⟩
  | cons e t ih =>
    have e1 : sup B i v z (e :: t) k = scmp B e.1 i (sup B i v z t fun u => k (e :: u)) (k ((i, v) :: t)) (sup B i v z t fun u => k (e :: u)) z := rfl
    have tl : ∀ X, X = sup B i v z t (fun u => k (e :: u)) → sden ρ e.1 ≠ sden ρ i → X = z ∨ ∃ O', X = k O' ∧ ((∃ P e' Q, e :: t = P ++ e' :: Q ∧ sden ρ e'.1 = sden ρ i ∧ O' = P ++ (i, v) :: Q) ∨ (O' = (e :: t) ++ [(i, v)] ∧ ∀ e' ∈ e :: t, sden ρ e'.1 ≠ sden ρ i)) := by
      intro X hX hne
      rcases ih (fun u => k (e :: u)) with q | ⟨O', q1, q2⟩
      · exact Or.inl (hX.trans q)
      · refine Or.inr ⟨e :: O', hX.trans q1, ?_⟩
        rcases q2 with ⟨P, e', Q, w1, w2, w3⟩ | ⟨w1, w2⟩
        · exact Or.inl ⟨e :: P, e', Q, by rw [w1]; rfl, w2, by rw [w3]; rfl⟩
        · refine Or.inr ⟨by rw [w1]; rfl, fun e' he' => ?_⟩
          rcases List.mem_cons.mp he' with rfl | he'
          · exact hne
          · exact w2 e' he'
    rcases scmp_spec hB e.1 i (sup B i v z t fun u => k (e :: u)) (k ((i, v) :: t)) (sup B i v z t fun u => k (e :: u)) z with h | ⟨h, g⟩ | ⟨h, g⟩ | ⟨h, g⟩
    · exact Or.inl (e1.trans h)
    · exact tl _ (e1.trans h) (by omega)
    · exact Or.inr ⟨_, e1.trans h, Or.inl ⟨[], e, t, rfl, g, rfl⟩⟩
    · exact tl _ (e1.trans h) (by omega)
noncomputable def swr (B : List (Nat × Nat)) (w : Nat) (X : sX) (i v : sN) (z : β) (k : sX → β) : β := Sum.rec (motive := fun _ => β) (fun ct => scs i z fun j => scs v z fun x => fo (wst w ct j x) fun c => k (.inl c)) (fun O => sup B i v z O fun O' => k (.inr O')) X
theorem swr_spec {ρ : Nat → Nat} {B : List (Nat × Nat)} (hB : sok ρ B) (w ct : Nat) (X : sX) (i v : sN) (hv : sden ρ v < 2 ^ w) (z : β) (k : sX → β) : swr B w X i v z k = z ∨ ∃ X', swr B w X i v z k = k X' ∧ ∀ ct0, sct ρ w ct0 X ct → sct ρ w ct0 X' (wst w ct (sden ρ i) (sden ρ v)) := by
  cases X with
  | inl c =>
    show scs i z (fun j => scs v z fun x => fo (wst w c j x) fun c => k (.inl c)) = z ∨ ∃ X', scs i z (fun j => scs v z fun x => fo (wst w c j x) fun c => k (.inl c)) = k X' ∧ _
    rcases scs_spec ρ i z (fun j => scs v z fun x => fo (wst w c j x) fun c => k (.inl c)) with ⟨h, h2, -⟩ | h
    · rw [h]
      rcases scs_spec ρ v z (fun x => fo (wst w c i.1 x) fun c => k (.inl c)) with ⟨g, g2, -⟩ | g
      · rw [g, fo_eq]; exact Or.inr ⟨_, rfl, fun ct0 hX => by rw [show ct = c from hX, h2, g2]; rfl⟩
      · exact Or.inl g
    · exact Or.inl h
  | inr O =>
    have r : ∀ j, wd w (wst w ct (sden ρ i) (sden ρ v)) j = if j = sden ρ i then sden ρ v else wd w ct j := fun j => wd_wst j hv
    rcases sup_spec hB i v z O (fun O' => k (.inr O')) with h | ⟨O', h1, h2⟩
    · exact Or.inl h
    · refine Or.inr ⟨.inr O', h1, fun ct0 hX => ?_⟩
      obtain ⟨n1, n2, n3⟩ := hX
      rcases h2 with ⟨P, e, Q, rfl, w2, rfl⟩ | ⟨rfl, w2⟩
      · have n1' : ((P ++ (i, v) :: Q).map fun e => sden ρ e.1).Nodup := by
          simp only [List.map_append, List.map_cons] at n1 ⊢
          rw [w2] at n1
          exact n1
        have ne : ∀ e' ∈ P ++ Q, sden ρ e'.1 ≠ sden ρ i := by
          intro e' he' w
          simp only [List.map_append, List.map_cons] at n1'
          rw [List.nodup_append] at n1'
          obtain ⟨-, m2, m3⟩ := n1'
          rcases List.mem_append.mp he' with he' | he'
          · exact m3 _ (List.mem_map.mpr ⟨e', he', rfl⟩) _ List.mem_cons_self w
          · exact (List.nodup_cons.mp m2).1 (by rw [← w]; exact List.mem_map.mpr ⟨e', he', rfl⟩)
        refine ⟨n1', fun e' he' => ?_, fun j hj => ?_⟩
        · rw [r]
          rcases List.mem_append.mp he' with he' | he'
          · rw [if_neg (ne e' (List.mem_append_left _ he'))]
            exact n2 e' (List.mem_append_left _ he')
          · rcases List.mem_cons.mp he' with rfl | he'
            · rw [if_pos rfl]
            · rw [if_neg (ne e' (List.mem_append_right _ he'))]
              exact n2 e' (List.mem_append_right _ (List.mem_cons_of_mem _ he'))
        · have hji : ¬ j = sden ρ i := fun w => hj (i, v) (List.mem_append_right _ List.mem_cons_self) w.symm
          rw [r, if_neg hji]
          refine n3 j fun e' he' => ?_
          rcases List.mem_append.mp he' with he' | he'
          · exact hj e' (List.mem_append_left _ he')
          · rcases List.mem_cons.mp he' with rfl | he'
            · rw [w2]; exact fun w => hji w.symm
            · exact hj e' (List.mem_append_right _ (List.mem_cons_of_mem _ he'))
      · refine ⟨?_, fun e' he' => ?_, fun j hj => ?_⟩
        · rw [List.map_append, List.nodup_append]
          refine ⟨n1, by simp, fun x hx y hy => ?_⟩
          obtain ⟨e', he', rfl⟩ := List.mem_map.mp hx
          rw [List.map_cons, List.map_nil, List.mem_singleton] at hy
          rw [hy]
          exact w2 e' he'
        · rw [r]
          rcases List.mem_append.mp he' with he' | he'
          · rw [if_neg (w2 e' he')]; exact n2 e' he'
          · rw [List.mem_singleton.mp he', if_pos rfl]
        · have hji : ¬ j = sden ρ i := fun w => hj (i, v) (List.mem_append_right _ (List.mem_singleton.mpr rfl)) w.symm
          rw [r, if_neg hji]
          exact n3 j fun e' he' => hj e' (List.mem_append_left _ he')
end S
end
section
/-! ===== a run of the program of words with sums for numbers ===== -/
/-- a heap as a row of cells has it; elsewhere it is as g, but for the cells of Or -/
def ssat (ρ : Nat → Nat) (Or : Nat → Bool) (g : dH) (S : sH) (h : dH) : Prop := hwf h ∧ h.1 = g.1 ∧ h.2.1 = g.2.1 ∧ (S.map (·.1)).Nodup ∧ (∀ e ∈ S, Or e.1 = false) ∧ (∀ a, Or a = false → (∀ e ∈ S, e.1 ≠ a) → hat h a = hat g a) ∧ ∀ a kd n X, (a, kd, n, X) ∈ S → ∃ ct0 ct, hat g a = some (kd, n, ct0) ∧ hat h a = some (kd, n, ct) ∧ sct ρ (kw kd) ct0 X ct
theorem ssat_set {ρ : Nat → Nat} {Or : Nat → Bool} {g : dH} {S : sH} {h h' : dH} (hS : ssat ρ Or g S h) {a kd n : Nat} {X X' : sX} {ct ct' : Nat} (hm : (a, kd, n, X) ∈ S) (hX : ∀ ct0, sct ρ (kw kd) ct0 X ct → sct ρ (kw kd) ct0 X' ct') (hc : hat h a = some (kd, n, ct)) (e1 : h'.1 = h.1) (e2 : h'.2.1 = h.2.1) (hw : hwf h') (e : ∀ j, hat h' j = if j = a then some (kd, n, ct') else hat h j) : ssat ρ Or g (ssl a (kd, n, X') S) h' := by
  obtain ⟨h1, h2, h3, h4, h5, h6, h7⟩ := hS
  refine ⟨hw, e1.trans h2, e2.trans h3, by rw [ssl_keys]; exact h4, fun q hq => ?_, fun q hq hn => ?_, fun q kd' n' Y hq => ?_⟩
  · have hk : q.1 ∈ (ssl a (kd, n, X') S).map (·.1) := List.mem_map.mpr ⟨q, hq, rfl⟩
    rw [ssl_keys] at hk
    obtain ⟨q2, hq2, e3⟩ := List.mem_map.mp hk
    rw [← e3]
    exact h5 q2 hq2
  · have hk : ∀ q2 ∈ S, q2.1 ≠ q := by
      intro q2 hq2 w
      have hk2 : q ∈ S.map (·.1) := List.mem_map.mpr ⟨q2, hq2, w⟩
      rw [← ssl_keys a (kd, n, X')] at hk2
      obtain ⟨q3, hq3, e3⟩ := List.mem_map.mp hk2
      exact hn q3 hq3 e3
    rw [e, if_neg (fun w => hk _ hm w.symm)]
    exact h6 q hq hk
  · rcases ssl_mem h4 hq with w | ⟨w, wn⟩
    · cases w
      obtain ⟨c0, c1, g1, g2, g3⟩ := h7 a kd n X hm
      rw [hc] at g2
      cases g2
      exact ⟨c0, ct', g1, by rw [e, if_pos rfl], hX c0 g3⟩
    · obtain ⟨c0, c1, g1, g2, g3⟩ := h7 q kd' n' Y w
      exact ⟨c0, c1, g1, by rw [e, if_neg wn]; exact g2, g3⟩
abbrev sFr : Type := Bool × Nat × Nat × Nat × Nat × (Nat × Nat) × sL × List sV
/-- where a run stops: at a place, with what waits for it; or with an answer -/
abbrev sLf : Type := (Nat × Nat × Nat × Nat × sL × List sV × sH × List sFr) ⊕ (Option sV × sH)
abbrev sR : Type := Option (List sLf)
section S
variable {α : Type}
noncomputable def sI (v : sV) (k : sN → Option α) : Option α := Sum.rec (motive := fun _ => Option α) k (fun _ => none) v
noncomputable def sJ (v : sV) (k : sN → Option α) : Option α := Sum.rec (motive := fun _ => Option α) (fun _ => none) (fun w => Sum.rec (motive := fun _ => Option α) k (fun _ => none) w) v
noncomputable def sRf (v : sV) (k : Nat → Option α) : Option α := Sum.rec (motive := fun _ => Option α) (fun _ => none) (fun w => Sum.rec (motive := fun _ => Option α) (fun _ => none) k w) v
noncomputable def sA (v : sV) (k : Nat → Option α) : Option α := sRf v fun n => Nat.rec (motive := fun _ => Option α) none (fun m _ => k m) n
noncomputable def sP (st : List sV) (k : sV → List sV → Option α) : Option α := List.rec (motive := fun _ => Option α) none (fun v r _ => k v r) st
noncomputable def t1 (st : List sV) (k : sN → List sV → Option α) : Option α := sP st fun v r => sI v fun a => k a r
noncomputable def t2 (st : List sV) (k : sN → sN → List sV → Option α) : Option α := sP st fun v r => sI v fun b => sP r fun w r => sI w fun a => k a b r
noncomputable def t1l (st : List sV) (k : sN → List sV → Option α) : Option α := sP st fun v r => sJ v fun a => k a r
noncomputable def t2l (st : List sV) (k : sN → sN → List sV → Option α) : Option α := sP st fun v r => sJ v fun b => sP r fun w r => sJ w fun a => k a b r
noncomputable def til (st : List sV) (k : sN → sN → List sV → Option α) : Option α := sP st fun v r => sI v fun b => sP r fun w r => sJ w fun a => k a b r
noncomputable def t1a (st : List sV) (k : Nat → List sV → Option α) : Option α := sP st fun v r => sA v fun a => k a r
noncomputable def tia (st : List sV) (k : Nat → sN → List sV → Option α) : Option α := sP st fun v r => sI v fun i => sP r fun w r => sA w fun a => k a i r
noncomputable def tiia (st : List sV) (k : Nat → sN → sN → List sV → Option α) : Option α := sP st fun v r => sI v fun x => tia r fun a i r => k a i x r
noncomputable def tlia (st : List sV) (k : Nat → sN → sN → List sV → Option α) : Option α := sP st fun v r => sJ v fun x => tia r fun a i r => k a i x r
theorem sI_s {v : sV} {k : sN → Option α} {w : α} (h : sI v k = some w) : ∃ a, v = .inl a ∧ k a = some w := by
  match v, h with
  | .inl a, h => exact ⟨a, rfl, h⟩
  | .inr _, h => cases h
theorem sJ_s {v : sV} {k : sN → Option α} {w : α} (h : sJ v k = some w) : ∃ a, v = .inr (.inl a) ∧ k a = some w := by
  match v, h with
  | .inr (.inl a), h => exact ⟨a, rfl, h⟩
  | .inl _, h => cases h
  | .inr (.inr _), h => cases h
theorem sRf_s {v : sV} {k : Nat → Option α} {w : α} (h : sRf v k = some w) : ∃ a, v = .inr (.inr a) ∧ k a = some w := by
  match v, h with
  | .inr (.inr a), h => exact ⟨a, rfl, h⟩
  | .inl _, h => cases h
  | .inr (.inl _), h => cases h
theorem sA_s {v : sV} {k : Nat → Option α} {w : α} (h : sA v k = some w) : ∃ a, v = .inr (.inr (a + 1)) ∧ k a = some w := by
  obtain ⟨n, rfl, h2⟩ := sRf_s h
  cases n with
  | zero => cases h2
  | succ m => exact ⟨m, rfl, h2⟩
theorem sP_s {st : List sV} {k : sV → List sV → Option α} {w : α} (h : sP st k = some w) : ∃ v r, st = v :: r ∧ k v r = some w := by
  cases st with
  | nil => cases h
  | cons v r => exact ⟨v, r, rfl, h⟩
theorem t1_s {st : List sV} {k : sN → List sV → Option α} {w : α} (h : t1 st k = some w) : ∃ a r, st = .inl a :: r ∧ k a r = some w := by
  obtain ⟨v, r, rfl, h⟩ := sP_s h
  obtain ⟨a, rfl, h⟩ := sI_s h
  exact ⟨a, r, rfl, h⟩
theorem t2_s {st : List sV} {k : sN → sN → List sV → Option α} {w : α} (h : t2 st k = some w) : ∃ a b r, st = .inl b :: .inl a :: r ∧ k a b r = some w := by
  obtain ⟨v, r, rfl, h⟩ := sP_s h
  obtain ⟨b, rfl, h⟩ := sI_s h
  obtain ⟨v, r, rfl, h⟩ := sP_s (st := r) h
  obtain ⟨a, rfl, h⟩ := sI_s h
  exact ⟨a, b, r, rfl, h⟩
theorem t1l_s {st : List sV} {k : sN → List sV → Option α} {w : α} (h : t1l st k = some w) : ∃ a r, st = .inr (.inl a) :: r ∧ k a r = some w := by
  obtain ⟨v, r, rfl, h⟩ := sP_s h
  obtain ⟨a, rfl, h⟩ := sJ_s h
  exact ⟨a, r, rfl, h⟩
theorem t2l_s {st : List sV} {k : sN → sN → List sV → Option α} {w : α} (h : t2l st k = some w) : ∃ a b r, st = .inr (.inl b) :: .inr (.inl a) :: r ∧ k a b r = some w := by
  obtain ⟨v, r, rfl, h⟩ := sP_s h
  obtain ⟨b, rfl, h⟩ := sJ_s h
  obtain ⟨v, r, rfl, h⟩ := sP_s (st := r) h
  obtain ⟨a, rfl, h⟩ := sJ_s h
  exact ⟨a, b, r, rfl, h⟩
theorem til_s {st : List sV} {k : sN → sN → List sV → Option α} {w : α} (h : til st k = some w) : ∃ a b r, st = .inl b :: .inr (.inl a) :: r ∧ k a b r = some w := by
  obtain ⟨v, r, rfl, h⟩ := sP_s h
  obtain ⟨b, rfl, h⟩ := sI_s h
  obtain ⟨v, r, rfl, h⟩ := sP_s (st := r) h
  obtain ⟨a, rfl, h⟩ := sJ_s h
  exact ⟨a, b, r, rfl, h⟩
theorem t1a_s {st : List sV} {k : Nat → List sV → Option α} {w : α} (h : t1a st k = some w) : ∃ a r, st = .inr (.inr (a + 1)) :: r ∧ k a r = some w := by
  obtain ⟨v, r, rfl, h⟩ := sP_s h
  obtain ⟨a, rfl, h⟩ := sA_s h
  exact ⟨a, r, rfl, h⟩
theorem tia_s {st : List sV} {k : Nat → sN → List sV → Option α} {w : α} (h : tia st k = some w) : ∃ a i r, st = .inl i :: .inr (.inr (a + 1)) :: r ∧ k a i r = some w := by
  obtain ⟨v, r, rfl, h⟩ := sP_s h
  obtain ⟨i, rfl, h⟩ := sI_s h
  obtain ⟨v, r, rfl, h⟩ := sP_s (st := r) h
  obtain ⟨a, rfl, h⟩ := sA_s h
  exact ⟨a, i, r, rfl, h⟩
theorem tiia_s {st : List sV} {k : Nat → sN → sN → List sV → Option α} {w : α} (h : tiia st k = some w) : ∃ a i x r, st = .inl x :: .inl i :: .inr (.inr (a + 1)) :: r ∧ k a i x r = some w := by
  obtain ⟨v, r, rfl, h⟩ := sP_s h
  obtain ⟨x, rfl, h⟩ := sI_s h
  obtain ⟨a, i, r, rfl, h⟩ := tia_s h
  exact ⟨a, i, x, r, rfl, h⟩
theorem tlia_s {st : List sV} {k : Nat → sN → sN → List sV → Option α} {w : α} (h : tlia st k = some w) : ∃ a i x r, st = .inr (.inl x) :: .inl i :: .inr (.inr (a + 1)) :: r ∧ k a i x r = some w := by
  obtain ⟨v, r, rfl, h⟩ := sP_s h
  obtain ⟨x, rfl, h⟩ := sJ_s h
  obtain ⟨a, i, r, rfl, h⟩ := tia_s h
  exact ⟨a, i, x, r, rfl, h⟩
end S
noncomputable def sisl (v : sV) : Bool := Sum.rec (motive := fun _ => Bool) (fun _ => false) (fun w => Sum.rec (motive := fun _ => Bool) (fun _ => true) (fun _ => false) w) v
theorem sisl_d (ρ : Nat → Nat) (v : sV) : disl (svd ρ v) = sisl v := by
  match v with
  | .inl _ => rfl
  | .inr (.inl _) => rfl
  | .inr (.inr _) => rfl
noncomputable def sp1 (i : Nat) (q : Nat × sV) : Bool := cond (Nat.beq q.1 i) false (cond (Nat.beq (Nat.succ q.1) i) (cond (sisl q.2) false true) true)
noncomputable def sp2 (i : Nat) (q : Nat × sV) : Bool := cond (Nat.beq q.1 i) false (cond (Nat.beq q.1 (Nat.succ i)) false (cond (Nat.beq (Nat.succ q.1) i) (cond (sisl q.2) false true) true))
theorem sp1_d (ρ : Nat → Nat) (i : Nat) (q : Nat × sV) : dp1 i (q.1, svd ρ q.2) = sp1 i q := by unfold dp1 sp1; rw [sisl_d]
theorem sp2_d (ρ : Nat → Nat) (i : Nat) (q : Nat × sV) : dp2 i (q.1, svd ρ q.2) = sp2 i q := by unfold dp2 sp2; rw [sisl_d]
theorem sy_flt {α β : Type} (p : α → Bool) (L : List α) (k : List α → β) : fltc p L k = k (L.filter p) := by
  induction L generalizing k with
  | nil => rfl
  | cons a t ih =>
    show cond (p a) (fltc p t (fun u => k (a :: u))) (fltc p t k) = _
    cases e : p a
    · rw [List.filter_cons_of_neg (by simp [e])]; exact ih k
    · rw [List.filter_cons_of_pos e]; exact ih _
theorem sy_f1 (ρ : Nat → Nat) (i : Nat) (L : sL) : (slD ρ L).filter (dp1 i) = slD ρ (L.filter (sp1 i)) := by
  unfold slD
  rw [List.filter_map]
  congr 1
  apply List.filter_congr
  intro q _
  exact sp1_d ρ i q
theorem sy_f2 (ρ : Nat → Nat) (i : Nat) (L : sL) : (slD ρ L).filter (dp2 i) = slD ρ (L.filter (sp2 i)) := by
  unfold slD
  rw [List.filter_map]
  congr 1
  apply List.filter_congr
  intro q _
  exact sp2_d ρ i q
noncomputable def slk1 (L : sL) (i : Nat) : Option sV := List.rec (motive := fun _ => Option sV) none (fun a _ ih => cond (Nat.beq a.1 i) (some a.2) ih) L
theorem slk1_d (ρ : Nat → Nat) (L : sL) (i : Nat) : dlk (slD ρ L) i = (slk1 L i).map (svd ρ) := by
  induction L with
  | nil => rfl
  | cons a t ih =>
    show cond (Nat.beq a.1 i) (some (svd ρ a.2)) (dlk (slD ρ t) i) = Option.map (svd ρ) (cond (Nat.beq a.1 i) (some a.2) (slk1 t i))
    cases Nat.beq a.1 i
    · exact ih
    · rfl
noncomputable def sO {α β : Type} (o : Option α) (k : α → Option β) : Option β := Option.rec (motive := fun _ => Option β) none k o
theorem sO_s {α β : Type} {o : Option α} {k : α → Option β} {w : β} (h : sO o k = some w) : ∃ a, o = some a ∧ k a = some w := by
  cases o with
  | none => cases h
  | some a => exact ⟨a, rfl, h⟩
theorem scd_t {a : Bool} {α : Type} {x : Option α} {w : α} (h : cond a x none = some w) : a = true ∧ x = some w := by
  cases a with
  | true => exact ⟨rfl, h⟩
  | false => cases h
theorem sor_s {α : Type} {X : Option α} {P : Prop} {w : α} (h : X = none ∨ P) (e : X = some w) : P := by
  rcases h with h | h
  · rw [h] at e; cases e
  · exact h
end
section
/-! ===== what each instruction does with sums ===== -/
noncomputable def sdcat (st : List sV) : Nat := List.rec (motive := fun _ => Nat) 0 (fun v _ ih => Nat.add (cond (sisl v) 2 1) ih) st
theorem sdcat_d (ρ : Nat → Nat) (st : List sV) : dcat (st.map (svd ρ)) = sdcat st := by
  induction st with
  | nil => rfl
  | cons v t ih =>
    show Nat.add (cond (disl (svd ρ v)) 2 1) (dcat (t.map (svd ρ))) = Nat.add (cond (sisl v) 2 1) (sdcat t)
    rw [ih, sisl_d]
noncomputable def spop (n : Nat) : List sV → List sV → (List sV → List sV → sR) → sR := Nat.rec (motive := fun _ => List sV → List sV → (List sV → List sV → sR) → sR) (fun st acc k => k acc st) (fun _ ih st acc k => sP st fun v r => ih r (v :: acc) k) n
theorem spop_s (ρ : Nat → Nat) {n : Nat} {st acc : List sV} {k : List sV → List sV → sR} {w : List sLf} (h : spop n st acc k = some w) : ∃ as r, k as r = some w ∧ ∀ k2 : List dV → List dV → dR, dpop n (st.map (svd ρ)) (acc.map (svd ρ)) k2 = k2 (as.map (svd ρ)) (r.map (svd ρ)) := by
  induction n generalizing st acc with
  | zero => exact ⟨acc, st, h, fun _ => rfl⟩
  | succ n ih =>
    obtain ⟨v, r, rfl, h2⟩ := sP_s (α := List sLf) (st := st) (k := fun v r => spop n r (v :: acc) k) h
    exact ih h2
noncomputable def sfv (tc : Nat) (w : sN) (k : sV → sR) : sR := match tc with
  | 0 => k (.inl w)
  | 1 => k (.inr (.inl w))
  | 2 => k (.inl w)
  | _ => scs w none fun n => k (.inr (.inr n))
theorem sfv_s (ρ : Nat → Nat) {tc : Nat} {w : sN} {k : sV → sR} {lv : List sLf} (h : sfv tc w k = some lv) : ∃ v, k v = some lv ∧ svd ρ v = fv tc (sden ρ w) := by
  match tc, h with
  | 0, h => exact ⟨_, h, rfl⟩
  | 1, h => exact ⟨_, h, rfl⟩
  | 2, h => exact ⟨_, h, rfl⟩
  | n + 3, h =>
    rcases scs_spec ρ w none (fun n => k (.inr (.inr n))) with ⟨e, e2, -⟩ | e
    · have h2 : scs w none (fun n => k (.inr (.inr n))) = some lv := h
      rw [e] at h2
      exact ⟨_, h2, by rw [e2]; rfl⟩
    · have h2 : scs w none (fun n => k (.inr (.inr n))) = some lv := h
      rw [e] at h2; cases h2
noncomputable def sfe (B : List (Nat × Nat)) (tc : Nat) (v : sV) (k : sN → sR) : sR := match tc with
  | 0 => sI v fun a => sun B (fun x => Nat.mod x 4294967296) 4294967296 a none k
  | 1 => sJ v fun a => sun B (fun x => Nat.mod x 18446744073709551616) 18446744073709551616 a none k
  | 2 => sI v fun a => sbel B 2 a none (k a)
  | 3 => sRf v fun n => cond (Nat.blt n 18446744073709551616) (k (n, [])) none
  | _ => none
theorem sfe_s {ρ : Nat → Nat} {B : List (Nat × Nat)} (hB : sok ρ B) {tc : Nat} {v : sV} {k : sN → sR} {lv : List sLf} (h : sfe B tc v k = some lv) : ∃ w, k w = some lv ∧ sden ρ w < 2 ^ 64 ∧ ∀ k2 : Nat → dR, fe tc (svd ρ v) k2 = k2 (sden ρ w) := by
  match tc, h with
  | 0, h =>
    obtain ⟨a, rfl, h0⟩ := sI_s h
    obtain ⟨w, h1, h2⟩ := sor_s (sun_spec hB (fun x => Nat.mod x 4294967296) 4294967296 (fun x hx => Nat.mod_eq_of_lt hx) a none k) h0
    rw [h1] at h0
    refine ⟨w, h0, ?_, fun k2 => ?_⟩
    · rw [h2]; exact Nat.lt_of_lt_of_le (Nat.mod_lt _ (by decide)) (by decide)
    · show fo (Nat.mod (sden ρ a) 4294967296) k2 = _
      rw [fo_eq, h2]
  | 1, h =>
    obtain ⟨a, rfl, h0⟩ := sJ_s h
    obtain ⟨w, h1, h2⟩ := sor_s (sun_spec hB (fun x => Nat.mod x 18446744073709551616) 18446744073709551616 (fun x hx => Nat.mod_eq_of_lt hx) a none k) h0
    rw [h1] at h0
    refine ⟨w, h0, ?_, fun k2 => ?_⟩
    · rw [h2]; exact Nat.mod_lt _ (by decide)
    · show fo (Nat.mod (sden ρ a) 18446744073709551616) k2 = _
      rw [fo_eq, h2]
  | 2, h =>
    obtain ⟨a, rfl, h0⟩ := sI_s h
    obtain ⟨h1, h2⟩ := sor_s (sbel_spec hB 2 a none (k a)) h0
    rw [h1] at h0
    refine ⟨a, h0, by omega, fun k2 => ?_⟩
    show cond (Nat.ble (Nat.mod (sden ρ a) 4294967296) 1) (fo (Nat.mod (sden ρ a) 4294967296) k2) none = _
    rw [show Nat.mod (sden ρ a) 4294967296 = sden ρ a from Nat.mod_eq_of_lt (by omega), show Nat.ble (sden ρ a) 1 = true from Nat.ble_eq_true_of_le (by omega), fo_eq]; rfl
  | 3, h =>
    obtain ⟨n, rfl, h0⟩ := sRf_s h
    obtain ⟨h1, h2⟩ := scd_t h0
    refine ⟨_, h2, di_blt.mp h1, fun k2 => ?_⟩
    show cond (Nat.blt n 18446744073709551616) (k2 n) none = _
    rw [h1]; rfl
  | n + 4, h => cases h
noncomputable def slc (B : List (Nat × Nat)) (a b : sN) (z : sR) (k : sN → sR) : sR := scs a (sbel B 9223372036854775808 a z (sbel B 9223372036854775808 b z (scmp B a b (k (4294967295, [])) (k (0, [])) (k (1, [])) z))) fun _ => scs b (sbel B 9223372036854775808 a z (sbel B 9223372036854775808 b z (scmp B a b (k (4294967295, [])) (k (0, [])) (k (1, [])) z))) fun _ => sbin dCmp a b z k
theorem dll_eq {a b : Nat} (ha : a < 9223372036854775808) (hb : b < 9223372036854775808) : dLLt a b = decide (a < b) := by
  show Nat.blt ((a + 9223372036854775808) % 18446744073709551616) ((b + 9223372036854775808) % 18446744073709551616) = _
  cases h : Nat.blt ((a + 9223372036854775808) % 18446744073709551616) ((b + 9223372036854775808) % 18446744073709551616) with
  | true => have := di_blt.mp h; exact (decide_eq_true (by omega)).symm
  | false =>
    have h2 : ¬ ((a + 9223372036854775808) % 18446744073709551616 < (b + 9223372036854775808) % 18446744073709551616) := fun w => by rw [di_blt.mpr w] at h; cases h
    exact (decide_eq_false (by omega)).symm
theorem slc_s {ρ : Nat → Nat} {B : List (Nat × Nat)} (hB : sok ρ B) {a b : sN} {z : sR} {k : sN → sR} : slc B a b z k = z ∨ ∃ v, slc B a b z k = k v ∧ sden ρ v = dCmp (sden ρ a) (sden ρ b) := by
  have key : ∀ X, X = sbel B 9223372036854775808 a z (sbel B 9223372036854775808 b z (scmp B a b (k (4294967295, [])) (k (0, [])) (k (1, [])) z)) → X = z ∨ ∃ v, X = k v ∧ sden ρ v = dCmp (sden ρ a) (sden ρ b) := by
    intro X hX
    rcases sbel_spec hB 9223372036854775808 a z (sbel B 9223372036854775808 b z (scmp B a b (k (4294967295, [])) (k (0, [])) (k (1, [])) z)) with q | ⟨q, ha⟩
    · exact Or.inl (hX.trans q)
    · rcases sbel_spec hB 9223372036854775808 b z (scmp B a b (k (4294967295, [])) (k (0, [])) (k (1, [])) z) with w | ⟨w, hb⟩
      · exact Or.inl (hX.trans (q.trans w))
      · have e1 := dll_eq ha hb
        have e2 := dll_eq hb ha
        rcases scmp_spec hB a b (k (4294967295, [])) (k (0, [])) (k (1, [])) z with p | ⟨p, g⟩ | ⟨p, g⟩ | ⟨p, g⟩
        · exact Or.inl (hX.trans (q.trans (w.trans p)))
        · refine Or.inr ⟨_, hX.trans (q.trans (w.trans p)), ?_⟩
          show 4294967295 = cond (dLLt _ _) 4294967295 _
          rw [e1, decide_eq_true g]; rfl
        · refine Or.inr ⟨_, hX.trans (q.trans (w.trans p)), ?_⟩
          show 0 = cond (dLLt _ _) 4294967295 (cond (dLLt _ _) 1 0)
          rw [e1, e2, decide_eq_false (by omega), decide_eq_false (by omega)]; rfl
        · refine Or.inr ⟨_, hX.trans (q.trans (w.trans p)), ?_⟩
          show 1 = cond (dLLt _ _) 4294967295 (cond (dLLt _ _) 1 0)
          rw [e1, e2, decide_eq_false (by omega), decide_eq_true g]; rfl
  unfold slc
  rcases scs_spec ρ a (sbel B 9223372036854775808 a z (sbel B 9223372036854775808 b z (scmp B a b (k (4294967295, [])) (k (0, [])) (k (1, [])) z))) (fun _ => scs b (sbel B 9223372036854775808 a z (sbel B 9223372036854775808 b z (scmp B a b (k (4294967295, [])) (k (0, [])) (k (1, [])) z))) fun _ => sbin dCmp a b z k) with ⟨e, -⟩ | e
  · rw [e]
    rcases scs_spec ρ b (sbel B 9223372036854775808 a z (sbel B 9223372036854775808 b z (scmp B a b (k (4294967295, [])) (k (0, [])) (k (1, [])) z))) (fun _ => sbin dCmp a b z k) with ⟨e, -⟩ | e
    · rw [e]
      exact sbin_spec ρ dCmp a b z k
    · exact key _ e
  · exact key _ e
/-- the greater or the lesser of two -/
noncomputable def smx (B : List (Nat × Nat)) (f : Nat → Nat → Nat) (big : Bool) (a b : sN) (k : sN → sR) : sR := scs a (sbel B 2147483648 a none (sbel B 2147483648 b none (scmp B a b (cond big (k b) (k a)) (k a) (cond big (k a) (k b)) none))) fun _ => scs b (sbel B 2147483648 a none (sbel B 2147483648 b none (scmp B a b (cond big (k b) (k a)) (k a) (cond big (k a) (k b)) none))) fun _ => sbin f a b none k
theorem smx_s {ρ : Nat → Nat} {B : List (Nat × Nat)} (hB : sok ρ B) {f : Nat → Nat → Nat} {big : Bool} (hf : ∀ x y, x < 2147483648 → y < 2147483648 → f x y = cond big (max x y) (min x y)) {a b : sN} {k : sN → sR} {lv : List sLf} (h : smx B f big a b k = some lv) : ∃ v, k v = some lv ∧ sden ρ v = f (sden ρ a) (sden ρ b) := by
  have key : sbel B 2147483648 a none (sbel B 2147483648 b none (scmp B a b (cond big (k b) (k a)) (k a) (cond big (k a) (k b)) none)) = some lv → ∃ v, k v = some lv ∧ sden ρ v = f (sden ρ a) (sden ρ b) := by
    intro h0
    obtain ⟨h1, ha⟩ := sor_s (sbel_spec hB _ a none _) h0
    rw [h1] at h0
    obtain ⟨h2, hb⟩ := sor_s (sbel_spec hB _ b none _) h0
    rw [h2] at h0
    rw [hf _ _ ha hb]
    rcases sor_s (scmp_spec hB a b (cond big (k b) (k a)) (k a) (cond big (k a) (k b)) none) h0 with ⟨q, g⟩ | ⟨q, g⟩ | ⟨q, g⟩
    · rw [q] at h0
      cases big with
      | true => exact ⟨b, h0, by show _ = max _ _; omega⟩
      | false => exact ⟨a, h0, by show _ = min _ _; omega⟩
    · rw [q] at h0
      cases big with
      | true => exact ⟨a, h0, by show _ = max _ _; omega⟩
      | false => exact ⟨a, h0, by show _ = min _ _; omega⟩
    · rw [q] at h0
      cases big with
      | true => exact ⟨a, h0, by show _ = max _ _; omega⟩
      | false => exact ⟨b, h0, by show _ = min _ _; omega⟩
  unfold smx at h
  rcases scs_spec ρ a (sbel B 2147483648 a none (sbel B 2147483648 b none (scmp B a b (cond big (k b) (k a)) (k a) (cond big (k a) (k b)) none))) (fun _ => scs b (sbel B 2147483648 a none (sbel B 2147483648 b none (scmp B a b (cond big (k b) (k a)) (k a) (cond big (k a) (k b)) none))) fun _ => sbin f a b none k) with ⟨e, -⟩ | e
  · rw [e] at h
    rcases scs_spec ρ b (sbel B 2147483648 a none (sbel B 2147483648 b none (scmp B a b (cond big (k b) (k a)) (k a) (cond big (k a) (k b)) none))) (fun _ => sbin f a b none k) with ⟨e, -⟩ | e
    · rw [e] at h
      obtain ⟨v, h1, h2⟩ := sor_s (sbin_spec ρ f a b none k) h
      rw [h1] at h
      exact ⟨v, h, h2⟩
    · rw [e] at h; exact key h
  · rw [e] at h; exact key h
/-- a place in a row of n -/
noncomputable def sin (B : List (Nat × Nat)) (i : sN) (n : Nat) (k : sR) : sR := sbel B n i none (sbel B 2147483648 i none k)
theorem sin_s {ρ : Nat → Nat} {B : List (Nat × Nat)} (hB : sok ρ B) {i : sN} {n : Nat} {k : sR} {lv : List sLf} (h : sin B i n k = some lv) : k = some lv ∧ sden ρ i % 4294967296 = sden ρ i ∧ ∀ X : dR, din (sden ρ i) n X = X := by
  unfold sin at h
  obtain ⟨h1, ha⟩ := sor_s (sbel_spec hB n i none _) h
  rw [h1] at h
  obtain ⟨h2, hb⟩ := sor_s (sbel_spec hB 2147483648 i none _) h
  rw [h2] at h
  refine ⟨h, Nat.mod_eq_of_lt (by omega), fun X => ?_⟩
  show cond (Nat.blt _ n) (cond (Nat.blt _ 2147483648) X none) none = X
  rw [di_blt.mpr ha, di_blt.mpr hb]; rfl
end
section
/-! ===== what each instruction of the program of words comes to ===== -/
theorem ke_pop {v : dV} {r : List dV} {k : dV → List dV → dR} : pop (v :: r) k = k v r := rfl
theorem ke_d1 {a : Nat} {r : List dV} {k : Nat → List dV → dR} : d1 (.inl a :: r) k = k a r := rfl
theorem ke_d2 {a b : Nat} {r : List dV} {k : Nat → Nat → List dV → dR} : d2 (.inl b :: .inl a :: r) k = k a b r := rfl
theorem ke_d1l {a : Nat} {r : List dV} {k : Nat → List dV → dR} : d1l (.inr (.inl a) :: r) k = k a r := rfl
theorem ke_d2l {a b : Nat} {r : List dV} {k : Nat → Nat → List dV → dR} : d2l (.inr (.inl b) :: .inr (.inl a) :: r) k = k a b r := rfl
theorem ke_dil {a b : Nat} {r : List dV} {k : Nat → Nat → List dV → dR} : dil (.inl b :: .inr (.inl a) :: r) k = k a b r := rfl
theorem ke_d1a {a : Nat} {r : List dV} {k : Nat → List dV → dR} : d1a (.inr (.inr (a + 1)) :: r) k = k a r := rfl
theorem ke_dia {a i : Nat} {r : List dV} {k : Nat → Nat → List dV → dR} : dia (.inl i :: .inr (.inr (a + 1)) :: r) k = k a (i % 4294967296) r := by
  have h : dia (.inl i :: .inr (.inr (a + 1)) :: r) k = fo (i % 4294967296) (fun j => k a j r) := rfl
  rw [h, fo_eq]
theorem ke_diia {a i x : Nat} {r : List dV} {k : Nat → Nat → Nat → List dV → dR} : diia (.inl x :: .inl i :: .inr (.inr (a + 1)) :: r) k = k a (i % 4294967296) x r := by
  have h : diia (.inl x :: .inl i :: .inr (.inr (a + 1)) :: r) k = dia (.inl i :: .inr (.inr (a + 1)) :: r) (fun a i r => k a i x r) := rfl
  rw [h, ke_dia]
theorem ke_dlia {a i x : Nat} {r : List dV} {k : Nat → Nat → Nat → List dV → dR} : dlia (.inr (.inl x) :: .inl i :: .inr (.inr (a + 1)) :: r) k = k a (i % 4294967296) x r := by
  have h : dlia (.inr (.inl x) :: .inl i :: .inr (.inr (a + 1)) :: r) k = dia (.inl i :: .inr (.inr (a + 1)) :: r) (fun a i r => k a i x r) := rfl
  rw [h, ke_dia]
theorem ke_opt {α : Type} {a : α} {k : α → dR} : opt (some a) k = k a := rfl
theorem ke_cel {kd n ct : Nat} {k : Nat → Nat → Nat → dR} : cel (some (kd, n, ct)) k = k kd n ct := rfl
theorem ke_vI {n : Nat} {k : Nat → dR} : vI (.inl n) k = k n := rfl
theorem ke_vL {n : Nat} {k : Nat → dR} : vL (.inr (.inl n)) k = k n := rfl
theorem ke_vA {n : Nat} {k : Nat → dR} : vA (.inr (.inr (n + 1))) k = k n := rfl
section S
variable {rec : dRec} {nxt : dCode} {y x d : Nat} {L : dL} {st : List dV} {h : dH}
theorem k_iload {n : Nat} (e : dlk L x = some (.inl n)) : o_iload y x nxt rec d L st h = nxt rec d L (.inl n :: st) h := by simp only [o_iload, e, ke_opt, ke_vI]
theorem k_lload {n : Nat} (e : dlk L x = some (.inr (.inl n))) : o_lload y x nxt rec d L st h = nxt rec d L (.inr (.inl n) :: st) h := by simp only [o_lload, e, ke_opt, ke_vL]
theorem k_aload {n : Nat} (e : dlk L x = some (.inr (.inr (n + 1)))) : o_aload y x nxt rec d L st h = nxt rec d L (.inr (.inr (n + 1)) :: st) h := by simp only [o_aload, e, ke_opt, ke_vA]
theorem k_istore {v : Nat} : o_istore y x nxt rec d L (.inl v :: st) h = nxt rec d ((x, .inl v) :: L.filter (dp1 x)) st h := by simp only [o_istore, ke_d1, sy_flt]
theorem k_lstore {v : Nat} : o_lstore y x nxt rec d L (.inr (.inl v) :: st) h = nxt rec d ((x, .inr (.inl v)) :: L.filter (dp2 x)) st h := by simp only [o_lstore, ke_d1l, sy_flt]
theorem k_astore {v : Nat} : o_astore y x nxt rec d L (.inr (.inr (v + 1)) :: st) h = nxt rec d ((x, .inr (.inr (v + 1))) :: L.filter (dp1 x)) st h := by simp only [o_astore, ke_d1a, sy_flt]
theorem k_iinc {n : Nat} (e : dlk L (Nat.div x 4294967296) = some (.inl n)) : o_iinc y x nxt rec d L st h = nxt rec d ((Nat.div x 4294967296, .inl (dAdd n (Nat.mod x 4294967296))) :: L.filter (dp1 (Nat.div x 4294967296))) st h := by simp only [o_iinc, e, ke_opt, ke_vI, fo_eq, sy_flt]
theorem k_bin {f : Nat → Nat → Nat} {a b : Nat} : o_bin f y x nxt rec d L (.inl b :: .inl a :: st) h = nxt rec d L (.inl (f a b) :: st) h := by simp only [o_bin, ke_d2, fo_eq]
theorem k_binl {f : Nat → Nat → Nat} {a b : Nat} : o_binl f y x nxt rec d L (.inr (.inl b) :: .inr (.inl a) :: st) h = nxt rec d L (.inr (.inl (f a b)) :: st) h := by simp only [o_binl, ke_d2l, fo_eq]
theorem k_div {f : Nat → Nat → Nat} {a b : Nat} (hz : dZ b = false) : o_div f y x nxt rec d L (.inl b :: .inl a :: st) h = nxt rec d L (.inl (f a b) :: st) h := by simp only [o_div, ke_d2, hz, cond_false, fo_eq]
theorem k_shl {f : Nat → Nat → Nat} {a b : Nat} : o_shl f y x nxt rec d L (.inl b :: .inr (.inl a) :: st) h = nxt rec d L (.inr (.inl (f a b)) :: st) h := by simp only [o_shl, ke_dil, fo_eq]
theorem k_lcmp {a b : Nat} : o_lcmp y x nxt rec d L (.inr (.inl b) :: .inr (.inl a) :: st) h = nxt rec d L (.inl (dCmp a b) :: st) h := by simp only [o_lcmp, ke_d2l, fo_eq]
theorem k_un {f : Nat → Nat} {a : Nat} : o_un f y x nxt rec d L (.inl a :: st) h = nxt rec d L (.inl (f a) :: st) h := by simp only [o_un, ke_d1, fo_eq]
theorem k_i2l {a : Nat} : o_i2l y x nxt rec d L (.inl a :: st) h = nxt rec d L (.inr (.inl (dI2l a)) :: st) h := by simp only [o_i2l, ke_d1, fo_eq]
theorem k_l2i {a : Nat} : o_l2i y x nxt rec d L (.inr (.inl a) :: st) h = nxt rec d L (.inl (dL2i a) :: st) h := by simp only [o_l2i, ke_d1l, fo_eq]
theorem k_if {c : ClassFile.Cond} {a : Nat} : o_if c y x nxt rec d L (.inl a :: st) h = cond (dcd c a 0) (rec d y x L st h) (nxt rec d L st h) := by simp only [o_if, ke_d1]
theorem k_icmp {c : ClassFile.Cond} {a b : Nat} : o_icmp c y x nxt rec d L (.inl b :: .inl a :: st) h = cond (dcd c a b) (rec d y x L st h) (nxt rec d L st h) := by simp only [o_icmp, ke_d2]
theorem k_tsw {a : Nat} : o_tsw y x nxt rec d L (.inl a :: st) h = cond (Nat.blt (dSub a (Nat.mod x 4294967296)) (wq 16 (Nat.shiftRight x 32) 0)) (rec d y (wq 16 (Nat.shiftRight x 32) (Nat.succ (Nat.succ (dSub a (Nat.mod x 4294967296))))) L st h) (rec d y (wq 16 (Nat.shiftRight x 32) 1) L st h) := by simp only [o_tsw, ke_d1, fo_eq]
theorem k_lsw {a : Nat} : o_lsw y x nxt rec d L (.inl a :: st) h = rec d y (dlsw (Nat.shiftRight x 32) (Nat.mod a 4294967296) (wq 16 x 1) (wq 16 x 0) 0) L st h := by simp only [o_lsw, ke_d1, fo_eq]
theorem k_dup {v : dV} (e : disl v = false) : o_dup y x nxt rec d L (v :: st) h = nxt rec d L (v :: v :: st) h := by simp only [o_dup, ke_pop, e, cond_false]
theorem k_pop {v : dV} (e : disl v = false) : o_pop y x nxt rec d L (v :: st) h = nxt rec d L st h := by simp only [o_pop, ke_pop, e, cond_false]
theorem k_dup2l {v : dV} (e : disl v = true) : o_dup2 y x nxt rec d L (v :: st) h = nxt rec d L (v :: v :: st) h := by simp only [o_dup2, ke_pop, e, cond_true]
theorem k_dup2 {v w : dV} (e : disl v = false) (e2 : disl w = false) : o_dup2 y x nxt rec d L (v :: w :: st) h = nxt rec d L (v :: w :: v :: w :: st) h := by simp only [o_dup2, ke_pop, e, e2, cond_false]
theorem k_getfield {a kd n ct : Nat} (ha : hat h a = some (kd, n, ct)) (hk : Nat.beq kd (Nat.add (Nat.div x 1024) 4) = true) : o_getfield y x nxt rec d L (.inr (.inr (a + 1)) :: st) h = nxt rec d L (fv (Nat.mod x 4) (wd 64 ct (Nat.mod (Nat.div x 4) 256)) :: st) h := by simp only [o_getfield, ke_d1a, ha, ke_cel, hk, cond_true, fo_eq]
theorem k_putfield {a kd n ct w : Nat} {v : dV} {h2 : dH} (ha : hat h a = some (kd, n, ct)) (hk : Nat.beq kd (Nat.add (Nat.div x 1024) 4) = true) (hv : ∀ k : Nat → dR, fe (Nat.mod x 4) v k = k w) (hs : hset h a (kd, n, wst 64 ct (Nat.mod (Nat.div x 4) 256) w) (fun h' => nxt rec d L st h') none = nxt rec d L st h2) : o_putfield y x nxt rec d L (v :: .inr (.inr (a + 1)) :: st) h = nxt rec d L st h2 := by
  simp only [o_putfield, ke_pop, ke_d1a, ha, ke_cel, hk, cond_true, hv, fo_eq]
  exact hs
theorem k_alen {a kd n ct : Nat} (ha : hat h a = some (kd, n, ct)) (hk : Nat.blt kd 4 = true) : o_alen y x nxt rec d L (.inr (.inr (a + 1)) :: st) h = nxt rec d L (.inl n :: st) h := by simp only [o_alen, ke_d1a, ha, ke_cel, hk, cond_true]
theorem k_iaload {a i n ct : Nat} (ha : hat h a = some (0, n, ct)) (hi : i % 4294967296 = i) (hd : ∀ X : dR, din i n X = X) : o_iaload y x nxt rec d L (.inl i :: .inr (.inr (a + 1)) :: st) h = nxt rec d L (.inl (wd 32 ct i) :: st) h := by
  simp only [o_iaload, ke_dia, ha, ke_cel, hi, hd, fo_eq]; rfl
theorem k_laload {a i n ct : Nat} (ha : hat h a = some (1, n, ct)) (hi : i % 4294967296 = i) (hd : ∀ X : dR, din i n X = X) : o_laload y x nxt rec d L (.inl i :: .inr (.inr (a + 1)) :: st) h = nxt rec d L (.inr (.inl (wd 64 ct i)) :: st) h := by
  simp only [o_laload, ke_dia, ha, ke_cel, hi, hd, fo_eq]; rfl
theorem k_baload2 {a i n ct : Nat} (ha : hat h a = some (2, n, ct)) (hi : i % 4294967296 = i) (hd : ∀ X : dR, din i n X = X) : o_baload y x nxt rec d L (.inl i :: .inr (.inr (a + 1)) :: st) h = nxt rec d L (.inl (dI2b (wd 8 ct i)) :: st) h := by
  simp only [o_baload, ke_dia, ha, ke_cel, hi, hd, fo_eq]; rfl
theorem k_baload3 {a i n ct : Nat} (ha : hat h a = some (3, n, ct)) (hi : i % 4294967296 = i) (hd : ∀ X : dR, din i n X = X) : o_baload y x nxt rec d L (.inl i :: .inr (.inr (a + 1)) :: st) h = nxt rec d L (.inl (wd 8 ct i) :: st) h := by
  simp only [o_baload, ke_dia, ha, ke_cel, hi, hd, fo_eq]; rfl
theorem k_iastore {a i n ct v : Nat} {h2 : dH} (ha : hat h a = some (0, n, ct)) (hi : i % 4294967296 = i) (hd : ∀ X : dR, din i n X = X) (hs : hset h a (0, n, wst 32 ct i (Nat.mod v 4294967296)) (fun h' => nxt rec d L st h') none = nxt rec d L st h2) : o_iastore y x nxt rec d L (.inl v :: .inl i :: .inr (.inr (a + 1)) :: st) h = nxt rec d L st h2 := by
  simp only [o_iastore, ke_diia, ha, ke_cel, hi, hd, fo_eq]; exact hs
theorem k_lastore {a i n ct v : Nat} {h2 : dH} (ha : hat h a = some (1, n, ct)) (hi : i % 4294967296 = i) (hd : ∀ X : dR, din i n X = X) (hs : hset h a (1, n, wst 64 ct i (Nat.mod v 18446744073709551616)) (fun h' => nxt rec d L st h') none = nxt rec d L st h2) : o_lastore y x nxt rec d L (.inr (.inl v) :: .inl i :: .inr (.inr (a + 1)) :: st) h = nxt rec d L st h2 := by
  simp only [o_lastore, ke_dlia, ha, ke_cel, hi, hd, fo_eq]; exact hs
theorem k_bastore2 {a i n ct v : Nat} {h2 : dH} (ha : hat h a = some (2, n, ct)) (hi : i % 4294967296 = i) (hd : ∀ X : dR, din i n X = X) (hs : hset h a (2, n, wst 8 ct i (Nat.mod v 256)) (fun h' => nxt rec d L st h') none = nxt rec d L st h2) : o_bastore y x nxt rec d L (.inl v :: .inl i :: .inr (.inr (a + 1)) :: st) h = nxt rec d L st h2 := by
  simp only [o_bastore, ke_diia, ha, ke_cel, hi, hd, fo_eq]; exact hs
theorem k_bastore3 {a i n ct v : Nat} {h2 : dH} (ha : hat h a = some (3, n, ct)) (hi : i % 4294967296 = i) (hd : ∀ X : dR, din i n X = X) (hs : hset h a (3, n, wst 8 ct i (Nat.mod v 2)) (fun h' => nxt rec d L st h') none = nxt rec d L st h2) : o_bastore y x nxt rec d L (.inl v :: .inl i :: .inr (.inr (a + 1)) :: st) h = nxt rec d L st h2 := by
  simp only [o_bastore, ke_diia, ha, ke_cel, hi, hd, fo_eq]; exact hs
theorem k_mm {f : Nat → Nat → Nat} {a b : Nat} (h1 : Nat.ble 1 d = true) (h2 : Nat.ble (dcat st) 8 = true) : o_mm f y x nxt rec d L (.inl b :: .inl a :: st) h = nxt rec d L (.inl (f a b) :: st) h := by simp only [o_mm, ke_d2, h1, h2, cond_true, fo_eq]
theorem k_static {as r : List dV} (hp : ∀ k2 : List dV → List dV → dR, dpop (Nat.mod (Nat.div x 16) 16) st [] k2 = k2 as r) (hd : Nat.ble (dcat r) 8 = true) : o_static y x nxt rec d L st h = dcall rec d x as h fun v h' => cond (dthr v) none (dgo nxt rec d L r v h') := by simp only [o_static, hp, hd, cond_true]
theorem k_virtual {as r : List dV} {a kd n ct : Nat} (hp : ∀ k2 : List dV → List dV → dR, dpop (Nat.mod (Nat.div x 16) 16) st [] k2 = k2 as (.inr (.inr (a + 1)) :: r)) (ha : hat h a = some (kd, n, ct)) (hk : Nat.beq kd (Nat.add (Nat.mod x 16) 4) = true) (hd : Nat.ble (dcat r) 8 = true) : o_virtual y x nxt rec d L st h = dcall rec d x (.inr (.inr (a + 1)) :: as) h fun v h' => cond (dthr v) (some (v, h')) (dgo nxt rec d L r v h') := by simp only [o_virtual, hp, ke_d1a, ha, ke_cel, hk, hd, cond_true]
theorem k_special {as r : List dV} {a : Nat} (hp : ∀ k2 : List dV → List dV → dR, dpop (Nat.mod (Nat.div x 16) 16) st [] k2 = k2 as (.inr (.inr (a + 1)) :: r)) (hd : Nat.ble (dcat r) 8 = true) : o_special y x nxt rec d L st h = dcall rec d x (.inr (.inr (a + 1)) :: as) h fun v h' => cond (dthr v) none (dgo nxt rec d L r v h') := by simp only [o_special, hp, ke_d1a, hd, cond_true]
theorem k_ireturn {v : Nat} (e : Nat.beq x 1 = true ∨ v < 2) : o_ireturn y x nxt rec d L [.inl v] h = some (some (.inl v), h) := by
  show cond (Nat.beq x 1) (some (some (.inl v : dV), h) : dR) (cond (Nat.ble (Nat.mod v 4294967296) 1) (some (some (.inl v : dV), h) : dR) none) = _
  rcases e with e | e
  · rw [e]; rfl
  · rw [show Nat.mod v 4294967296 = v from Nat.mod_eq_of_lt (by omega), show Nat.ble v 1 = true from Nat.ble_eq_true_of_le (by omega)]
    cases Nat.beq x 1 <;> rfl
end S
end
section
/-! ===== an instruction, with sums for numbers ===== -/
theorem kw_obj {kd c : Nat} (h : kd = Nat.add c 4) : kw kd = 64 := by
  subst h
  show kw (c + 4) = 64
  rfl
theorem dI2b_lt {x : Nat} (h : x < 128) : dI2b x = x := by
  show cond (Nat.blt (x % 256) 128) (x % 256) _ = x
  rw [Nat.mod_eq_of_lt (show x < 256 by omega), di_blt.mpr h]; rfl
theorem dI2l_lt {x : Nat} (h : x < 2147483648) : dI2l x = x := by
  show cond (Nat.blt (x % 4294967296) 2147483648) (x % 4294967296) _ = x
  rw [Nat.mod_eq_of_lt (show x < 4294967296 by omega), di_blt.mpr h]; rfl
theorem scs_s (ρ : Nat → Nat) {a : sN} {y : Nat → sR} {lv : List sLf} (h : scs a none y = some lv) : sden ρ a = a.1 ∧ y a.1 = some lv := by
  rcases scs_spec ρ a none y with ⟨e, e2, -⟩ | e
  · rw [e] at h; exact ⟨e2, h⟩
  · rw [e] at h; cases h
/-- a content that is known -/
noncomputable def sKc (X : sX) (k : Nat → sR) : sR := Sum.rec (motive := fun _ => sR) k (fun _ => none) X
theorem sKc_s {X : sX} {k : Nat → sR} {lv : List sLf} (h : sKc X k = some lv) : ∃ c, X = .inl c ∧ k c = some lv := by
  cases X with
  | inl c => exact ⟨c, rfl, h⟩
  | inr O => cases h
theorem k_acopy {rec : dRec} {nxt : dCode} {y x d : Nat} {L : dL} {st : List dV} {h h2 : dH} {a1 a2 xn xd xs n1 n2 ct1 ct2 : Nat} (hc1 : hat h a1 = some (2, n1, ct1)) (hc2 : hat h a2 = some (2, n2, ct2)) (s3 : xn < 2147483648) (s1 : xs < 2147483648) (s2 : xd < 2147483648) (g1 : xs + xn ≤ n1) (g2 : xd + xn ≤ n2) (hd : 1 ≤ d) (hcat : dcat st ≤ 8) (hs : hset h a2 (2, n2, dcp ct1 ct2 xs xd xn) (fun h' => nxt rec d L st h') none = nxt rec d L st h2) : o_acopy y x nxt rec d L (.inl xn :: .inl xd :: .inr (.inr (a2 + 1)) :: .inl xs :: .inr (.inr (a1 + 1)) :: st) h = nxt rec d L st h2 := by
  have e1 : xn % 4294967296 = xn := Nat.mod_eq_of_lt (by omega)
  have e2 : xd % 4294967296 = xd := Nat.mod_eq_of_lt (by omega)
  have e3 : xs % 4294967296 = xs := Nat.mod_eq_of_lt (by omega)
  have e4 : Nat.mod xn 4294967296 = xn := e1
  have hg : (Nat.beq 2 2 && (Nat.beq 2 2 && (Nat.blt xn 2147483648 && (Nat.blt xs 2147483648 && (Nat.blt xd 2147483648 && (Nat.ble (Nat.add xs xn) n1 && (Nat.ble (Nat.add xd xn) n2 && (Nat.ble 1 d && Nat.ble (dcat st) 8)))))))) = true := by
    simp only [Bool.and_eq_true, Nat.beq_eq, Nat.blt_eq, Nat.ble_eq]
    exact ⟨trivial, trivial, s3, s1, s2, g1, g2, hd, hcat⟩
  simp only [o_acopy, ke_pop, ke_vI, ke_dia, hc1, hc2, ke_cel, e2, e3, e4, hg, cond_true, fo_eq]
  exact hs
/-- the text of a constant -/
noncomputable def sstr (a : Nat) (k : Nat → Nat → sR) : sR := cond (Nat.beq (dT0 + a % 1048576) a) (sO (nth dStr (a % 1048576)) fun z => k z.1 z.2) none
theorem sstr_s {a : Nat} {k : Nat → Nat → sR} {lv : List sLf} (h : sstr a k = some lv) : ∃ n ct, (∀ k2 : Nat → Nat → dR, dstr a k2 = k2 n ct) ∧ k n ct = some lv := by
  obtain ⟨h1, h2⟩ := scd_t h
  obtain ⟨z, h3, h4⟩ := sO_s h2
  refine ⟨z.1, z.2, fun k2 => ?_, h4⟩
  show cond (Nat.beq (dT0 + a % 1048576) a) (opt (nth dStr (a % 1048576)) _) none = _
  rw [h1, h3]; rfl
theorem k_strlen {rec : dRec} {nxt : dCode} {y x d : Nat} {L : dL} {st : List dV} {h : dH} {a n ct : Nat} (hs : ∀ k2 : Nat → Nat → dR, dstr a k2 = k2 n ct) (h1 : Nat.ble 4 d = true) (h2 : Nat.ble (dcat st) 8 = true) : o_strlen y x nxt rec d L (.inr (.inr (a + 1)) :: st) h = nxt rec d L (.inl n :: st) h := by simp only [o_strlen, ke_d1a, hs, h1, h2, cond_true]
theorem k_charAt {rec : dRec} {nxt : dCode} {y x d : Nat} {L : dL} {st : List dV} {h : dH} {a n ct i : Nat} (hs : ∀ k2 : Nat → Nat → dR, dstr a k2 = k2 n ct) (hi : i % 4294967296 = i) (hin : Nat.blt i n = true) (h1 : Nat.ble 4 d = true) (h2 : Nat.ble (dcat st) 8 = true) : o_charAt y x nxt rec d L (.inl i :: .inr (.inr (a + 1)) :: st) h = nxt rec d L (.inl (wd 8 ct i) :: st) h := by simp only [o_charAt, ke_dia, hi, hs, hin, h1, h2, cond_true, fo_eq]
theorem k_mml {rec : dRec} {nxt : dCode} {y x d : Nat} {L : dL} {st : List dV} {h : dH} {f : Nat → Nat → Nat} {a b : Nat} (h1 : Nat.ble 1 d = true) (h2 : Nat.ble (dcat st) 8 = true) : o_mml f y x nxt rec d L (.inr (.inl b) :: .inr (.inl a) :: st) h = nxt rec d L (.inr (.inl (f a b)) :: st) h := by simp only [o_mml, ke_d2l, h1, h2, cond_true, fo_eq]
/-- operations of which facts may be given -/
def opf (i a b : Nat) : Nat := match i with
  | 0 => dMul a b
  | 1 => dOr a b
  | 2 => dXor a b
  | 3 => dShl a b
  | 4 => dShr a b
  | 7 => dAnd a b
  | 8 => dLMul a b
  | 9 => dLXor a b
  | 10 => dLAnd a b
  | 11 => dLOr a b
  | 12 => dLShl a b
  | 13 => dLUshr a b
  | 14 => a % 256
  | 15 => dI2b a
  | 16 => dL2i a
  | 17 => dAdd a b
  | 18 => dSub a b
  | 19 => dCmp a b
  | 20 => cond (dcd .eq a b) 1 0
  | 21 => cond (dcd .ne a b) 1 0
  | 22 => cond (dcd .lt a b) 1 0
  | 23 => cond (dcd .ge a b) 1 0
  | 24 => cond (dcd .gt a b) 1 0
  | 25 => cond (dcd .le a b) 1 0
  | _ => 0
def cix : ClassFile.Cond → Nat
  | .eq => 20
  | .ne => 21
  | .lt => 22
  | .ge => 23
  | .gt => 24
  | .le => 25
theorem cix_f (c : ClassFile.Cond) (a b : Nat) : opf (cix c) a b = cond (dcd c a b) 1 0 := by cases c <;> rfl
theorem scd_fx {fx : Nat → sN → sN → Option sN} {ρ : Nat → Nat} (hfx : ∀ i a b v, fx i a b = some v → opf i (sden ρ a) (sden ρ b) = sden ρ v) {c : ClassFile.Cond} {a b : sN} {X t e : sR} {k : Bool → sR} {lv : List sLf} (h : X = (sO (fx (cix c) a b) fun v => scs v none fun n => cond (Nat.beq n 1) t (cond (Nat.beq n 0) e none)) ∨ X = k (dcd c (sden ρ a) (sden ρ b))) (hX : X = some lv) (hk : k = fun q => cond q t e := by rfl) : k (dcd c (sden ρ a) (sden ρ b)) = some lv := by
  rcases h with h | h
  · rw [h] at hX
    obtain ⟨v, g1, g2⟩ := sO_s hX
    have g3 := hfx _ _ _ _ g1
    rw [cix_f] at g3
    rcases scs_spec ρ v none (fun n => cond (Nat.beq n 1) t (cond (Nat.beq n 0) e none)) with ⟨q, q2, -⟩ | q
    · rw [q] at g2
      rw [q2] at g3
      rw [hk]
      cases hd : dcd c (sden ρ a) (sden ρ b) with
      | true =>
        rw [hd] at g3
        rw [← g3] at g2
        exact g2
      | false =>
        rw [hd] at g3
        rw [← g3] at g2
        exact g2
    · rw [q] at g2; cases g2
  · rw [← h]; exact hX
theorem sof_s {fx : Nat → sN → sN → Option sN} {ρ : Nat → Nat} {i : Nat} (hfx : ∀ a b v, fx i a b = some v → opf i (sden ρ a) (sden ρ b) = sden ρ v) {a b : sN} {k : sN → sR} {X : sR} {lv : List sLf} {q : Nat} (h : X = sO (fx i a b) k ∨ ∃ v, X = k v ∧ sden ρ v = q) (e : X = some lv) (hq : opf i (sden ρ a) (sden ρ b) = q := by rfl) : ∃ v, k v = some lv ∧ sden ρ v = q := by
  rcases h with h | ⟨v, h1, h2⟩
  · rw [h] at e
    obtain ⟨v, g1, g2⟩ := sO_s e
    exact ⟨v, g2, (hfx a b v g1).symm.trans hq⟩
  · rw [h1] at e
    exact ⟨v, e, h2⟩
theorem dMax_lt (x y : Nat) (hx : x < 2147483648) (hy : y < 2147483648) : dMax x y = cond true (max x y) (min x y) := by
  show cond (dLt x y) y x = max x y
  rw [dlt_eq hx hy]
  by_cases h : x < y
  · rw [decide_eq_true h]; show y = _; omega
  · rw [decide_eq_false h]; show x = _; omega
theorem dMin_lt (x y : Nat) (hx : x < 2147483648) (hy : y < 2147483648) : dMin x y = cond false (max x y) (min x y) := by
  show cond (dLt y x) y x = min x y
  rw [dlt_eq hy hx]
  by_cases h : y < x
  · rw [decide_eq_true h]; show y = _; omega
  · rw [decide_eq_false h]; show x = _; omega
/-- what an instruction does; one word each, so that only that one is laid out -/
abbrev sOp : Type := List (Nat × Nat) → (Nat → sN → sN → Option sN) → (Nat → Option Nat) → Nat → sL → List sV → sH → (sL → List sV → sH → sR) → (Nat → sL → List sV → sR) → (Bool → List sV → List sV → sR) → (Option sV → sR) → sR
noncomputable def q_iconst (x : Nat) : sOp := fun B fx kdo d L st S nx jp cl rt => nx L (.inl (x, []) :: st) S
noncomputable def q_lconst (x : Nat) : sOp := fun B fx kdo d L st S nx jp cl rt => nx L (.inr (.inl (x, [])) :: st) S
noncomputable def q_ldc (x : Nat) : sOp := fun B fx kdo d L st S nx jp cl rt => cond (Nat.blt x 4294967296) (nx L (.inl (x, []) :: st) S) (fo (Nat.succ (Nat.add dT0 (Nat.mod x 1048576))) fun a => nx L (.inr (.inr a) :: st) S)
noncomputable def q_iload_n (x : Nat) : sOp := fun B fx kdo d L st S nx jp cl rt => sO (slk1 L x) fun v => sI v fun a => nx L (.inl a :: st) S
noncomputable def q_lload_n (x : Nat) : sOp := fun B fx kdo d L st S nx jp cl rt => sO (slk1 L x) fun v => sJ v fun a => nx L (.inr (.inl a) :: st) S
noncomputable def q_aload_n (x : Nat) : sOp := fun B fx kdo d L st S nx jp cl rt => sO (slk1 L x) fun v => sA v fun _ => nx L (v :: st) S
noncomputable def q_istore_n (x : Nat) : sOp := fun B fx kdo d L st S nx jp cl rt => t1 st fun a r => fltc (sp1 x) L fun u => nx ((x, .inl a) :: u) r S
noncomputable def q_lstore_n (x : Nat) : sOp := fun B fx kdo d L st S nx jp cl rt => t1l st fun a r => fltc (sp2 x) L fun u => nx ((x, .inr (.inl a)) :: u) r S
noncomputable def q_astore_n (x : Nat) : sOp := fun B fx kdo d L st S nx jp cl rt => t1a st fun a r => fltc (sp1 x) L fun u => nx ((x, .inr (.inr (a + 1))) :: u) r S
noncomputable def q_iinc (x : Nat) : sOp := fun B fx kdo d L st S nx jp cl rt => fo (Nat.div x 4294967296) fun i => fo (Nat.mod x 4294967296) fun c => sO (slk1 L i) fun v => sI v fun a => sadd B 4294967296 a (c, []) none fun w => fltc (sp1 i) L fun u => nx ((i, .inl w) :: u) st S
noncomputable def q_iadd (x : Nat) : sOp := fun B fx kdo d L st S nx jp cl rt => t2 st fun a b r => sadd B 4294967296 a b (sO (fx 17 a b) fun v => nx L (.inl v :: r) S) fun v => nx L (.inl v :: r) S
noncomputable def q_isub (x : Nat) : sOp := fun B fx kdo d L st S nx jp cl rt => t2 st fun a b r => ssub B 4294967296 dSub a b (sO (fx 18 a b) fun v => nx L (.inl v :: r) S) fun v => nx L (.inl v :: r) S
noncomputable def q_imul (x : Nat) : sOp := fun B fx kdo d L st S nx jp cl rt => t2 st fun a b r => sbin dMul a b (sO (fx 0 a b) fun v => nx L (.inl v :: r) S) fun v => nx L (.inl v :: r) S
noncomputable def q_ior (x : Nat) : sOp := fun B fx kdo d L st S nx jp cl rt => t2 st fun a b r => sbin dOr a b (sO (fx 1 a b) fun v => nx L (.inl v :: r) S) fun v => nx L (.inl v :: r) S
noncomputable def q_ixor (x : Nat) : sOp := fun B fx kdo d L st S nx jp cl rt => t2 st fun a b r => sbin dXor a b (sO (fx 2 a b) fun v => nx L (.inl v :: r) S) fun v => nx L (.inl v :: r) S
noncomputable def q_ishl (x : Nat) : sOp := fun B fx kdo d L st S nx jp cl rt => t2 st fun a b r => sbin dShl a b (sO (fx 3 a b) fun v => nx L (.inl v :: r) S) fun v => nx L (.inl v :: r) S
noncomputable def q_ishr (x : Nat) : sOp := fun B fx kdo d L st S nx jp cl rt => t2 st fun a b r => sbin dShr a b (sO (fx 4 a b) fun v => nx L (.inl v :: r) S) fun v => nx L (.inl v :: r) S
noncomputable def q_iand (x : Nat) : sOp := fun B fx kdo d L st S nx jp cl rt => t2 st fun a b r => sand B 4294967296 dAnd a b (sO (fx 7 a b) fun v => nx L (.inl v :: r) S) fun v => nx L (.inl v :: r) S
noncomputable def q_idiv (x : Nat) : sOp := fun B fx kdo d L st S nx jp cl rt => t2 st fun a b r => scs b none fun y => cond (dZ y) none (sbin dDiv a b none fun v => nx L ((.inl v : sV) :: r) S)
noncomputable def q_irem (x : Nat) : sOp := fun B fx kdo d L st S nx jp cl rt => t2 st fun a b r => scs b none fun y => cond (dZ y) none (sbin dRem a b none fun v => nx L ((.inl v : sV) :: r) S)
noncomputable def q_ladd (x : Nat) : sOp := fun B fx kdo d L st S nx jp cl rt => t2l st fun a b r => sadd B 18446744073709551616 a b none fun v => nx L (.inr (.inl v) :: r) S
noncomputable def q_lsub (x : Nat) : sOp := fun B fx kdo d L st S nx jp cl rt => t2l st fun a b r => ssub B 18446744073709551616 dLSub a b none fun v => nx L (.inr (.inl v) :: r) S
noncomputable def q_lmul (x : Nat) : sOp := fun B fx kdo d L st S nx jp cl rt => t2l st fun a b r => sbin dLMul a b (sO (fx 8 a b) fun v => nx L (.inr (.inl v) :: r) S) fun v => nx L (.inr (.inl v) :: r) S
noncomputable def q_lxor (x : Nat) : sOp := fun B fx kdo d L st S nx jp cl rt => t2l st fun a b r => sbin dLXor a b (sO (fx 9 a b) fun v => nx L (.inr (.inl v) :: r) S) fun v => nx L (.inr (.inl v) :: r) S
noncomputable def q_land (x : Nat) : sOp := fun B fx kdo d L st S nx jp cl rt => t2l st fun a b r => sand B 18446744073709551616 dLAnd a b (sO (fx 10 a b) fun v => nx L (.inr (.inl v) :: r) S) fun v => nx L (.inr (.inl v) :: r) S
noncomputable def q_lor (x : Nat) : sOp := fun B fx kdo d L st S nx jp cl rt => t2l st fun a b r => sor B 18446744073709551616 dLOr a b (sO (fx 11 a b) fun v => nx L (.inr (.inl v) :: r) S) fun v => nx L (.inr (.inl v) :: r) S
noncomputable def q_lshl (x : Nat) : sOp := fun B fx kdo d L st S nx jp cl rt => til st fun a b r => sbin dLShl a b (sO (fx 12 a b) fun v => nx L (.inr (.inl v) :: r) S) fun v => nx L (.inr (.inl v) :: r) S
noncomputable def q_lushr (x : Nat) : sOp := fun B fx kdo d L st S nx jp cl rt => til st fun a b r => sbin dLUshr a b (sO (fx 13 a b) fun v => nx L (.inr (.inl v) :: r) S) fun v => nx L (.inr (.inl v) :: r) S
noncomputable def q_lcmp (x : Nat) : sOp := fun B fx kdo d L st S nx jp cl rt => t2l st fun a b r => slc B a b (sO (fx 19 a b) fun v => nx L (.inl v :: r) S) fun v => nx L (.inl v :: r) S
noncomputable def q_ineg (x : Nat) : sOp := fun B fx kdo d L st S nx jp cl rt => t1 st fun a r => sun B dNeg 0 a none fun v => nx L (.inl v :: r) S
noncomputable def q_i2b (x : Nat) : sOp := fun B fx kdo d L st S nx jp cl rt => t1 st fun a r => sun B dI2b 128 a (sO (fx 15 a (0, [])) fun v => nx L (.inl v :: r) S) fun v => nx L (.inl v :: r) S
noncomputable def q_i2l (x : Nat) : sOp := fun B fx kdo d L st S nx jp cl rt => t1 st fun a r => sun B dI2l 2147483648 a none fun v => nx L (.inr (.inl v) :: r) S
noncomputable def q_l2i (x : Nat) : sOp := fun B fx kdo d L st S nx jp cl rt => t1l st fun a r => sun B dL2i 4294967296 a (sO (fx 16 a (0, [])) fun v => nx L (.inl v :: r) S) fun v => nx L (.inl v :: r) S
noncomputable def q_ifCond (c : ClassFile.Cond) (x : Nat) : sOp := fun B fx kdo d L st S nx jp cl rt => t1 st fun a r => scd B c a (0, []) (sO (fx (cix c) a (0, [])) fun v => scs v none fun n => cond (Nat.beq n 1) (jp x L r) (cond (Nat.beq n 0) (nx L r S) none)) fun t => cond t (jp x L r) (nx L r S)
noncomputable def q_if_icmp (c : ClassFile.Cond) (x : Nat) : sOp := fun B fx kdo d L st S nx jp cl rt => t2 st fun a b r => scd B c a b (sO (fx (cix c) a b) fun v => scs v none fun n => cond (Nat.beq n 1) (jp x L r) (cond (Nat.beq n 0) (nx L r S) none)) fun t => cond t (jp x L r) (nx L r S)
noncomputable def q_goto (x : Nat) : sOp := fun B fx kdo d L st S nx jp cl rt => jp x L st
noncomputable def q_tableswitch (x : Nat) : sOp := fun B fx kdo d L st S nx jp cl rt => t1 st fun a r => scs a none fun a => fo (dSub a (Nat.mod x 4294967296)) fun j => fo (Nat.shiftRight x 32) fun w => cond (Nat.blt j (wq 16 w 0)) (fo (wq 16 w (Nat.succ (Nat.succ j))) fun t => jp t L r) (fo (wq 16 w 1) fun t => jp t L r)
noncomputable def q_lookupswitch (x : Nat) : sOp := fun B fx kdo d L st S nx jp cl rt => t1 st fun a r => scs a none fun a => fo (Nat.mod a 4294967296) fun a => fo (Nat.shiftRight x 32) fun w => fo (dlsw w a (wq 16 x 1) (wq 16 x 0) 0) fun t => jp t L r
noncomputable def q_dup (x : Nat) : sOp := fun B fx kdo d L st S nx jp cl rt => sP st fun v r => cond (sisl v) none (nx L (v :: v :: r) S)
noncomputable def q_pop (x : Nat) : sOp := fun B fx kdo d L st S nx jp cl rt => sP st fun v r => cond (sisl v) none (nx L r S)
noncomputable def q_dup2 (x : Nat) : sOp := fun B fx kdo d L st S nx jp cl rt => sP st fun v r => cond (sisl v) (nx L (v :: v :: r) S) (sP r fun w r2 => cond (sisl w) none (nx L (v :: w :: v :: w :: r2) S))
noncomputable def q_getfield (x : Nat) : sOp := fun B fx kdo d L st S nx jp cl rt => t1a st fun a r => slk S a none fun kd n X => cond (Nat.beq kd (Nat.add (Nat.div x 1024) 4)) (fo (Nat.mod (Nat.div x 4) 256) fun i => srd B 64 X (i, []) none fun w => sfv (Nat.mod x 4) w fun v => nx L (v :: r) S) none
noncomputable def q_putfield (x : Nat) : sOp := fun B fx kdo d L st S nx jp cl rt => sP st fun v st1 => t1a st1 fun a r => slk S a none fun kd n X => cond (Nat.beq kd (Nat.add (Nat.div x 1024) 4)) (sfe B (Nat.mod x 4) v fun w => fo (Nat.mod (Nat.div x 4) 256) fun i => swr B 64 X (i, []) w none fun X2 => sst a (kd, n, X2) S fun S2 => nx L r S2) none
noncomputable def q_arraylength (x : Nat) : sOp := fun B fx kdo d L st S nx jp cl rt => t1a st fun a r => slk S a none fun kd n _ => cond (Nat.blt kd 4) (nx L (.inl (n, []) :: r) S) none
noncomputable def q_iaload (x : Nat) : sOp := fun B fx kdo d L st S nx jp cl rt => tia st fun a i r => slk S a none fun kd n X => cond (Nat.beq kd 0) (sin B i n (srd B 32 X i none fun w => nx L (.inl w :: r) S)) none
noncomputable def q_laload (x : Nat) : sOp := fun B fx kdo d L st S nx jp cl rt => tia st fun a i r => slk S a none fun kd n X => cond (Nat.beq kd 1) (sin B i n (srd B 64 X i none fun w => nx L (.inr (.inl w) :: r) S)) none
noncomputable def q_baload (x : Nat) : sOp := fun B fx kdo d L st S nx jp cl rt => tia st fun a i r => slk S a none fun kd n X => cond (Nat.beq kd 2) (sin B i n (srd B 8 X i none fun w => sun B dI2b 128 w none fun v => nx L (.inl v :: r) S)) (cond (Nat.beq kd 3) (sin B i n (srd B 8 X i none fun w => nx L (.inl w :: r) S)) none)
noncomputable def q_iastore (x : Nat) : sOp := fun B fx kdo d L st S nx jp cl rt => tiia st fun a i v r => slk S a none fun kd n X => cond (Nat.beq kd 0) (sin B i n (sun B (fun x => Nat.mod x 4294967296) 4294967296 v none fun w => swr B 32 X i w none fun X2 => sst a (0, n, X2) S fun S2 => nx L r S2)) none
noncomputable def q_lastore (x : Nat) : sOp := fun B fx kdo d L st S nx jp cl rt => tlia st fun a i v r => slk S a none fun kd n X => cond (Nat.beq kd 1) (sin B i n (sun B (fun x => Nat.mod x 18446744073709551616) 18446744073709551616 v none fun w => swr B 64 X i w none fun X2 => sst a (1, n, X2) S fun S2 => nx L r S2)) none
noncomputable def q_bastore (x : Nat) : sOp := fun B fx kdo d L st S nx jp cl rt => tiia st fun a i v r => slk S a none fun kd n X => cond (Nat.beq kd 2) (sin B i n (sun B (fun x => Nat.mod x 256) 256 v (sO (fx 14 v (0, [])) fun w => swr B 8 X i w none fun X2 => sst a (2, n, X2) S fun S2 => nx L r S2) fun w => swr B 8 X i w none fun X2 => sst a (2, n, X2) S fun S2 => nx L r S2)) (cond (Nat.beq kd 3) (sin B i n (sun B (fun x => Nat.mod x 2) 2 v none fun w => swr B 8 X i w none fun X2 => sst a (3, n, X2) S fun S2 => nx L r S2)) none)
noncomputable def q_invokestatic (x : Nat) : sOp := fun B fx kdo d L st S nx jp cl rt => cond (Nat.ble 1099511627776 x) (cond (Nat.beq x 1099511627777) (t2 st fun a b r => cond (Nat.ble 1 d) (cond (Nat.ble (sdcat r) 8) (smx B dMax true a b fun v => nx L (.inl v :: r) S) none) none) (cond (Nat.beq x 1099511627778) (t2 st fun a b r => cond (Nat.ble 1 d) (cond (Nat.ble (sdcat r) 8) (smx B dMin false a b fun v => nx L (.inl v :: r) S) none) none) (cond (Nat.beq x 1099511627782) (t1 st fun xn r0 => tia r0 fun a2 xd r1 => tia r1 fun a1 xs r => scs xn none fun n => scs xd none fun d0 => scs xs none fun s0 => slk S a1 none fun kd1 n1 X1 => slk S a2 none fun kd2 n2 X2 => sKc X1 fun c1 => sKc X2 fun c2 => cond (Nat.beq kd1 2 && (Nat.beq kd2 2 && (Nat.blt n 2147483648 && (Nat.blt s0 2147483648 && (Nat.blt d0 2147483648 && (Nat.ble (Nat.add s0 n) n1 && (Nat.ble (Nat.add d0 n) n2 && (Nat.ble 1 d && Nat.ble (sdcat r) 8)))))))) (fo (dcp c1 c2 s0 d0 n) fun c => sst a2 (2, n2, .inl c) S fun S2 => nx L r S2) none) (cond (Nat.beq x 1099511627779) (t2l st fun a b r => cond (Nat.ble 1 d) (cond (Nat.ble (sdcat r) 8) (sbin dLMax a b none fun v => nx L (.inr (.inl v) :: r) S) none) none) (cond (Nat.beq x 1099511627780) (t2l st fun a b r => cond (Nat.ble 1 d) (cond (Nat.ble (sdcat r) 8) (sbin dLMin a b none fun v => nx L (.inr (.inl v) :: r) S) none) none) none))))) (spop (Nat.mod (Nat.div x 16) 16) st [] fun as r => cond (Nat.ble (sdcat r) 8) (cl false as r) none)
noncomputable def q_invokevirtual (x : Nat) : sOp := fun B fx kdo d L st S nx jp cl rt => cond (Nat.ble 1099511627776 x) (cond (Nat.ble 2199023255552 x) none (cond (Nat.beq x 1099511627777) (t1a st fun a r => sstr a fun n _ => cond (Nat.ble 4 d) (cond (Nat.ble (sdcat r) 8) (nx L (.inl (n, []) :: r) S) none) none) (cond (Nat.beq x 1099511627778) (tia st fun a i r => scs i none fun i => sstr a fun n ct => cond (Nat.blt i 4294967296) (cond (Nat.blt i n) (cond (Nat.ble 4 d) (cond (Nat.ble (sdcat r) 8) (fo (wd 8 ct i) fun w => nx L (.inl (w, []) :: r) S) none) none) none) none) none))) (spop (Nat.mod (Nat.div x 16) 16) st [] fun as r1 => t1a r1 fun a r => sO (kdo a) fun kd => cond (Nat.beq kd (Nat.add (Nat.mod x 16) 4)) (cond (Nat.ble (sdcat r) 8) (cl true (.inr (.inr (a + 1)) :: as) r) none) none)
noncomputable def q_invokespecial (x : Nat) : sOp := fun B fx kdo d L st S nx jp cl rt => cond (Nat.ble 1099511627776 x) none (spop (Nat.mod (Nat.div x 16) 16) st [] fun as r1 => t1a r1 fun a r => cond (Nat.ble (sdcat r) 8) (cl false (.inr (.inr (a + 1)) :: as) r) none)
noncomputable def q_return_ (x : Nat) : sOp := fun B fx kdo d L st S nx jp cl rt => List.rec (motive := fun _ => sR) (rt none) (fun _ _ _ => none) st
noncomputable def q_ireturn (x : Nat) : sOp := fun B fx kdo d L st S nx jp cl rt => t1 st fun v r => List.rec (motive := fun _ => sR) (cond (Nat.beq x 1) (rt (some (.inl v))) (sbel B 2 v none (rt (some (.inl v))))) (fun _ _ _ => none) r
noncomputable def q_lreturn (x : Nat) : sOp := fun B fx kdo d L st S nx jp cl rt => t1l st fun v r => List.rec (motive := fun _ => sR) (rt (some (.inr (.inl v)))) (fun _ _ _ => none) r
noncomputable def q_none : sOp := fun _ _ _ _ _ _ _ _ _ _ _ => none
noncomputable def sopO (ins : Instr) (x : Nat) : sOp := match ins with
  | .iconst _ => q_iconst x
  | .bipush _ => q_iconst x
  | .sipush _ => q_iconst x
  | .lconst _ => q_lconst x
  | .ldc2_w _ => q_lconst x
  | .ldc _ => q_ldc x
  | .ldc_w _ => q_ldc x
  | .iload_n _ => q_iload_n x
  | .iload _ => q_iload_n x
  | .lload_n _ => q_lload_n x
  | .lload _ => q_lload_n x
  | .aload_n _ => q_aload_n x
  | .aload _ => q_aload_n x
  | .istore_n _ => q_istore_n x
  | .istore _ => q_istore_n x
  | .lstore_n _ => q_lstore_n x
  | .lstore _ => q_lstore_n x
  | .astore_n _ => q_astore_n x
  | .astore _ => q_astore_n x
  | .iinc _ _ => q_iinc x
  | .iadd => q_iadd x
  | .isub => q_isub x
  | .imul => q_imul x
  | .ior => q_ior x
  | .ixor => q_ixor x
  | .ishl => q_ishl x
  | .ishr => q_ishr x
  | .iand => q_iand x
  | .idiv => q_idiv x
  | .irem => q_irem x
  | .ladd => q_ladd x
  | .lsub => q_lsub x
  | .lmul => q_lmul x
  | .lxor => q_lxor x
  | .land => q_land x
  | .lor => q_lor x
  | .lshl => q_lshl x
  | .lushr => q_lushr x
  | .lcmp => q_lcmp x
  | .ineg => q_ineg x
  | .i2b => q_i2b x
  | .i2l => q_i2l x
  | .l2i => q_l2i x
  | .ifCond c _ => q_ifCond c x
  | .if_icmp c _ => q_if_icmp c x
  | .goto _ => q_goto x
  | .tableswitch _ _ _ _ => q_tableswitch x
  | .lookupswitch _ _ => q_lookupswitch x
  | .dup => q_dup x
  | .pop => q_pop x
  | .dup2 => q_dup2 x
  | .getfield _ => q_getfield x
  | .putfield _ => q_putfield x
  | .arraylength => q_arraylength x
  | .iaload => q_iaload x
  | .laload => q_laload x
  | .baload => q_baload x
  | .iastore => q_iastore x
  | .lastore => q_lastore x
  | .bastore => q_bastore x
  | .invokestatic _ => q_invokestatic x
  | .invokevirtual _ => q_invokevirtual x
  | .invokespecial _ => q_invokespecial x
  | .return_ => q_return_ x
  | .ireturn => q_ireturn x
  | .lreturn => q_lreturn x
  | _ => q_none
noncomputable def sop (B : List (Nat × Nat)) (fx : Nat → sN → sN → Option sN) (kdo : Nat → Option Nat) (d : Nat) (ins : Instr) (x : Nat) (L : sL) (st : List sV) (S : sH) (nx : sL → List sV → sH → sR) (jp : Nat → sL → List sV → sR) (cl : Bool → List sV → List sV → sR) (rt : Option sV → sR) : sR := sopO ins x B fx kdo d L st S nx jp cl rt
section S
variable {ρ : Nat → Nat} {B : List (Nat × Nat)} {fx : Nat → sN → sN → Option sN} {kdo : Nat → Option Nat} {Op : Nat → Bool} {g : dH} {I : dH → Prop} {T : dR → Prop} {nxt : dCode} {rec : dRec} {y d x : Nat} {ins : Instr} {L : sL} {st : List sV} {S : sH} {h' : dH} {lv : List sLf} {nx : sL → List sV → sH → sR} {jp : Nat → sL → List sV → sR} {cl : Bool → List sV → List sV → sR} {rt : Option sV → sR}
set_option maxHeartbeats 4000000 in
theorem sop_ok (hB : sok ρ B) (hfx : ∀ i a b v, fx i a b = some v → opf i (sden ρ a) (sden ρ b) = sden ρ v) (hIo : ∀ u u2 : dH, (∀ q, Op q = true → hat u2 q = hat u q) → hwf u2 → I u → I u2)
    (hK : ∀ a kd, kdo a = some kd → ∀ S u, ssat ρ Op g S u → I u → ∃ n ct, hat u a = some (kd, n, ct))
    (hS : ssat ρ Op g S h') (hI : I h')
    (hnx : ∀ L2 st2 S2 u, ssat ρ Op g S2 u → I u → nx L2 st2 S2 = some lv → T (nxt rec d (slD ρ L2) (st2.map (svd ρ)) u))
    (hjp : ∀ pc L2 st2, jp pc L2 st2 = some lv → T (rec d y pc (slD ρ L2) (st2.map (svd ρ)) h'))
    (hcl : ∀ fl as r, cl fl as r = some lv → T (dcall rec d x (as.map (svd ρ)) h' fun v u => cond (dthr v) (cond fl (some (v, u)) none) (dgo nxt rec d (slD ρ L) (r.map (svd ρ)) v u)))
    (hrt : ∀ v, rt v = some lv → T (some (v.map (svd ρ), h')))
    (h : sop B fx kdo d ins x L st S nx jp cl rt = some lv) : ∃ o, dop ins x = some o ∧ T (o y x nxt rec d (slD ρ L) (st.map (svd ρ)) h') := by
  unfold sop sopO at h
  split at h
  · change (nx L (.inl (x, []) :: st) S) = some lv at h
    refine ⟨_, rfl, ?_⟩
    exact hnx _ ((.inl (x, []) : sV) :: st) _ _ hS hI h
  · change (nx L (.inl (x, []) :: st) S) = some lv at h
    refine ⟨_, rfl, ?_⟩
    exact hnx _ ((.inl (x, []) : sV) :: st) _ _ hS hI h
  · change (nx L (.inl (x, []) :: st) S) = some lv at h
    refine ⟨_, rfl, ?_⟩
    exact hnx _ ((.inl (x, []) : sV) :: st) _ _ hS hI h
  · change (nx L (.inr (.inl (x, [])) :: st) S) = some lv at h
    refine ⟨_, rfl, ?_⟩
    exact hnx _ ((.inr (.inl (x, [])) : sV) :: st) _ _ hS hI h
  · change (nx L (.inr (.inl (x, [])) :: st) S) = some lv at h
    refine ⟨_, rfl, ?_⟩
    exact hnx _ ((.inr (.inl (x, [])) : sV) :: st) _ _ hS hI h
  · change (cond (Nat.blt x 4294967296) (nx L (.inl (x, []) :: st) S) (fo (Nat.succ (Nat.add dT0 (Nat.mod x 1048576))) fun a => nx L (.inr (.inr a) :: st) S)) = some lv at h
    cases h1 : Nat.blt x 4294967296 with
    | true =>
      rw [h1] at h
      refine ⟨o_ldc, by show cond (Nat.blt x 4294967296) _ _ = _; rw [h1]; rfl, ?_⟩
      show T (cond (Nat.blt x 4294967296) _ _)
      rw [h1]
      exact hnx _ ((.inl (x, []) : sV) :: st) _ _ hS hI h
    | false =>
      rw [h1, cond_false, fo_eq] at h
      refine ⟨o_ldt, by show cond (Nat.blt x 4294967296) _ _ = _; rw [h1]; rfl, ?_⟩
      show T (cond (Nat.blt x 4294967296) none _)
      rw [h1]
      exact hnx _ ((.inr (.inr (Nat.succ (Nat.add dT0 (Nat.mod x 1048576)))) : sV) :: st) _ _ hS hI h
  · change (cond (Nat.blt x 4294967296) (nx L (.inl (x, []) :: st) S) (fo (Nat.succ (Nat.add dT0 (Nat.mod x 1048576))) fun a => nx L (.inr (.inr a) :: st) S)) = some lv at h
    cases h1 : Nat.blt x 4294967296 with
    | true =>
      rw [h1] at h
      refine ⟨o_ldc, by show cond (Nat.blt x 4294967296) _ _ = _; rw [h1]; rfl, ?_⟩
      show T (cond (Nat.blt x 4294967296) _ _)
      rw [h1]
      exact hnx _ ((.inl (x, []) : sV) :: st) _ _ hS hI h
    | false =>
      rw [h1, cond_false, fo_eq] at h
      refine ⟨o_ldt, by show cond (Nat.blt x 4294967296) _ _ = _; rw [h1]; rfl, ?_⟩
      show T (cond (Nat.blt x 4294967296) none _)
      rw [h1]
      exact hnx _ ((.inr (.inr (Nat.succ (Nat.add dT0 (Nat.mod x 1048576)))) : sV) :: st) _ _ hS hI h
  · change (sO (slk1 L x) fun v => sI v fun a => nx L (.inl a :: st) S) = some lv at h
    obtain ⟨v, h1, h⟩ := sO_s h
    obtain ⟨a, rfl, h0⟩ := sI_s h
    refine ⟨_, rfl, ?_⟩
    refine Eq.mpr (congrArg T (k_iload (n := sden ρ a) (by rw [slk1_d, h1]; rfl))) ?_
    exact hnx _ ((.inl a : sV) :: st) _ _ hS hI h0
  · change (sO (slk1 L x) fun v => sI v fun a => nx L (.inl a :: st) S) = some lv at h
    obtain ⟨v, h1, h⟩ := sO_s h
    obtain ⟨a, rfl, h0⟩ := sI_s h
    refine ⟨_, rfl, ?_⟩
    refine Eq.mpr (congrArg T (k_iload (n := sden ρ a) (by rw [slk1_d, h1]; rfl))) ?_
    exact hnx _ ((.inl a : sV) :: st) _ _ hS hI h0
  · change (sO (slk1 L x) fun v => sJ v fun a => nx L (.inr (.inl a) :: st) S) = some lv at h
    obtain ⟨v, h1, h⟩ := sO_s h
    obtain ⟨a, rfl, h0⟩ := sJ_s h
    refine ⟨_, rfl, ?_⟩
    refine Eq.mpr (congrArg T (k_lload (n := sden ρ a) (by rw [slk1_d, h1]; rfl))) ?_
    exact hnx _ ((.inr (.inl a) : sV) :: st) _ _ hS hI h0
  · change (sO (slk1 L x) fun v => sJ v fun a => nx L (.inr (.inl a) :: st) S) = some lv at h
    obtain ⟨v, h1, h⟩ := sO_s h
    obtain ⟨a, rfl, h0⟩ := sJ_s h
    refine ⟨_, rfl, ?_⟩
    refine Eq.mpr (congrArg T (k_lload (n := sden ρ a) (by rw [slk1_d, h1]; rfl))) ?_
    exact hnx _ ((.inr (.inl a) : sV) :: st) _ _ hS hI h0
  · change (sO (slk1 L x) fun v => sA v fun _ => nx L (v :: st) S) = some lv at h
    obtain ⟨v, h1, h⟩ := sO_s h
    obtain ⟨a, rfl, h0⟩ := sA_s h
    refine ⟨_, rfl, ?_⟩
    refine Eq.mpr (congrArg T (k_aload (n := a) (by rw [slk1_d, h1]; rfl))) ?_
    exact hnx _ ((.inr (.inr (a + 1)) : sV) :: st) _ _ hS hI h0
  · change (sO (slk1 L x) fun v => sA v fun _ => nx L (v :: st) S) = some lv at h
    obtain ⟨v, h1, h⟩ := sO_s h
    obtain ⟨a, rfl, h0⟩ := sA_s h
    refine ⟨_, rfl, ?_⟩
    refine Eq.mpr (congrArg T (k_aload (n := a) (by rw [slk1_d, h1]; rfl))) ?_
    exact hnx _ ((.inr (.inr (a + 1)) : sV) :: st) _ _ hS hI h0
  · change (t1 st fun a r => fltc (sp1 x) L fun u => nx ((x, .inl a) :: u) r S) = some lv at h
    obtain ⟨a, r, rfl, h0⟩ := t1_s h
    rw [sy_flt] at h0
    refine ⟨_, rfl, ?_⟩
    refine Eq.mpr (congrArg T (k_istore (v := sden ρ a) (st := r.map (svd ρ)))) ?_
    rw [sy_f1]
    exact hnx ((x, .inl a) :: L.filter (sp1 x)) _ _ _ hS hI h0
  · change (t1 st fun a r => fltc (sp1 x) L fun u => nx ((x, .inl a) :: u) r S) = some lv at h
    obtain ⟨a, r, rfl, h0⟩ := t1_s h
    rw [sy_flt] at h0
    refine ⟨_, rfl, ?_⟩
    refine Eq.mpr (congrArg T (k_istore (v := sden ρ a) (st := r.map (svd ρ)))) ?_
    rw [sy_f1]
    exact hnx ((x, .inl a) :: L.filter (sp1 x)) _ _ _ hS hI h0
  · change (t1l st fun a r => fltc (sp2 x) L fun u => nx ((x, .inr (.inl a)) :: u) r S) = some lv at h
    obtain ⟨a, r, rfl, h0⟩ := t1l_s h
    rw [sy_flt] at h0
    refine ⟨_, rfl, ?_⟩
    refine Eq.mpr (congrArg T (k_lstore (v := sden ρ a) (st := r.map (svd ρ)))) ?_
    rw [sy_f2]
    exact hnx ((x, .inr (.inl a)) :: L.filter (sp2 x)) _ _ _ hS hI h0
  · change (t1l st fun a r => fltc (sp2 x) L fun u => nx ((x, .inr (.inl a)) :: u) r S) = some lv at h
    obtain ⟨a, r, rfl, h0⟩ := t1l_s h
    rw [sy_flt] at h0
    refine ⟨_, rfl, ?_⟩
    refine Eq.mpr (congrArg T (k_lstore (v := sden ρ a) (st := r.map (svd ρ)))) ?_
    rw [sy_f2]
    exact hnx ((x, .inr (.inl a)) :: L.filter (sp2 x)) _ _ _ hS hI h0
  · change (t1a st fun a r => fltc (sp1 x) L fun u => nx ((x, .inr (.inr (a + 1))) :: u) r S) = some lv at h
    obtain ⟨a, r, rfl, h0⟩ := t1a_s h
    rw [sy_flt] at h0
    refine ⟨_, rfl, ?_⟩
    refine Eq.mpr (congrArg T (k_astore (v := a) (st := r.map (svd ρ)))) ?_
    rw [sy_f1]
    exact hnx ((x, .inr (.inr (a + 1))) :: L.filter (sp1 x)) _ _ _ hS hI h0
  · change (t1a st fun a r => fltc (sp1 x) L fun u => nx ((x, .inr (.inr (a + 1))) :: u) r S) = some lv at h
    obtain ⟨a, r, rfl, h0⟩ := t1a_s h
    rw [sy_flt] at h0
    refine ⟨_, rfl, ?_⟩
    refine Eq.mpr (congrArg T (k_astore (v := a) (st := r.map (svd ρ)))) ?_
    rw [sy_f1]
    exact hnx ((x, .inr (.inr (a + 1))) :: L.filter (sp1 x)) _ _ _ hS hI h0
  · change (fo (Nat.div x 4294967296) fun i => fo (Nat.mod x 4294967296) fun c => sO (slk1 L i) fun v => sI v fun a => sadd B 4294967296 a (c, []) none fun w => fltc (sp1 i) L fun u => nx ((i, .inl w) :: u) st S) = some lv at h
    rw [fo_eq, fo_eq] at h
    obtain ⟨v, h1, h⟩ := sO_s h
    obtain ⟨a, rfl, h0⟩ := sI_s h
    obtain ⟨w, h2, h3⟩ := sor_s (sadd_spec hB _ (by decide) a (Nat.mod x 4294967296, []) none _) h0
    rw [h2, sy_flt] at h0
    refine ⟨_, rfl, ?_⟩
    refine Eq.mpr (congrArg T (k_iinc (n := sden ρ a) (by rw [slk1_d, h1]; rfl))) ?_
    rw [sy_f1, show dAdd (sden ρ a) (Nat.mod x 4294967296) = sden ρ w from h3.symm]
    exact hnx ((Nat.div x 4294967296, .inl w) :: L.filter (sp1 (Nat.div x 4294967296))) _ _ _ hS hI h0
  · change (t2 st fun a b r => sadd B 4294967296 a b (sO (fx 17 a b) fun v => nx L (.inl v :: r) S) fun v => nx L (.inl v :: r) S) = some lv at h
    obtain ⟨a, b, r, rfl, h0⟩ := t2_s h
    obtain ⟨v, h0, h3⟩ := sof_s (hfx 17) (sadd_spec hB _ (by decide) a b _ _) h0
    refine ⟨_, rfl, ?_⟩
    refine Eq.mpr (congrArg T (k_bin (a := sden ρ a) (b := sden ρ b) (st := r.map (svd ρ)))) ?_
    rw [show dAdd (sden ρ a) (sden ρ b) = sden ρ v from h3.symm]
    exact hnx _ ((.inl v : sV) :: r) _ _ hS hI h0
  · change (t2 st fun a b r => ssub B 4294967296 dSub a b (sO (fx 18 a b) fun v => nx L (.inl v :: r) S) fun v => nx L (.inl v :: r) S) = some lv at h
    obtain ⟨a, b, r, rfl, h0⟩ := t2_s h
    obtain ⟨v, h0, h3⟩ := sof_s (hfx 18) (ssub_spec hB _ (by decide) dSub (fun _ _ => rfl) a b _ _) h0
    refine ⟨_, rfl, ?_⟩
    refine Eq.mpr (congrArg T (k_bin (a := sden ρ a) (b := sden ρ b) (st := r.map (svd ρ)))) ?_
    rw [show dSub (sden ρ a) (sden ρ b) = sden ρ v from h3.symm]
    exact hnx _ ((.inl v : sV) :: r) _ _ hS hI h0
  · change (t2 st fun a b r => sbin dMul a b (sO (fx 0 a b) fun v => nx L (.inl v :: r) S) fun v => nx L (.inl v :: r) S) = some lv at h
    obtain ⟨a, b, r, rfl, h0⟩ := t2_s h
    obtain ⟨v, h0, h3⟩ := sof_s (hfx 0) (sbin_spec ρ dMul a b _ _) h0
    refine ⟨_, rfl, ?_⟩
    refine Eq.mpr (congrArg T (k_bin (a := sden ρ a) (b := sden ρ b) (st := r.map (svd ρ)))) ?_
    rw [show dMul (sden ρ a) (sden ρ b) = sden ρ v from h3.symm]
    exact hnx _ ((.inl v : sV) :: r) _ _ hS hI h0
  · change (t2 st fun a b r => sbin dOr a b (sO (fx 1 a b) fun v => nx L (.inl v :: r) S) fun v => nx L (.inl v :: r) S) = some lv at h
    obtain ⟨a, b, r, rfl, h0⟩ := t2_s h
    obtain ⟨v, h0, h3⟩ := sof_s (hfx 1) (sbin_spec ρ dOr a b _ _) h0
    refine ⟨_, rfl, ?_⟩
    refine Eq.mpr (congrArg T (k_bin (a := sden ρ a) (b := sden ρ b) (st := r.map (svd ρ)))) ?_
    rw [show dOr (sden ρ a) (sden ρ b) = sden ρ v from h3.symm]
    exact hnx _ ((.inl v : sV) :: r) _ _ hS hI h0
  · change (t2 st fun a b r => sbin dXor a b (sO (fx 2 a b) fun v => nx L (.inl v :: r) S) fun v => nx L (.inl v :: r) S) = some lv at h
    obtain ⟨a, b, r, rfl, h0⟩ := t2_s h
    obtain ⟨v, h0, h3⟩ := sof_s (hfx 2) (sbin_spec ρ dXor a b _ _) h0
    refine ⟨_, rfl, ?_⟩
    refine Eq.mpr (congrArg T (k_bin (a := sden ρ a) (b := sden ρ b) (st := r.map (svd ρ)))) ?_
    rw [show dXor (sden ρ a) (sden ρ b) = sden ρ v from h3.symm]
    exact hnx _ ((.inl v : sV) :: r) _ _ hS hI h0
  · change (t2 st fun a b r => sbin dShl a b (sO (fx 3 a b) fun v => nx L (.inl v :: r) S) fun v => nx L (.inl v :: r) S) = some lv at h
    obtain ⟨a, b, r, rfl, h0⟩ := t2_s h
    obtain ⟨v, h0, h3⟩ := sof_s (hfx 3) (sbin_spec ρ dShl a b _ _) h0
    refine ⟨_, rfl, ?_⟩
    refine Eq.mpr (congrArg T (k_bin (a := sden ρ a) (b := sden ρ b) (st := r.map (svd ρ)))) ?_
    rw [show dShl (sden ρ a) (sden ρ b) = sden ρ v from h3.symm]
    exact hnx _ ((.inl v : sV) :: r) _ _ hS hI h0
  · change (t2 st fun a b r => sbin dShr a b (sO (fx 4 a b) fun v => nx L (.inl v :: r) S) fun v => nx L (.inl v :: r) S) = some lv at h
    obtain ⟨a, b, r, rfl, h0⟩ := t2_s h
    obtain ⟨v, h0, h3⟩ := sof_s (hfx 4) (sbin_spec ρ dShr a b _ _) h0
    refine ⟨_, rfl, ?_⟩
    refine Eq.mpr (congrArg T (k_bin (a := sden ρ a) (b := sden ρ b) (st := r.map (svd ρ)))) ?_
    rw [show dShr (sden ρ a) (sden ρ b) = sden ρ v from h3.symm]
    exact hnx _ ((.inl v : sV) :: r) _ _ hS hI h0
  · change (t2 st fun a b r => sand B 4294967296 dAnd a b (sO (fx 7 a b) fun v => nx L (.inl v :: r) S) fun v => nx L (.inl v :: r) S) = some lv at h
    obtain ⟨a, b, r, rfl, h0⟩ := t2_s h
    obtain ⟨v, h0, h3⟩ := sof_s (hfx 7) (sand_spec hB _ dAnd (fun _ _ => rfl) a b _ _) h0
    refine ⟨_, rfl, ?_⟩
    refine Eq.mpr (congrArg T (k_bin (a := sden ρ a) (b := sden ρ b) (st := r.map (svd ρ)))) ?_
    rw [show dAnd (sden ρ a) (sden ρ b) = sden ρ v from h3.symm]
    exact hnx _ ((.inl v : sV) :: r) _ _ hS hI h0
  · change (t2 st fun a b r => scs b none fun y => cond (dZ y) none (sbin dDiv a b none fun v => nx L ((.inl v : sV) :: r) S)) = some lv at h
    obtain ⟨a, b, r, rfl, h0⟩ := t2_s h
    rcases scs_spec ρ b none (fun y => cond (dZ y) none (sbin dDiv a b none fun v => nx L ((.inl v : sV) :: r) S)) with ⟨e, e2, -⟩ | e
    · rw [e] at h0
      cases hz : dZ b.1 with
      | true => rw [hz] at h0; cases h0
      | false =>
        rw [hz] at h0
        have h9 : sbin dDiv a b none (fun v => nx L ((.inl v : sV) :: r) S) = some lv := h0
        obtain ⟨v, h2, h3⟩ := sor_s (sbin_spec ρ dDiv a b none _) h9
        rw [h2] at h9
        refine ⟨_, rfl, ?_⟩
        refine Eq.mpr (congrArg T (k_div (a := sden ρ a) (b := sden ρ b) (st := r.map (svd ρ)) (by rw [e2]; exact hz))) ?_
        rw [show dDiv (sden ρ a) (sden ρ b) = sden ρ v from h3.symm]
        exact hnx _ ((.inl v : sV) :: r) _ _ hS hI h9
    · rw [e] at h0; cases h0
  · change (t2 st fun a b r => scs b none fun y => cond (dZ y) none (sbin dRem a b none fun v => nx L ((.inl v : sV) :: r) S)) = some lv at h
    obtain ⟨a, b, r, rfl, h0⟩ := t2_s h
    rcases scs_spec ρ b none (fun y => cond (dZ y) none (sbin dRem a b none fun v => nx L ((.inl v : sV) :: r) S)) with ⟨e, e2, -⟩ | e
    · rw [e] at h0
      cases hz : dZ b.1 with
      | true => rw [hz] at h0; cases h0
      | false =>
        rw [hz] at h0
        have h9 : sbin dRem a b none (fun v => nx L ((.inl v : sV) :: r) S) = some lv := h0
        obtain ⟨v, h2, h3⟩ := sor_s (sbin_spec ρ dRem a b none _) h9
        rw [h2] at h9
        refine ⟨_, rfl, ?_⟩
        refine Eq.mpr (congrArg T (k_div (a := sden ρ a) (b := sden ρ b) (st := r.map (svd ρ)) (by rw [e2]; exact hz))) ?_
        rw [show dRem (sden ρ a) (sden ρ b) = sden ρ v from h3.symm]
        exact hnx _ ((.inl v : sV) :: r) _ _ hS hI h9
    · rw [e] at h0; cases h0
  · change (t2l st fun a b r => sadd B 18446744073709551616 a b none fun v => nx L (.inr (.inl v) :: r) S) = some lv at h
    obtain ⟨a, b, r, rfl, h0⟩ := t2l_s h
    obtain ⟨v, h2, h3⟩ := sor_s (sadd_spec hB _ (by decide) a b none _) h0
    rw [h2] at h0
    refine ⟨_, rfl, ?_⟩
    refine Eq.mpr (congrArg T (k_binl (a := sden ρ a) (b := sden ρ b) (st := r.map (svd ρ)))) ?_
    rw [show dLAdd (sden ρ a) (sden ρ b) = sden ρ v from h3.symm]
    exact hnx _ ((.inr (.inl v) : sV) :: r) _ _ hS hI h0
  · change (t2l st fun a b r => ssub B 18446744073709551616 dLSub a b none fun v => nx L (.inr (.inl v) :: r) S) = some lv at h
    obtain ⟨a, b, r, rfl, h0⟩ := t2l_s h
    obtain ⟨v, h2, h3⟩ := sor_s (ssub_spec hB _ (by decide) dLSub (fun _ _ => rfl) a b none _) h0
    rw [h2] at h0
    refine ⟨_, rfl, ?_⟩
    refine Eq.mpr (congrArg T (k_binl (a := sden ρ a) (b := sden ρ b) (st := r.map (svd ρ)))) ?_
    rw [show dLSub (sden ρ a) (sden ρ b) = sden ρ v from h3.symm]
    exact hnx _ ((.inr (.inl v) : sV) :: r) _ _ hS hI h0
  · change (t2l st fun a b r => sbin dLMul a b (sO (fx 8 a b) fun v => nx L (.inr (.inl v) :: r) S) fun v => nx L (.inr (.inl v) :: r) S) = some lv at h
    obtain ⟨a, b, r, rfl, h0⟩ := t2l_s h
    obtain ⟨v, h0, h3⟩ := sof_s (hfx 8) (sbin_spec ρ dLMul a b _ _) h0
    refine ⟨_, rfl, ?_⟩
    refine Eq.mpr (congrArg T (k_binl (a := sden ρ a) (b := sden ρ b) (st := r.map (svd ρ)))) ?_
    rw [show dLMul (sden ρ a) (sden ρ b) = sden ρ v from h3.symm]
    exact hnx _ ((.inr (.inl v) : sV) :: r) _ _ hS hI h0
  · change (t2l st fun a b r => sbin dLXor a b (sO (fx 9 a b) fun v => nx L (.inr (.inl v) :: r) S) fun v => nx L (.inr (.inl v) :: r) S) = some lv at h
    obtain ⟨a, b, r, rfl, h0⟩ := t2l_s h
    obtain ⟨v, h0, h3⟩ := sof_s (hfx 9) (sbin_spec ρ dLXor a b _ _) h0
    refine ⟨_, rfl, ?_⟩
    refine Eq.mpr (congrArg T (k_binl (a := sden ρ a) (b := sden ρ b) (st := r.map (svd ρ)))) ?_
    rw [show dLXor (sden ρ a) (sden ρ b) = sden ρ v from h3.symm]
    exact hnx _ ((.inr (.inl v) : sV) :: r) _ _ hS hI h0
  · change (t2l st fun a b r => sand B 18446744073709551616 dLAnd a b (sO (fx 10 a b) fun v => nx L (.inr (.inl v) :: r) S) fun v => nx L (.inr (.inl v) :: r) S) = some lv at h
    obtain ⟨a, b, r, rfl, h0⟩ := t2l_s h
    obtain ⟨v, h0, h3⟩ := sof_s (hfx 10) (sand_spec hB _ dLAnd (fun _ _ => rfl) a b _ _) h0
    refine ⟨_, rfl, ?_⟩
    refine Eq.mpr (congrArg T (k_binl (a := sden ρ a) (b := sden ρ b) (st := r.map (svd ρ)))) ?_
    rw [show dLAnd (sden ρ a) (sden ρ b) = sden ρ v from h3.symm]
    exact hnx _ ((.inr (.inl v) : sV) :: r) _ _ hS hI h0
  · change (t2l st fun a b r => sor B 18446744073709551616 dLOr a b (sO (fx 11 a b) fun v => nx L (.inr (.inl v) :: r) S) fun v => nx L (.inr (.inl v) :: r) S) = some lv at h
    obtain ⟨a, b, r, rfl, h0⟩ := t2l_s h
    obtain ⟨v, h0, h3⟩ := sof_s (hfx 11) (sor_spec hB _ dLOr (fun _ _ => rfl) a b _ _) h0
    refine ⟨_, rfl, ?_⟩
    refine Eq.mpr (congrArg T (k_binl (a := sden ρ a) (b := sden ρ b) (st := r.map (svd ρ)))) ?_
    rw [show dLOr (sden ρ a) (sden ρ b) = sden ρ v from h3.symm]
    exact hnx _ ((.inr (.inl v) : sV) :: r) _ _ hS hI h0
  · change (til st fun a b r => sbin dLShl a b (sO (fx 12 a b) fun v => nx L (.inr (.inl v) :: r) S) fun v => nx L (.inr (.inl v) :: r) S) = some lv at h
    obtain ⟨a, b, r, rfl, h0⟩ := til_s h
    obtain ⟨v, h0, h3⟩ := sof_s (hfx 12) (sbin_spec ρ dLShl a b _ _) h0
    refine ⟨_, rfl, ?_⟩
    refine Eq.mpr (congrArg T (k_shl (a := sden ρ a) (b := sden ρ b) (st := r.map (svd ρ)))) ?_
    rw [show dLShl (sden ρ a) (sden ρ b) = sden ρ v from h3.symm]
    exact hnx _ ((.inr (.inl v) : sV) :: r) _ _ hS hI h0
  · change (til st fun a b r => sbin dLUshr a b (sO (fx 13 a b) fun v => nx L (.inr (.inl v) :: r) S) fun v => nx L (.inr (.inl v) :: r) S) = some lv at h
    obtain ⟨a, b, r, rfl, h0⟩ := til_s h
    obtain ⟨v, h0, h3⟩ := sof_s (hfx 13) (sbin_spec ρ dLUshr a b _ _) h0
    refine ⟨_, rfl, ?_⟩
    refine Eq.mpr (congrArg T (k_shl (a := sden ρ a) (b := sden ρ b) (st := r.map (svd ρ)))) ?_
    rw [show dLUshr (sden ρ a) (sden ρ b) = sden ρ v from h3.symm]
    exact hnx _ ((.inr (.inl v) : sV) :: r) _ _ hS hI h0
  · change (t2l st fun a b r => slc B a b (sO (fx 19 a b) fun v => nx L (.inl v :: r) S) fun v => nx L (.inl v :: r) S) = some lv at h
    obtain ⟨a, b, r, rfl, h0⟩ := t2l_s h
    obtain ⟨v, h0, h3⟩ := sof_s (hfx 19) (slc_s hB) h0
    refine ⟨_, rfl, ?_⟩
    refine Eq.mpr (congrArg T (k_lcmp (a := sden ρ a) (b := sden ρ b) (st := r.map (svd ρ)))) ?_
    rw [← h3]
    exact hnx _ ((.inl v : sV) :: r) _ _ hS hI h0
  · change (t1 st fun a r => sun B dNeg 0 a none fun v => nx L (.inl v :: r) S) = some lv at h
    obtain ⟨a, r, rfl, h0⟩ := t1_s h
    obtain ⟨v, h2, h3⟩ := sor_s (sun_spec hB dNeg 0 (fun _ h => absurd h (Nat.not_lt_zero _)) a none _) h0
    rw [h2] at h0
    refine ⟨_, rfl, ?_⟩
    refine Eq.mpr (congrArg T (k_un (a := sden ρ a) (st := r.map (svd ρ)))) ?_
    rw [← h3]
    exact hnx _ ((.inl v : sV) :: r) _ _ hS hI h0
  · change (t1 st fun a r => sun B dI2b 128 a (sO (fx 15 a (0, [])) fun v => nx L (.inl v :: r) S) fun v => nx L (.inl v :: r) S) = some lv at h
    obtain ⟨a, r, rfl, h0⟩ := t1_s h
    obtain ⟨v, h0, h3⟩ := sof_s (hfx 15) (sun_spec hB dI2b 128 (fun _ h => dI2b_lt h) a _ _) h0
    refine ⟨_, rfl, ?_⟩
    refine Eq.mpr (congrArg T (k_un (a := sden ρ a) (st := r.map (svd ρ)))) ?_
    rw [← h3]
    exact hnx _ ((.inl v : sV) :: r) _ _ hS hI h0
  · change (t1 st fun a r => sun B dI2l 2147483648 a none fun v => nx L (.inr (.inl v) :: r) S) = some lv at h
    obtain ⟨a, r, rfl, h0⟩ := t1_s h
    obtain ⟨v, h2, h3⟩ := sor_s (sun_spec hB dI2l 2147483648 (fun _ h => dI2l_lt h) a none _) h0
    rw [h2] at h0
    refine ⟨_, rfl, ?_⟩
    refine Eq.mpr (congrArg T (k_i2l (a := sden ρ a) (st := r.map (svd ρ)))) ?_
    rw [← h3]
    exact hnx _ ((.inr (.inl v) : sV) :: r) _ _ hS hI h0
  · change (t1l st fun a r => sun B dL2i 4294967296 a (sO (fx 16 a (0, [])) fun v => nx L (.inl v :: r) S) fun v => nx L (.inl v :: r) S) = some lv at h
    obtain ⟨a, r, rfl, h0⟩ := t1l_s h
    obtain ⟨v, h0, h3⟩ := sof_s (hfx 16) (sun_spec hB dL2i 4294967296 (fun _ h => Nat.mod_eq_of_lt h) a _ _) h0
    refine ⟨_, rfl, ?_⟩
    refine Eq.mpr (congrArg T (k_l2i (a := sden ρ a) (st := r.map (svd ρ)))) ?_
    rw [← h3]
    exact hnx _ ((.inl v : sV) :: r) _ _ hS hI h0
  · rename_i c _
    change (t1 st fun a r => scd B c a (0, []) (sO (fx (cix c) a (0, [])) fun v => scs v none fun n => cond (Nat.beq n 1) (jp x L r) (cond (Nat.beq n 0) (nx L r S) none)) fun t => cond t (jp x L r) (nx L r S)) = some lv at h
    obtain ⟨a, r, rfl, h0⟩ := t1_s h
    have h0 := scd_fx hfx (scd_spec hB c a (0, []) _ fun t => cond t (jp x L r) (nx L r S)) h0
    refine ⟨_, rfl, ?_⟩
    refine Eq.mpr (congrArg T (k_if (a := sden ρ a) (st := r.map (svd ρ)))) ?_
    have e0 : sden ρ (0, []) = 0 := rfl
    rw [e0] at h0
    cases e : dcd c (sden ρ a) 0 with
    | true => rw [e] at h0; exact hjp _ _ _ h0
    | false => rw [e] at h0; exact hnx _ _ _ _ hS hI h0
  · rename_i c _
    change (t2 st fun a b r => scd B c a b (sO (fx (cix c) a b) fun v => scs v none fun n => cond (Nat.beq n 1) (jp x L r) (cond (Nat.beq n 0) (nx L r S) none)) fun t => cond t (jp x L r) (nx L r S)) = some lv at h
    obtain ⟨a, b, r, rfl, h0⟩ := t2_s h
    have h0 := scd_fx hfx (scd_spec hB c a b _ fun t => cond t (jp x L r) (nx L r S)) h0
    refine ⟨_, rfl, ?_⟩
    refine Eq.mpr (congrArg T (k_icmp (a := sden ρ a) (b := sden ρ b) (st := r.map (svd ρ)))) ?_
    cases e : dcd c (sden ρ a) (sden ρ b) with
    | true => rw [e] at h0; exact hjp _ _ _ h0
    | false => rw [e] at h0; exact hnx _ _ _ _ hS hI h0
  · change (jp x L st) = some lv at h
    exact ⟨_, rfl, hjp _ _ _ h⟩
  · change (t1 st fun a r => scs a none fun a => fo (dSub a (Nat.mod x 4294967296)) fun j => fo (Nat.shiftRight x 32) fun w => cond (Nat.blt j (wq 16 w 0)) (fo (wq 16 w (Nat.succ (Nat.succ j))) fun t => jp t L r) (fo (wq 16 w 1) fun t => jp t L r)) = some lv at h
    obtain ⟨a, r, rfl, h0⟩ := t1_s h
    rcases scs_spec ρ a none (fun a => fo (dSub a (Nat.mod x 4294967296)) fun j => fo (Nat.shiftRight x 32) fun w => cond (Nat.blt j (wq 16 w 0)) (fo (wq 16 w (Nat.succ (Nat.succ j))) fun t => jp t L r) (fo (wq 16 w 1) fun t => jp t L r)) with ⟨e, e2, -⟩ | e
    · rw [e, fo_eq, fo_eq] at h0
      refine ⟨_, rfl, ?_⟩
      refine Eq.mpr (congrArg T (k_tsw (a := sden ρ a) (st := r.map (svd ρ)))) ?_
      rw [e2]
      cases g : Nat.blt (dSub a.1 (Nat.mod x 4294967296)) (wq 16 (Nat.shiftRight x 32) 0) with
      | true => rw [g] at h0; simp only [cond_true, fo_eq] at h0; exact hjp _ _ _ h0
      | false => rw [g] at h0; simp only [cond_false, fo_eq] at h0; exact hjp _ _ _ h0
    · rw [e] at h0; cases h0
  · change (t1 st fun a r => scs a none fun a => fo (Nat.mod a 4294967296) fun a => fo (Nat.shiftRight x 32) fun w => fo (dlsw w a (wq 16 x 1) (wq 16 x 0) 0) fun t => jp t L r) = some lv at h
    obtain ⟨a, r, rfl, h0⟩ := t1_s h
    rcases scs_spec ρ a none (fun a => fo (Nat.mod a 4294967296) fun a => fo (Nat.shiftRight x 32) fun w => fo (dlsw w a (wq 16 x 1) (wq 16 x 0) 0) fun t => jp t L r) with ⟨e, e2, -⟩ | e
    · rw [e] at h0
      simp only [fo_eq] at h0
      refine ⟨_, rfl, ?_⟩
      refine Eq.mpr (congrArg T (k_lsw (a := sden ρ a) (st := r.map (svd ρ)))) ?_
      rw [e2]
      exact hjp _ _ _ h0
    · rw [e] at h0; cases h0
  · change (sP st fun v r => cond (sisl v) none (nx L (v :: v :: r) S)) = some lv at h
    obtain ⟨v, r, rfl, h0⟩ := sP_s h
    refine ⟨_, rfl, ?_⟩
    cases e : sisl v with
    | true => rw [e] at h0; cases h0
    | false =>
      rw [e] at h0
      refine Eq.mpr (congrArg T (k_dup (v := svd ρ v) (st := r.map (svd ρ)) (by rw [sisl_d, e]))) ?_
      exact hnx _ (v :: v :: r) _ _ hS hI h0
  · change (sP st fun v r => cond (sisl v) none (nx L r S)) = some lv at h
    obtain ⟨v, r, rfl, h0⟩ := sP_s h
    refine ⟨_, rfl, ?_⟩
    cases e : sisl v with
    | true => rw [e] at h0; cases h0
    | false =>
      rw [e] at h0
      refine Eq.mpr (congrArg T (k_pop (v := svd ρ v) (st := r.map (svd ρ)) (by rw [sisl_d, e]))) ?_
      exact hnx _ r _ _ hS hI h0
  · change (sP st fun v r => cond (sisl v) (nx L (v :: v :: r) S) (sP r fun w r2 => cond (sisl w) none (nx L (v :: w :: v :: w :: r2) S))) = some lv at h
    obtain ⟨v, r, rfl, h0⟩ := sP_s h
    refine ⟨_, rfl, ?_⟩
    cases e : sisl v with
    | true =>
      rw [e] at h0
      refine Eq.mpr (congrArg T (k_dup2l (v := svd ρ v) (st := r.map (svd ρ)) (by rw [sisl_d, e]))) ?_
      exact hnx _ (v :: v :: r) _ _ hS hI h0
    | false =>
      rw [e] at h0
      obtain ⟨w, r2, rfl, h1⟩ := sP_s (st := r) h0
      cases e2 : sisl w with
      | true => rw [e2] at h1; cases h1
      | false =>
        rw [e2] at h1
        refine Eq.mpr (congrArg T (k_dup2 (v := svd ρ v) (w := svd ρ w) (st := r2.map (svd ρ)) (by rw [sisl_d, e]) (by rw [sisl_d, e2]))) ?_
        exact hnx _ (v :: w :: v :: w :: r2) _ _ hS hI h1
  · change (t1a st fun a r => slk S a none fun kd n X => cond (Nat.beq kd (Nat.add (Nat.div x 1024) 4)) (fo (Nat.mod (Nat.div x 4) 256) fun i => srd B 64 X (i, []) none fun w => sfv (Nat.mod x 4) w fun v => nx L (v :: r) S) none) = some lv at h
    obtain ⟨a, r, rfl, h0⟩ := t1a_s h
    obtain ⟨kd, n, X, hm, h1⟩ := sor_s (slk_spec S a none _) h0
    rw [h1] at h0
    obtain ⟨hk, h0⟩ := scd_t h0
    obtain ⟨ct0, ct, -, hc, hX⟩ := hS.2.2.2.2.2.2 a kd n X hm
    rw [kw_obj (Nat.eq_of_beq_eq_true hk)] at hX
    rw [fo_eq] at h0
    obtain ⟨w, h2, h3⟩ := sor_s (srd_spec hB 64 ct0 ct X hX (Nat.mod (Nat.div x 4) 256, []) none _) h0
    rw [h2] at h0
    obtain ⟨v, h4, h5⟩ := sfv_s ρ h0
    refine ⟨_, rfl, ?_⟩
    refine Eq.mpr (congrArg T (k_getfield (st := r.map (svd ρ)) hc hk)) ?_
    rw [show wd 64 ct (Nat.mod (Nat.div x 4) 256) = sden ρ w from h3.symm, ← h5]
    exact hnx _ (v :: r) _ _ hS hI h4
  · change (sP st fun v st1 => t1a st1 fun a r => slk S a none fun kd n X => cond (Nat.beq kd (Nat.add (Nat.div x 1024) 4)) (sfe B (Nat.mod x 4) v fun w => fo (Nat.mod (Nat.div x 4) 256) fun i => swr B 64 X (i, []) w none fun X2 => sst a (kd, n, X2) S fun S2 => nx L r S2) none) = some lv at h
    obtain ⟨v, st1, rfl, h9⟩ := sP_s h
    obtain ⟨a, r, rfl, h0⟩ := t1a_s (st := st1) h9
    obtain ⟨kd, n, X, hm, h1⟩ := sor_s (slk_spec S a none _) h0
    rw [h1] at h0
    obtain ⟨hk, h0⟩ := scd_t h0
    obtain ⟨ct0, ct, -, hc, hX⟩ := hS.2.2.2.2.2.2 a kd n X hm
    have ek := kw_obj (Nat.eq_of_beq_eq_true hk)
    obtain ⟨w, h0, hw, hfe⟩ := sfe_s hB h0
    rw [fo_eq] at h0
    obtain ⟨X2, h2, hx2⟩ := sor_s (swr_spec hB 64 ct X (Nat.mod (Nat.div x 4) 256, []) w hw none _) h0
    have hX2 : ∀ c0, sct ρ (kw kd) c0 X ct → sct ρ (kw kd) c0 X2 (wst 64 ct (Nat.mod (Nat.div x 4) 256) (sden ρ w)) := by
      intro c0 hc0
      rw [ek] at hc0 ⊢
      exact hx2 c0 hc0
    rw [h2, sst_eq] at h0
    refine ⟨_, rfl, ?_⟩
    obtain ⟨g2, e5, e6, e7, e8, e9⟩ := hset_spec (c := (kd, n, wst 64 ct (Nat.mod (Nat.div x 4) 256) (sden ρ w))) (fun h'' => nxt rec d (slD ρ L) (r.map (svd ρ)) h'') none hS.1 hc
    refine Eq.mpr (congrArg T (k_putfield (st := r.map (svd ρ)) (v := svd ρ v) (w := sden ρ w) hc hk hfe e5)) ?_
    exact hnx _ r _ _ (ssat_set hS hm hX2 hc e6 e7 e8 e9) (hIo h' g2 (fun q hq => by rw [e9, if_neg (fun w => by rw [w, hS.2.2.2.2.1 _ hm] at hq; cases hq)]) e8 hI) h0
  · change (t1a st fun a r => slk S a none fun kd n _ => cond (Nat.blt kd 4) (nx L (.inl (n, []) :: r) S) none) = some lv at h
    obtain ⟨a, r, rfl, h0⟩ := t1a_s h
    obtain ⟨kd, n, X, hm, h1⟩ := sor_s (slk_spec S a none _) h0
    rw [h1] at h0
    obtain ⟨hk, h0⟩ := scd_t h0
    obtain ⟨ct0, ct, -, hc, hX⟩ := hS.2.2.2.2.2.2 a kd n X hm
    refine ⟨_, rfl, ?_⟩
    refine Eq.mpr (congrArg T (k_alen (st := r.map (svd ρ)) hc hk)) ?_
    exact hnx _ ((.inl (n, []) : sV) :: r) _ _ hS hI h0
  · change (tia st fun a i r => slk S a none fun kd n X => cond (Nat.beq kd 0) (sin B i n (srd B 32 X i none fun w => nx L (.inl w :: r) S)) none) = some lv at h
    obtain ⟨a, i, r, rfl, h0⟩ := tia_s h
    obtain ⟨kd, n, X, hm, h1⟩ := sor_s (slk_spec S a none _) h0
    rw [h1] at h0
    obtain ⟨hk, h0⟩ := scd_t h0
    obtain rfl := Nat.eq_of_beq_eq_true hk
    obtain ⟨ct0, ct, -, hc, hX⟩ := hS.2.2.2.2.2.2 a 0 n X hm
    obtain ⟨h0, hi, hdn⟩ := sin_s hB h0
    obtain ⟨w, h2, h3⟩ := sor_s (srd_spec hB 32 ct0 ct X hX i none _) h0
    rw [h2] at h0
    refine ⟨_, rfl, ?_⟩
    refine Eq.mpr (congrArg T (k_iaload (st := r.map (svd ρ)) hc hi hdn)) ?_
    rw [← h3]
    exact hnx _ ((.inl w : sV) :: r) _ _ hS hI h0
  · change (tia st fun a i r => slk S a none fun kd n X => cond (Nat.beq kd 1) (sin B i n (srd B 64 X i none fun w => nx L (.inr (.inl w) :: r) S)) none) = some lv at h
    obtain ⟨a, i, r, rfl, h0⟩ := tia_s h
    obtain ⟨kd, n, X, hm, h1⟩ := sor_s (slk_spec S a none _) h0
    rw [h1] at h0
    obtain ⟨hk, h0⟩ := scd_t h0
    obtain rfl := Nat.eq_of_beq_eq_true hk
    obtain ⟨ct0, ct, -, hc, hX⟩ := hS.2.2.2.2.2.2 a 1 n X hm
    obtain ⟨h0, hi, hdn⟩ := sin_s hB h0
    obtain ⟨w, h2, h3⟩ := sor_s (srd_spec hB 64 ct0 ct X hX i none _) h0
    rw [h2] at h0
    refine ⟨_, rfl, ?_⟩
    refine Eq.mpr (congrArg T (k_laload (st := r.map (svd ρ)) hc hi hdn)) ?_
    rw [← h3]
    exact hnx _ ((.inr (.inl w) : sV) :: r) _ _ hS hI h0
  · change (tia st fun a i r => slk S a none fun kd n X => cond (Nat.beq kd 2) (sin B i n (srd B 8 X i none fun w => sun B dI2b 128 w none fun v => nx L (.inl v :: r) S)) (cond (Nat.beq kd 3) (sin B i n (srd B 8 X i none fun w => nx L (.inl w :: r) S)) none)) = some lv at h
    obtain ⟨a, i, r, rfl, h0⟩ := tia_s h
    obtain ⟨kd, n, X, hm, h1⟩ := sor_s (slk_spec S a none _) h0
    rw [h1] at h0
    obtain ⟨ct0, ct, -, hc, hX⟩ := hS.2.2.2.2.2.2 a kd n X hm
    cases hk : Nat.beq kd 2 with
    | true =>
      rw [hk] at h0
      obtain rfl := Nat.eq_of_beq_eq_true hk
      obtain ⟨h0, hi, hdn⟩ := sin_s hB h0
      obtain ⟨w, h2, h3⟩ := sor_s (srd_spec hB 8 ct0 ct X hX i none _) h0
      rw [h2] at h0
      obtain ⟨v, h4, h5⟩ := sor_s (sun_spec hB dI2b 128 (fun _ h => dI2b_lt h) w none _) h0
      rw [h4] at h0
      refine ⟨_, rfl, ?_⟩
      refine Eq.mpr (congrArg T (k_baload2 (st := r.map (svd ρ)) hc hi hdn)) ?_
      rw [← h3, ← h5]
      exact hnx _ ((.inl v : sV) :: r) _ _ hS hI h0
    | false =>
      rw [hk] at h0
      obtain ⟨hk3, h0⟩ := scd_t h0
      obtain rfl := Nat.eq_of_beq_eq_true hk3
      obtain ⟨h0, hi, hdn⟩ := sin_s hB h0
      obtain ⟨w, h2, h3⟩ := sor_s (srd_spec hB 8 ct0 ct X hX i none _) h0
      rw [h2] at h0
      refine ⟨_, rfl, ?_⟩
      refine Eq.mpr (congrArg T (k_baload3 (st := r.map (svd ρ)) hc hi hdn)) ?_
      rw [← h3]
      exact hnx _ ((.inl w : sV) :: r) _ _ hS hI h0
  · change (tiia st fun a i v r => slk S a none fun kd n X => cond (Nat.beq kd 0) (sin B i n (sun B (fun x => Nat.mod x 4294967296) 4294967296 v none fun w => swr B 32 X i w none fun X2 => sst a (0, n, X2) S fun S2 => nx L r S2)) none) = some lv at h
    obtain ⟨a, i, v, r, rfl, h0⟩ := tiia_s h
    obtain ⟨kd, n, X, hm, h1⟩ := sor_s (slk_spec S a none _) h0
    rw [h1] at h0
    obtain ⟨hk, h0⟩ := scd_t h0
    obtain rfl := Nat.eq_of_beq_eq_true hk
    obtain ⟨ct0, ct, -, hc, hX⟩ := hS.2.2.2.2.2.2 a 0 n X hm
    obtain ⟨h0, hi, hdn⟩ := sin_s hB h0
    obtain ⟨w, h2, h3⟩ := sor_s (sun_spec hB (fun x => Nat.mod x 4294967296) 4294967296 (fun x hx => Nat.mod_eq_of_lt hx) v none _) h0
    rw [h2] at h0
    have hw : sden ρ w < 2 ^ 32 := by rw [h3]; exact Nat.lt_of_lt_of_le (Nat.mod_lt _ (by decide)) (by decide)
    obtain ⟨X2, h4, hx2⟩ := sor_s (swr_spec hB 32 ct X i w hw none _) h0
    have hX2 : ∀ c0, sct ρ (kw 0) c0 X ct → sct ρ (kw 0) c0 X2 (wst 32 ct (sden ρ i) (sden ρ w)) := fun c0 hc0 => hx2 c0 hc0
    rw [h4, sst_eq] at h0
    refine ⟨_, rfl, ?_⟩
    obtain ⟨g2, e5, e6, e7, e8, e9⟩ := hset_spec (c := (0, n, wst 32 ct (sden ρ i) (Nat.mod (sden ρ v) 4294967296))) (fun h'' => nxt rec d (slD ρ L) (r.map (svd ρ)) h'') none hS.1 hc
    refine Eq.mpr (congrArg T (k_iastore (st := r.map (svd ρ)) (v := sden ρ v) hc hi hdn e5)) ?_
    rw [show Nat.mod (sden ρ v) 4294967296 = sden ρ w from h3.symm] at e9
    exact hnx _ r _ _ (ssat_set hS hm hX2 hc e6 e7 e8 e9) (hIo h' g2 (fun q hq => by rw [e9, if_neg (fun w => by rw [w, hS.2.2.2.2.1 _ hm] at hq; cases hq)]) e8 hI) h0
  · change (tlia st fun a i v r => slk S a none fun kd n X => cond (Nat.beq kd 1) (sin B i n (sun B (fun x => Nat.mod x 18446744073709551616) 18446744073709551616 v none fun w => swr B 64 X i w none fun X2 => sst a (1, n, X2) S fun S2 => nx L r S2)) none) = some lv at h
    obtain ⟨a, i, v, r, rfl, h0⟩ := tlia_s h
    obtain ⟨kd, n, X, hm, h1⟩ := sor_s (slk_spec S a none _) h0
    rw [h1] at h0
    obtain ⟨hk, h0⟩ := scd_t h0
    obtain rfl := Nat.eq_of_beq_eq_true hk
    obtain ⟨ct0, ct, -, hc, hX⟩ := hS.2.2.2.2.2.2 a 1 n X hm
    obtain ⟨h0, hi, hdn⟩ := sin_s hB h0
    obtain ⟨w, h2, h3⟩ := sor_s (sun_spec hB (fun x => Nat.mod x 18446744073709551616) 18446744073709551616 (fun x hx => Nat.mod_eq_of_lt hx) v none _) h0
    rw [h2] at h0
    have hw : sden ρ w < 2 ^ 64 := by rw [h3]; exact Nat.lt_of_lt_of_le (Nat.mod_lt _ (by decide)) (by decide)
    obtain ⟨X2, h4, hx2⟩ := sor_s (swr_spec hB 64 ct X i w hw none _) h0
    have hX2 : ∀ c0, sct ρ (kw 1) c0 X ct → sct ρ (kw 1) c0 X2 (wst 64 ct (sden ρ i) (sden ρ w)) := fun c0 hc0 => hx2 c0 hc0
    rw [h4, sst_eq] at h0
    refine ⟨_, rfl, ?_⟩
    obtain ⟨g2, e5, e6, e7, e8, e9⟩ := hset_spec (c := (1, n, wst 64 ct (sden ρ i) (Nat.mod (sden ρ v) 18446744073709551616))) (fun h'' => nxt rec d (slD ρ L) (r.map (svd ρ)) h'') none hS.1 hc
    refine Eq.mpr (congrArg T (k_lastore (st := r.map (svd ρ)) (v := sden ρ v) hc hi hdn e5)) ?_
    rw [show Nat.mod (sden ρ v) 18446744073709551616 = sden ρ w from h3.symm] at e9
    exact hnx _ r _ _ (ssat_set hS hm hX2 hc e6 e7 e8 e9) (hIo h' g2 (fun q hq => by rw [e9, if_neg (fun w => by rw [w, hS.2.2.2.2.1 _ hm] at hq; cases hq)]) e8 hI) h0
  · change (tiia st fun a i v r => slk S a none fun kd n X => cond (Nat.beq kd 2) (sin B i n (sun B (fun x => Nat.mod x 256) 256 v (sO (fx 14 v (0, [])) fun w => swr B 8 X i w none fun X2 => sst a (2, n, X2) S fun S2 => nx L r S2) fun w => swr B 8 X i w none fun X2 => sst a (2, n, X2) S fun S2 => nx L r S2)) (cond (Nat.beq kd 3) (sin B i n (sun B (fun x => Nat.mod x 2) 2 v none fun w => swr B 8 X i w none fun X2 => sst a (3, n, X2) S fun S2 => nx L r S2)) none)) = some lv at h
    obtain ⟨a, i, v, r, rfl, h0⟩ := tiia_s h
    obtain ⟨kd, n, X, hm, h1⟩ := sor_s (slk_spec S a none _) h0
    rw [h1] at h0
    obtain ⟨ct0, ct, -, hc, hX⟩ := hS.2.2.2.2.2.2 a kd n X hm
    cases hk : Nat.beq kd 2 with
    | true =>
      rw [hk] at h0
      obtain rfl := Nat.eq_of_beq_eq_true hk
      obtain ⟨h0, hi, hdn⟩ := sin_s hB h0
      obtain ⟨w, h0, h3⟩ := sof_s (hfx 14) (sun_spec hB (fun x => Nat.mod x 256) 256 (fun x hx => Nat.mod_eq_of_lt hx) v _ _) h0
      have hw : sden ρ w < 2 ^ 8 := by rw [h3]; exact Nat.lt_of_lt_of_le (Nat.mod_lt _ (by decide)) (by decide)
      obtain ⟨X2, h4, hx2⟩ := sor_s (swr_spec hB 8 ct X i w hw none _) h0
      have hX2 : ∀ c0, sct ρ (kw 2) c0 X ct → sct ρ (kw 2) c0 X2 (wst 8 ct (sden ρ i) (sden ρ w)) := fun c0 hc0 => hx2 c0 hc0
      rw [h4, sst_eq] at h0
      refine ⟨_, rfl, ?_⟩
      obtain ⟨g2, e5, e6, e7, e8, e9⟩ := hset_spec (c := (2, n, wst 8 ct (sden ρ i) (Nat.mod (sden ρ v) 256))) (fun h'' => nxt rec d (slD ρ L) (r.map (svd ρ)) h'') none hS.1 hc
      refine Eq.mpr (congrArg T (k_bastore2 (st := r.map (svd ρ)) (v := sden ρ v) hc hi hdn e5)) ?_
      rw [show Nat.mod (sden ρ v) 256 = sden ρ w from h3.symm] at e9
      exact hnx _ r _ _ (ssat_set hS hm hX2 hc e6 e7 e8 e9) (hIo h' g2 (fun q hq => by rw [e9, if_neg (fun w => by rw [w, hS.2.2.2.2.1 _ hm] at hq; cases hq)]) e8 hI) h0
    | false =>
      rw [hk] at h0
      obtain ⟨hk3, h0⟩ := scd_t h0
      obtain rfl := Nat.eq_of_beq_eq_true hk3
      obtain ⟨h0, hi, hdn⟩ := sin_s hB h0
      obtain ⟨w, h2, h3⟩ := sor_s (sun_spec hB (fun x => Nat.mod x 2) 2 (fun x hx => Nat.mod_eq_of_lt hx) v none _) h0
      rw [h2] at h0
      have hw : sden ρ w < 2 ^ 8 := by rw [h3]; exact Nat.lt_of_lt_of_le (Nat.mod_lt _ (by decide)) (by decide)
      obtain ⟨X2, h4, hx2⟩ := sor_s (swr_spec hB 8 ct X i w hw none _) h0
      have hX2 : ∀ c0, sct ρ (kw 3) c0 X ct → sct ρ (kw 3) c0 X2 (wst 8 ct (sden ρ i) (sden ρ w)) := fun c0 hc0 => hx2 c0 hc0
      rw [h4, sst_eq] at h0
      refine ⟨_, rfl, ?_⟩
      obtain ⟨g2, e5, e6, e7, e8, e9⟩ := hset_spec (c := (3, n, wst 8 ct (sden ρ i) (Nat.mod (sden ρ v) 2))) (fun h'' => nxt rec d (slD ρ L) (r.map (svd ρ)) h'') none hS.1 hc
      refine Eq.mpr (congrArg T (k_bastore3 (st := r.map (svd ρ)) (v := sden ρ v) hc hi hdn e5)) ?_
      rw [show Nat.mod (sden ρ v) 2 = sden ρ w from h3.symm] at e9
      exact hnx _ r _ _ (ssat_set hS hm hX2 hc e6 e7 e8 e9) (hIo h' g2 (fun q hq => by rw [e9, if_neg (fun w => by rw [w, hS.2.2.2.2.1 _ hm] at hq; cases hq)]) e8 hI) h0
  · change (cond (Nat.ble 1099511627776 x) (cond (Nat.beq x 1099511627777) (t2 st fun a b r => cond (Nat.ble 1 d) (cond (Nat.ble (sdcat r) 8) (smx B dMax true a b fun v => nx L (.inl v :: r) S) none) none) (cond (Nat.beq x 1099511627778) (t2 st fun a b r => cond (Nat.ble 1 d) (cond (Nat.ble (sdcat r) 8) (smx B dMin false a b fun v => nx L (.inl v :: r) S) none) none) (cond (Nat.beq x 1099511627782) (t1 st fun xn r0 => tia r0 fun a2 xd r1 => tia r1 fun a1 xs r => scs xn none fun n => scs xd none fun d0 => scs xs none fun s0 => slk S a1 none fun kd1 n1 X1 => slk S a2 none fun kd2 n2 X2 => sKc X1 fun c1 => sKc X2 fun c2 => cond (Nat.beq kd1 2 && (Nat.beq kd2 2 && (Nat.blt n 2147483648 && (Nat.blt s0 2147483648 && (Nat.blt d0 2147483648 && (Nat.ble (Nat.add s0 n) n1 && (Nat.ble (Nat.add d0 n) n2 && (Nat.ble 1 d && Nat.ble (sdcat r) 8)))))))) (fo (dcp c1 c2 s0 d0 n) fun c => sst a2 (2, n2, .inl c) S fun S2 => nx L r S2) none) (cond (Nat.beq x 1099511627779) (t2l st fun a b r => cond (Nat.ble 1 d) (cond (Nat.ble (sdcat r) 8) (sbin dLMax a b none fun v => nx L (.inr (.inl v) :: r) S) none) none) (cond (Nat.beq x 1099511627780) (t2l st fun a b r => cond (Nat.ble 1 d) (cond (Nat.ble (sdcat r) 8) (sbin dLMin a b none fun v => nx L (.inr (.inl v) :: r) S) none) none) none))))) (spop (Nat.mod (Nat.div x 16) 16) st [] fun as r => cond (Nat.ble (sdcat r) 8) (cl false as r) none)) = some lv at h
    cases hb : Nat.ble 1099511627776 x with
    | true =>
      rw [hb] at h
      cases h5 : Nat.beq x 1099511627777 with
      | true =>
        rw [h5] at h
        obtain ⟨a, b, r, rfl, h0⟩ := t2_s (st := st) h
        obtain ⟨hd1, h0⟩ := scd_t h0
        obtain ⟨hd2, h0⟩ := scd_t h0
        obtain ⟨v, h0, h3⟩ := smx_s hB dMax_lt h0
        refine ⟨o_mm dMax, by show cond (Nat.ble 1099511627776 x) (dopM x) _ = _; rw [hb]; show cond (Nat.beq x 1099511627777) _ _ = _; rw [h5]; rfl, ?_⟩
        refine Eq.mpr (congrArg T (k_mm (a := sden ρ a) (b := sden ρ b) (st := r.map (svd ρ)) hd1 (by rw [sdcat_d]; exact hd2))) ?_
        rw [← h3]
        exact hnx _ ((.inl v : sV) :: r) _ _ hS hI h0
      | false =>
        rw [h5] at h
        cases h6 : Nat.beq x 1099511627778 with
        | false =>
          rw [h6] at h
          cases h7 : Nat.beq x 1099511627782 with
          | false =>
            rw [h7] at h
            cases h8 : Nat.beq x 1099511627779 with
            | true =>
              rw [h8] at h
              obtain ⟨a, b, r, rfl, h0⟩ := t2l_s (st := st) h
              obtain ⟨hd1, h0⟩ := scd_t h0
              obtain ⟨hd2, h0⟩ := scd_t h0
              obtain ⟨v, q2, h3⟩ := sor_s (sbin_spec ρ dLMax a b none _) h0
              rw [q2] at h0
              have hx7 := Nat.eq_of_beq_eq_true h8
              refine ⟨o_mml dLMax, by show cond (Nat.ble 1099511627776 x) (dopM x) _ = _; rw [hb, hx7]; rfl, ?_⟩
              refine Eq.mpr (congrArg T (k_mml (a := sden ρ a) (b := sden ρ b) (st := r.map (svd ρ)) hd1 (by rw [sdcat_d]; exact hd2))) ?_
              rw [← h3]
              exact hnx _ ((.inr (.inl v) : sV) :: r) _ _ hS hI h0
            | false =>
              rw [h8] at h
              obtain ⟨h9, h⟩ := scd_t h
              obtain ⟨a, b, r, rfl, h0⟩ := t2l_s (st := st) h
              obtain ⟨hd1, h0⟩ := scd_t h0
              obtain ⟨hd2, h0⟩ := scd_t h0
              obtain ⟨v, q2, h3⟩ := sor_s (sbin_spec ρ dLMin a b none _) h0
              rw [q2] at h0
              have hx7 := Nat.eq_of_beq_eq_true h9
              refine ⟨o_mml dLMin, by show cond (Nat.ble 1099511627776 x) (dopM x) _ = _; rw [hb, hx7]; rfl, ?_⟩
              refine Eq.mpr (congrArg T (k_mml (a := sden ρ a) (b := sden ρ b) (st := r.map (svd ρ)) hd1 (by rw [sdcat_d]; exact hd2))) ?_
              rw [← h3]
              exact hnx _ ((.inr (.inl v) : sV) :: r) _ _ hS hI h0
          | true =>
          rw [h7] at h
          have hx7 := Nat.eq_of_beq_eq_true h7
          obtain ⟨xn, r0, rfl, h8⟩ := t1_s (st := st) h
          obtain ⟨a2, xd, r1, rfl, h9⟩ := tia_s (st := r0) h8
          obtain ⟨a1, xs, r, rfl, h10⟩ := tia_s (st := r1) h9
          obtain ⟨en, h0⟩ := scs_s ρ h10
          obtain ⟨ed, h0⟩ := scs_s ρ h0
          obtain ⟨es, h0⟩ := scs_s ρ h0
          obtain ⟨kd1, n1, X1, hm1, q1⟩ := sor_s (slk_spec S a1 none _) h0
          rw [q1] at h0
          obtain ⟨kd2, n2, X2, hm2, q2⟩ := sor_s (slk_spec S a2 none _) h0
          rw [q2] at h0
          obtain ⟨c1, rfl, h0⟩ := sKc_s (X := X1) h0
          obtain ⟨c2, rfl, h12⟩ := sKc_s (X := X2) h0
          obtain ⟨hg, h11⟩ := scd_t h12
          rw [fo_eq, sst_eq] at h11
          simp only [Bool.and_eq_true, Nat.beq_eq, Nat.blt_eq, Nat.ble_eq] at hg
          obtain ⟨rfl, rfl, s3, s1, s2, g1, g2, hd1, hcat⟩ := hg
          obtain ⟨ct01, ct1, -, hc1, hX1⟩ := hS.2.2.2.2.2.2 a1 2 n1 _ hm1
          obtain ⟨ct02, ct2, -, hc2, hX2⟩ := hS.2.2.2.2.2.2 a2 2 n2 _ hm2
          have hX1 : ct1 = c1 := hX1
          have hX2 : ct2 = c2 := hX2
          subst hX1 hX2
          obtain ⟨u2, e5, e6, e7, e8, e9⟩ := hset_spec (c := (2, n2, dcp ct1 ct2 xs.1 xd.1 xn.1)) (fun h'' => nxt rec d (slD ρ L) (r.map (svd ρ)) h'') none hS.1 hc2
          refine ⟨o_acopy, by show cond (Nat.ble 1099511627776 x) (dopM x) _ = _; rw [hb, hx7]; rfl, ?_⟩
          refine Eq.mpr (congrArg T (k_acopy (st := r.map (svd ρ)) (a1 := a1) (a2 := a2) (xn := sden ρ xn) (xd := sden ρ xd) (xs := sden ρ xs) (h2 := u2) hc1 hc2 (by rw [en]; exact s3) (by rw [es]; exact s1) (by rw [ed]; exact s2) (by rw [es, en]; exact g1) (by rw [ed, en]; exact g2) hd1 (by rw [sdcat_d]; exact hcat) (by rw [es, ed, en]; exact e5))) ?_
          exact hnx _ r _ _ (ssat_set hS hm2 (X' := .inl (dcp ct1 ct2 xs.1 xd.1 xn.1)) (fun _ _ => rfl) hc2 e6 e7 e8 e9) (hIo h' u2 (fun q hq => by rw [e9, if_neg (fun w => by rw [w, hS.2.2.2.2.1 _ hm2] at hq; cases hq)]) e8 hI) h11
        | true =>
        rw [h6] at h
        obtain ⟨a, b, r, rfl, h0⟩ := t2_s (st := st) h
        obtain ⟨hd1, h0⟩ := scd_t h0
        obtain ⟨hd2, h0⟩ := scd_t h0
        obtain ⟨v, h0, h3⟩ := smx_s hB dMin_lt h0
        refine ⟨o_mm dMin, by show cond (Nat.ble 1099511627776 x) (dopM x) _ = _; rw [hb]; show cond (Nat.beq x 1099511627777) _ _ = _; rw [h5]; show cond (Nat.beq x 1099511627778) _ _ = _; rw [h6]; rfl, ?_⟩
        refine Eq.mpr (congrArg T (k_mm (a := sden ρ a) (b := sden ρ b) (st := r.map (svd ρ)) hd1 (by rw [sdcat_d]; exact hd2))) ?_
        rw [← h3]
        exact hnx _ ((.inl v : sV) :: r) _ _ hS hI h0
    | false =>
      rw [hb] at h
      obtain ⟨as, r, h0, hp⟩ := spop_s ρ (acc := []) h
      obtain ⟨hd2, h0⟩ := scd_t h0
      refine ⟨o_static, by show cond (Nat.ble 1099511627776 x) (dopM x) _ = _; rw [hb]; rfl, ?_⟩
      refine Eq.mpr (congrArg T (k_static hp (by rw [sdcat_d]; exact hd2))) ?_
      exact hcl false as r h0
  · change (cond (Nat.ble 1099511627776 x) (cond (Nat.ble 2199023255552 x) none (cond (Nat.beq x 1099511627777) (t1a st fun a r => sstr a fun n _ => cond (Nat.ble 4 d) (cond (Nat.ble (sdcat r) 8) (nx L (.inl (n, []) :: r) S) none) none) (cond (Nat.beq x 1099511627778) (tia st fun a i r => scs i none fun i => sstr a fun n ct => cond (Nat.blt i 4294967296) (cond (Nat.blt i n) (cond (Nat.ble 4 d) (cond (Nat.ble (sdcat r) 8) (fo (wd 8 ct i) fun w => nx L (.inl (w, []) :: r) S) none) none) none) none) none))) (spop (Nat.mod (Nat.div x 16) 16) st [] fun as r1 => t1a r1 fun a r => sO (kdo a) fun kd => cond (Nat.beq kd (Nat.add (Nat.mod x 16) 4)) (cond (Nat.ble (sdcat r) 8) (cl true (.inr (.inr (a + 1)) :: as) r) none) none)) = some lv at h
    cases hb : Nat.ble 1099511627776 x with
    | true =>
      rw [hb] at h
      cases hb3 : Nat.ble 2199023255552 x with
      | true => rw [hb3] at h; cases h
      | false =>
        rw [hb3] at h
        cases h5 : Nat.beq x 1099511627777 with
        | true =>
          rw [h5] at h
          obtain ⟨a, r, rfl, h0⟩ := t1a_s (st := st) h
          obtain ⟨n, ct, hs, h0⟩ := sstr_s h0
          obtain ⟨hd1, h0⟩ := scd_t h0
          obtain ⟨hd2, h0⟩ := scd_t h0
          refine ⟨o_strlen, by show cond (Nat.ble 2199023255552 x) _ (cond (Nat.ble 1099511627776 x) (cond (Nat.beq x 1099511627777) _ _) _) = _; rw [hb3, hb, h5]; rfl, ?_⟩
          refine Eq.mpr (congrArg T (k_strlen (st := r.map (svd ρ)) hs hd1 (by rw [sdcat_d]; exact hd2))) ?_
          exact hnx _ ((.inl (n, []) : sV) :: r) _ _ hS hI h0
        | false =>
          rw [h5] at h
          obtain ⟨h6, h⟩ := scd_t h
          obtain ⟨a, i, r, rfl, h0⟩ := tia_s (st := st) h
          obtain ⟨ei, h0⟩ := scs_s ρ h0
          obtain ⟨n, ct, hs, h0⟩ := sstr_s h0
          obtain ⟨hi0, h0⟩ := scd_t h0
          obtain ⟨hin, h0⟩ := scd_t h0
          obtain ⟨hd1, h0⟩ := scd_t h0
          obtain ⟨hd2, h0⟩ := scd_t h0
          rw [fo_eq] at h0
          refine ⟨o_charAt, by show cond (Nat.ble 2199023255552 x) _ (cond (Nat.ble 1099511627776 x) (cond (Nat.beq x 1099511627777) _ (cond (Nat.beq x 1099511627778) _ _)) _) = _; rw [hb3, hb, h5, h6]; rfl, ?_⟩
          refine Eq.mpr (congrArg T (k_charAt (st := r.map (svd ρ)) (i := sden ρ i) hs (by rw [ei]; exact Nat.mod_eq_of_lt (di_blt.mp hi0)) (by rw [ei]; exact hin) hd1 (by rw [sdcat_d]; exact hd2))) ?_
          rw [ei]
          exact hnx _ ((.inl (wd 8 ct i.1, []) : sV) :: r) _ _ hS hI h0
    | false =>
      rw [hb] at h
      have hb2 : Nat.ble 2199023255552 x = false := by
        cases e : Nat.ble 2199023255552 x with
        | false => rfl
        | true =>
          have q1 := Nat.le_of_ble_eq_true e
          rw [Nat.ble_eq_true_of_le (show 1099511627776 ≤ x by omega)] at hb; cases hb
      obtain ⟨as, r1, h9, hp⟩ := spop_s ρ (acc := []) h
      obtain ⟨a, r, rfl, h0⟩ := t1a_s (st := r1) h9
      obtain ⟨kd, hkd, h0⟩ := sO_s h0
      obtain ⟨hk, h0⟩ := scd_t h0
      obtain ⟨hd2, h0⟩ := scd_t h0
      obtain ⟨n, ct, hc⟩ := hK a kd hkd S h' hS hI
      refine ⟨o_virtual, by show cond (Nat.ble 2199023255552 x) _ (cond (Nat.ble 1099511627776 x) _ _) = _; rw [hb2, hb]; rfl, ?_⟩
      refine Eq.mpr (congrArg T (k_virtual (a := a) (r := r.map (svd ρ)) hp hc hk (by rw [sdcat_d]; exact hd2))) ?_
      exact hcl true (.inr (.inr (a + 1)) :: as) r h0
  · change (cond (Nat.ble 1099511627776 x) none (spop (Nat.mod (Nat.div x 16) 16) st [] fun as r1 => t1a r1 fun a r => cond (Nat.ble (sdcat r) 8) (cl false (.inr (.inr (a + 1)) :: as) r) none)) = some lv at h
    cases hb : Nat.ble 1099511627776 x with
    | true => rw [hb] at h; cases h
    | false =>
      rw [hb] at h
      obtain ⟨as, r1, h9, hp⟩ := spop_s ρ (acc := []) h
      obtain ⟨a, r, rfl, h0⟩ := t1a_s (st := r1) h9
      obtain ⟨hd2, h0⟩ := scd_t h0
      refine ⟨o_special, by show cond (Nat.ble 1099511627776 x) _ _ = _; rw [hb]; rfl, ?_⟩
      refine Eq.mpr (congrArg T (k_special (a := a) (r := r.map (svd ρ)) hp (by rw [sdcat_d]; exact hd2))) ?_
      exact hcl false (.inr (.inr (a + 1)) :: as) r h0
  · change (List.rec (motive := fun _ => sR) (rt none) (fun _ _ _ => none) st) = some lv at h
    cases st with
    | nil => exact ⟨_, rfl, hrt none h⟩
    | cons v r => cases h
  · change (t1 st fun v r => List.rec (motive := fun _ => sR) (cond (Nat.beq x 1) (rt (some (.inl v))) (sbel B 2 v none (rt (some (.inl v))))) (fun _ _ _ => none) r) = some lv at h
    obtain ⟨v, r, rfl, h0⟩ := t1_s h
    cases r with
    | cons v r => cases h0
    | nil =>
      have h1 : (cond (Nat.beq x 1) (rt (some (.inl v))) (sbel B 2 v none (rt (some (.inl v))))) = some lv := h0
      refine ⟨_, rfl, ?_⟩
      cases e : Nat.beq x 1 with
      | true =>
        rw [e] at h1
        refine Eq.mpr (congrArg T (k_ireturn (v := sden ρ v) (Or.inl e))) ?_
        exact hrt (some (.inl v)) h1
      | false =>
        rw [e] at h1
        obtain ⟨h2, h3⟩ := sor_s (sbel_spec hB 2 v none (rt (some (.inl v)))) h1
        have h4 : sbel B 2 v none (rt (some (.inl v))) = some lv := h1
        rw [h2] at h4
        refine Eq.mpr (congrArg T (k_ireturn (v := sden ρ v) (Or.inr h3))) ?_
        exact hrt (some (.inl v)) h4
  · change (t1l st fun v r => List.rec (motive := fun _ => sR) (rt (some (.inr (.inl v)))) (fun _ _ _ => none) r) = some lv at h
    obtain ⟨v, r, rfl, h0⟩ := t1l_s h
    cases r with
    | cons v r => cases h0
    | nil => exact ⟨_, rfl, hrt (some (.inr (.inl v))) h0⟩
  · cases h
end S
end
section
/-! ===== the symbolic run: calls, jumps, answers, and answers that are known by contract ===== -/
noncomputable def sdal {β : Type} (as : List sV) : Nat → (sL → Nat → β) → β := List.rec (motive := fun _ => Nat → (sL → Nat → β) → β) (fun i k => k [] i) (fun v _ ih i k => cond (sisl v) (fo (Nat.add i 2) fun j => ih j (fun u n => k ((i, v) :: u) n)) (fo (Nat.add i 1) fun j => ih j (fun u n => k ((i, v) :: u) n))) as
theorem sdal_s (ρ : Nat → Nat) {β : Type} (as : List sV) (i : Nat) (k : sL → Nat → β) : ∃ L2 n, sdal as i k = k L2 n ∧ ∀ {γ : Type} (k2 : dL → Nat → γ), dargs (as.map (svd ρ)) i k2 = k2 (slD ρ L2) n := by
  induction as generalizing i k with
  | nil => exact ⟨[], i, rfl, fun _ => rfl⟩
  | cons v t ih =>
    have e1 : sdal (v :: t) i k = cond (sisl v) (fo (Nat.add i 2) fun j => sdal t j (fun u n => k ((i, v) :: u) n)) (fo (Nat.add i 1) fun j => sdal t j (fun u n => k ((i, v) :: u) n)) := rfl
    have e2 : ∀ {γ : Type} (k2 : dL → Nat → γ), dargs ((v :: t).map (svd ρ)) i k2 = cond (disl (svd ρ v)) (dargs (t.map (svd ρ)) (Nat.succ (Nat.succ i)) (fun u n => k2 ((i, svd ρ v) :: u) n)) (dargs (t.map (svd ρ)) (Nat.succ i) (fun u n => k2 ((i, svd ρ v) :: u) n)) := fun _ => rfl
    cases h : sisl v with
    | true =>
      obtain ⟨L2, n, h1, h2⟩ := ih (i + 2) (fun u n => k ((i, v) :: u) n)
      refine ⟨(i, v) :: L2, n, by rw [e1, h, cond_true, fo_eq]; exact h1, fun k2 => ?_⟩
      rw [e2, sisl_d, h]
      exact h2 _
    | false =>
      obtain ⟨L2, n, h1, h2⟩ := ih (i + 1) (fun u n => k ((i, v) :: u) n)
      refine ⟨(i, v) :: L2, n, by rw [e1, h, cond_false, fo_eq]; exact h1, fun k2 => ?_⟩
      rw [e2, sisl_d, h]
      exact h2 _
def spsh (v : Option sV) (st : List sV) : List sV := match v with
  | none => st
  | some w => w :: st
def sthr (v : Option sV) : Bool := match v with
  | some (.inr (.inr _)) => true
  | _ => false
theorem sthr_d (ρ : Nat → Nat) (v : Option sV) : dthr (v.map (svd ρ)) = sthr v := by
  match v with
  | none => rfl
  | some (.inl _) => rfl
  | some (.inr (.inl _)) => rfl
  | some (.inr (.inr _)) => rfl
theorem spsh_d (ρ : Nat → Nat) (nxt : dCode) (rec : dRec) (d : Nat) (L : dL) (st : List sV) (v : Option sV) (u : dH) : dgo nxt rec d L (st.map (svd ρ)) (v.map (svd ρ)) u = nxt rec d L ((spsh v st).map (svd ρ)) u := by cases v <;> rfl
/-- an instruction: how long, its number, what it does -/
abbrev sHi : Type := Nat × Nat × sOp
noncomputable def hxf (i : dI) : sHi := (i.2.1, i.2.2, sopO i.1 i.2.2)
abbrev sEx : Type := Nat → Nat → Nat → Nat → (Nat × Nat) → List sHi → sL → List sV → sH → List sFr → List sLf → sR
noncomputable def sdrp {α : Type} (n : Nat) : List α → List α := Nat.rec (motive := fun _ => List α → List α) (fun l => l) (fun _ ih l => List.rec (motive := fun _ => List α) [] (fun _ t _ => ih t) l) n
theorem sdrp_eq {α : Type} (n : Nat) (l : List α) : sdrp n l = l.drop n := by
  induction n generalizing l with
  | zero => rfl
  | succ n ih => cases l with
    | nil => rfl
    | cons a t => exact ih t
section D
variable (B : List (Nat × Nat)) (fx : Nat → sN → sN → Option sN) (kdo : Nat → Option Nat) (pgh : Nat → Nat → Option (List sHi)) (stp : Nat → Nat → List sFr → Bool) (orc : Nat → List sV → Option (List (Option sV))) (F0 D0 : Nat)
noncomputable def sjmp (ih : sEx) (f d y pc : Nat) (L : sL) (st : List sV) (S : sH) (K : List sFr) (acc : List sLf) : sR := cond (stp y pc K) (some (.inl (f, d, y, pc, L, st, S, K) :: acc)) (Nat.rec (motive := fun _ => sR) none (fun f2 _ => sO (pgh y pc) fun is => ih f2 d y pc (pc, 0) is L st S K acc) f)
noncomputable def sfrk (ih : sEx) (f d y pc : Nat) (b : Nat × Nat) (is : List sHi) (L : sL) (r : List sV) (S : sH) (K : List sFr) (outs : List (Option sV)) : List sLf → sR := List.rec (motive := fun _ => List sLf → sR) (fun acc => some acc) (fun o _ t acc => cond (sthr o) none (sO (ih f d y pc b is L (spsh o r) S K acc) fun acc2 => t acc2)) outs
noncomputable def scal (ih : sEx) (f d y pc : Nat) (b : Nat × Nat) (is : List sHi) (x : Nat) (L : sL) (S : sH) (K : List sFr) (acc : List sLf) (fl : Bool) (as r : List sV) : sR := Nat.rec (motive := fun _ => sR) none (fun d2 _ => sdal as 0 fun L2 n => cond (Nat.ble n (Nat.mod (Nat.div x 256) 64)) (fo (Nat.div x 16384) fun y2 => Option.rec (motive := fun _ => sR) (sjmp pgh stp ih f d2 y2 0 L2 [] S ((fl, f, d, y, pc, b, L, r) :: K) acc) (fun outs => cond (Nat.ble F0 f) (cond (Nat.ble D0 d2) (sfrk ih f d y pc b is L r S K outs acc) none) none) (orc y2 as)) none) d
noncomputable def sret (ih : sEx) (S : sH) (K : List sFr) (acc : List sLf) (v : Option sV) : sR := List.rec (motive := fun _ => sR) (some (.inr (v, S) :: acc)) (fun q K2 _ => cond (sthr v) none (sO (pgh q.2.2.2.1 q.2.2.2.2.2.1.1) fun hl => ih q.2.1 q.2.2.1 q.2.2.2.1 q.2.2.2.2.1 q.2.2.2.2.2.1 (sdrp q.2.2.2.2.2.1.2 hl) q.2.2.2.2.2.2.1 (spsh v q.2.2.2.2.2.2.2) S K2 acc)) K
noncomputable def sex (N : Nat) : sEx := Nat.rec (motive := fun _ => sEx) (fun _ _ _ _ _ _ _ _ _ _ _ => none) (fun _ ih f d y pc b is L st S K acc => List.rec (motive := fun _ => sR) (sjmp pgh stp ih f d y pc L st S K acc) (fun i rest _ => fo (Nat.add pc i.1) fun pc2 => fo (Nat.succ b.2) fun n2 => i.2.2 B fx kdo d L st S (fun L st S => ih f d y pc2 (b.1, n2) rest L st S K acc) (fun pc3 L st => sjmp pgh stp ih f d y pc3 L st S K acc) (fun fl as r => scal pgh stp orc F0 D0 ih f d y pc2 (b.1, n2) rest i.2.1 L S K acc fl as r) (fun v => sret pgh ih S K acc v)) is) N
end D
/-- what a run shows, with the calls that wait for it -/
def kGoal (G : dR → Prop) : List (Option dV → dH → dR) → dR → Prop
  | [], z => G z
  | k :: ks, z => kGoal G ks (opt z fun q => k q.1 q.2)
/-- what is left of a block -/
noncomputable def sblk (pg : Nat → Nat → Option (List dI)) (y : Nat) (b : Nat × Nat) : List dI := match pg y b.1 with
  | some is => is.drop b.2
  | none => []
noncomputable def kden (pg : Nat → Nat → Option (List dI)) (P : Nat → Nat → Option dCode) (ρ : Nat → Nat) (e : Nat) (q : sFr) : Option dV → dH → dR := fun v u => cond (dthr v) (cond q.1 (some (v, u)) none) (dgo (dcomp q.2.2.2.1 (sblk pg q.2.2.2.1 q.2.2.2.2.2.1) q.2.2.2.2.1) (drun P (q.2.1 + e)) q.2.2.1 (slD ρ q.2.2.2.2.2.2.1) (q.2.2.2.2.2.2.2.map (svd ρ)) v u)
def leafOK (pg : Nat → Nat → Option (List dI)) (P : Nat → Nat → Option dCode) (ρ : Nat → Nat) (e : Nat) (Op : Nat → Bool) (g : dH) (I : dH → Prop) (G : dR → Prop) (x : sLf) : Prop := match x with
  | .inl (f, d, y, pc, L, st, S, K) => ∀ u, ssat ρ Op g S u → I u → kGoal G (K.map (kden pg P ρ e)) (drun P (f + e) d y pc (slD ρ L) (st.map (svd ρ)) u)
  | .inr (v, S) => ∀ u, ssat ρ Op g S u → I u → G (some (v.map (svd ρ), u))
section S
variable {B : List (Nat × Nat)} {fx : Nat → sN → sN → Option sN} {kdo : Nat → Option Nat} {pg : Nat → Nat → Option (List dI)} {pgh : Nat → Nat → Option (List sHi)} {stp : Nat → Nat → List sFr → Bool} {orc : Nat → List sV → Option (List (Option sV))} {F0 D0 : Nat} {P : Nat → Nat → Option dCode} {ρ : Nat → Nat} {Op : Nat → Bool} {g : dH} {I : dH → Prop} {G : dR → Prop}
theorem dcomp_cons (y : Nat) (i : dI) (is : List dI) (pc : Nat) {o : dOp} (h : dop i.1 i.2.2 = some o) : dcomp y (i :: is) pc = o y i.2.2 (dcomp y is (pc + i.2.1)) := by
  show (match dop i.1 i.2.2 with
    | none => dnone
    | some o => o y i.2.2 (dcomp y is (pc + i.2.1))) = _
  rw [h]
theorem ssat_new {S : sH} {u u2 : dH} (h : ssat ρ Op g S u) (hw : hwf u2) (e1 : u2.1 = u.1) (e2 : u2.2.1 = u.2.1) (e : ∀ a, Op a = false → hat u2 a = hat u a) : ssat ρ Op g S u2 := by
  obtain ⟨h1, h2, h3, h4, h5, h6, h7⟩ := h
  refine ⟨hw, e1.trans h2, e2.trans h3, h4, h5, fun a ha hn => (e a ha).trans (h6 a ha hn), fun a kd n X hm => ?_⟩
  obtain ⟨c0, ct, g1, g2, g3⟩ := h7 a kd n X hm
  exact ⟨c0, ct, g1, (e a (h5 _ hm)).trans g2, g3⟩
theorem sex_ok (e : Nat) (hB : sok ρ B) (hfx : ∀ i a b v, fx i a b = some v → opf i (sden ρ a) (sden ρ b) = sden ρ v) (hP : ∀ y pc is, pg y pc = some is → P y pc = some (dcomp y is pc)) (hH : ∀ y pc hl, pgh y pc = some hl → ∃ is, pg y pc = some is ∧ hl = is.map hxf) (hIo : ∀ u u2 : dH, (∀ q, Op q = true → hat u2 q = hat u q) → hwf u2 → I u → I u2)
    (hK : ∀ a kd, kdo a = some kd → ∀ S u, ssat ρ Op g S u → I u → ∃ n ct, hat u a = some (kd, n, ct))
    (hO : ∀ y as outs, orc y as = some outs → ∀ f d u S, F0 ≤ f → D0 ≤ d → ssat ρ Op g S u → I u → ∃ o ∈ outs, ∃ u2, (dargs (as.map (svd ρ)) 0 fun L _ => drun P f d y 0 L [] u) = some (o.map (svd ρ), u2) ∧ I u2 ∧ hwf u2 ∧ u2.1 = u.1 ∧ u2.2.1 = u.2.1 ∧ ∀ a, Op a = false → hat u2 a = hat u a)
    (N : Nat) : ∀ f d y pc b is hl L st S K acc lv, sblk pg y b = is → hl = is.map hxf → sex B fx kdo pgh stp orc F0 D0 N f d y pc b hl L st S K acc = some lv → (∀ x ∈ lv, leafOK pg P ρ e Op g I G x) → ∀ u, ssat ρ Op g S u → I u → (∀ x ∈ acc, x ∈ lv) ∧ kGoal G (K.map (kden pg P ρ e)) (dcomp y is pc (drun P (f + e)) d (slD ρ L) (st.map (svd ρ)) u) := by
  induction N with
  | zero => intro f d y pc b is hl L st S K acc lv _ _ h; cases h
  | succ N ih =>
    intro f d y pc b is hll L st S K acc lv hb hh h hl u hS hI
    have hj : ∀ (f d y pc : Nat) (L : sL) (st : List sV) (S : sH) (K : List sFr) (acc lv : List sLf) (u : dH), sjmp pgh stp (sex B fx kdo pgh stp orc F0 D0 N) f d y pc L st S K acc = some lv → (∀ x ∈ lv, leafOK pg P ρ e Op g I G x) → ssat ρ Op g S u → I u → (∀ x ∈ acc, x ∈ lv) ∧ kGoal G (K.map (kden pg P ρ e)) (drun P (f + e) d y pc (slD ρ L) (st.map (svd ρ)) u) := by
      intro f d y pc L st S K acc lv u h hl hS hI
      unfold sjmp at h
      cases es : stp y pc K with
      | true =>
        rw [es] at h
        cases h
        exact ⟨fun x hx => List.mem_cons_of_mem _ hx, hl _ List.mem_cons_self u hS hI⟩
      | false =>
        rw [es] at h
        cases f with
        | zero => cases h
        | succ f2 =>
          obtain ⟨hl2, h0, h2⟩ := sO_s (show sO (pgh y pc) (fun is => sex B fx kdo pgh stp orc F0 D0 N f2 d y pc (pc, 0) is L st S K acc) = some lv from h)
          obtain ⟨is, h1, h9⟩ := hH y pc hl2 h0
          have h3 := ih f2 d y pc (pc, 0) is hl2 L st S K acc lv (by unfold sblk; rw [h1]; rfl) h9 h2 hl u hS hI
          refine ⟨h3.1, ?_⟩
          have e4 : drun P (f2 + 1 + e) d y pc (slD ρ L) (st.map (svd ρ)) u = dcomp y is pc (drun P (f2 + e)) d (slD ρ L) (st.map (svd ρ)) u := by
            rw [show f2 + 1 + e = (f2 + e) + 1 by omega]
            show opt (P y pc) (fun c => c (drun P (f2 + e)) d (slD ρ L) (st.map (svd ρ)) u) = _
            rw [hP y pc is h1]; rfl
          rw [e4]
          exact h3.2
    cases is with
    | nil =>
      subst hh
      have h2 : sjmp pgh stp (sex B fx kdo pgh stp orc F0 D0 N) f d y pc L st S K acc = some lv := h
      exact hj f d y pc L st S K acc lv u h2 hl hS hI
    | cons i rest =>
      subst hh
      have hb2 : sblk pg y (b.1, Nat.succ b.2) = rest := by
        have hb3 : sblk pg y b = i :: rest := hb
        unfold sblk at hb3 ⊢
        cases hp : pg y b.1 with
        | none => rw [hp] at hb3; cases hb3
        | some l =>
          rw [hp] at hb3
          show l.drop (b.2 + 1) = rest
          have hb4 : l.drop b.2 = i :: rest := hb3
          rw [← List.drop_drop, hb4]; rfl
      have h2 : (fo (Nat.add pc i.2.1) fun pc2 => fo (Nat.succ b.2) fun n2 => sop B fx kdo d i.1 i.2.2 L st S (fun L st S => sex B fx kdo pgh stp orc F0 D0 N f d y pc2 (b.1, n2) (rest.map hxf) L st S K acc) (fun pc3 L st => sjmp pgh stp (sex B fx kdo pgh stp orc F0 D0 N) f d y pc3 L st S K acc) (fun fl as r => scal pgh stp orc F0 D0 (sex B fx kdo pgh stp orc F0 D0 N) f d y pc2 (b.1, n2) (rest.map hxf) i.2.2 L S K acc fl as r) (fun v => sret pgh (sex B fx kdo pgh stp orc F0 D0 N) S K acc v)) = some lv := h
      rw [fo_eq, fo_eq] at h2
      obtain ⟨o, ho, hT⟩ := sop_ok (T := fun z => (∀ x ∈ acc, x ∈ lv) ∧ kGoal G (K.map (kden pg P ρ e)) z) (nxt := dcomp y rest (pc + i.2.1)) (rec := drun P (f + e)) (y := y) hB hfx hIo hK hS hI
        (fun L2 st2 S2 u2 hS2 hI2 hn => ih f d y _ (b.1, Nat.succ b.2) rest _ L2 st2 S2 K acc lv hb2 rfl hn hl u2 hS2 hI2)
        (fun pc3 L2 st2 hn => hj f d y pc3 L2 st2 S K acc lv u hn hl hS hI)
        (fun fl as r hn => by
          unfold scal at hn
          cases d with
          | zero => cases hn
          | succ d2 =>
            obtain ⟨L2, n, g1, g2⟩ := sdal_s ρ as 0 (fun L2 n => cond (Nat.ble n (Nat.mod (Nat.div i.2.2 256) 64)) (fo (Nat.div i.2.2 16384) fun y2 => Option.rec (motive := fun _ => sR) (sjmp pgh stp (sex B fx kdo pgh stp orc F0 D0 N) f d2 y2 0 L2 [] S ((fl, f, d2 + 1, y, pc + i.2.1, (b.1, Nat.succ b.2), L, r) :: K) acc) (fun outs => cond (Nat.ble F0 f) (cond (Nat.ble D0 d2) (sfrk (sex B fx kdo pgh stp orc F0 D0 N) f (d2 + 1) y (pc + i.2.1) (b.1, Nat.succ b.2) (rest.map hxf) L r S K outs acc) none) none) (orc y2 as)) none)
            have hn2 : sdal as 0 (fun L2 n => cond (Nat.ble n (Nat.mod (Nat.div i.2.2 256) 64)) (fo (Nat.div i.2.2 16384) fun y2 => Option.rec (motive := fun _ => sR) (sjmp pgh stp (sex B fx kdo pgh stp orc F0 D0 N) f d2 y2 0 L2 [] S ((fl, f, d2 + 1, y, pc + i.2.1, (b.1, Nat.succ b.2), L, r) :: K) acc) (fun outs => cond (Nat.ble F0 f) (cond (Nat.ble D0 d2) (sfrk (sex B fx kdo pgh stp orc F0 D0 N) f (d2 + 1) y (pc + i.2.1) (b.1, Nat.succ b.2) (rest.map hxf) L r S K outs acc) none) none) (orc y2 as)) none) = some lv := hn
            rw [g1] at hn2
            obtain ⟨g3, hn3⟩ := scd_t hn2
            rw [fo_eq] at hn3
            have ed : ∀ k : Option dV → dH → dR, dcall (drun P (f + e)) (d2 + 1) i.2.2 (as.map (svd ρ)) u k = opt (drun P (f + e) d2 (Nat.div i.2.2 16384) 0 (slD ρ L2) [] u) fun z => k z.1 z.2 := by
              intro k
              show dargs (as.map (svd ρ)) 0 (fun L n => cond (Nat.ble n (Nat.mod (Nat.div i.2.2 256) 64)) (opt (drun P (f + e) d2 (Nat.div i.2.2 16384) 0 L [] u) fun z => Prod.rec (motive := fun _ => dR) (fun r h' => k r h') z) none) = _
              rw [g2, g3]; rfl
            rw [ed]
            cases eo : orc (Nat.div i.2.2 16384) as with
            | none =>
              rw [eo] at hn3
              rw [show dcomp y rest (pc + i.2.1) = dcomp y (sblk pg y (b.1, Nat.succ b.2)) (pc + i.2.1) by rw [hb2]]
              exact hj f d2 _ 0 L2 [] S ((fl, f, d2 + 1, y, pc + i.2.1, (b.1, Nat.succ b.2), L, r) :: K) acc lv u hn3 hl hS hI
            | some outs =>
              rw [eo] at hn3
              obtain ⟨g4, hn4⟩ := scd_t (show cond (Nat.ble F0 f) (cond (Nat.ble D0 d2) (sfrk (sex B fx kdo pgh stp orc F0 D0 N) f (d2 + 1) y (pc + i.2.1) (b.1, Nat.succ b.2) (rest.map hxf) L r S K outs acc) none) none = some lv from hn3)
              obtain ⟨g5, hn5⟩ := scd_t hn4
              obtain ⟨o, ho, u2, q1, q2, q3, q4, q5, q6⟩ := hO _ as outs eo (f + e) d2 u S (Nat.le_trans (Nat.le_of_ble_eq_true g4) (Nat.le_add_right f e)) (Nat.le_of_ble_eq_true g5) hS hI
              rw [g2] at q1
              rw [q1]
              have hS2 := ssat_new hS q3 q4 q5 q6
              have key : ∀ (outs : List (Option sV)) (acc lv : List sLf), sfrk (sex B fx kdo pgh stp orc F0 D0 N) f (d2 + 1) y (pc + i.2.1) (b.1, Nat.succ b.2) (rest.map hxf) L r S K outs acc = some lv → (∀ x ∈ lv, leafOK pg P ρ e Op g I G x) → (∀ x ∈ acc, x ∈ lv) ∧ ∀ o ∈ outs, sthr o = false ∧ kGoal G (K.map (kden pg P ρ e)) (dcomp y rest (pc + i.2.1) (drun P (f + e)) (d2 + 1) (slD ρ L) ((spsh o r).map (svd ρ)) u2) := by
                intro outs
                induction outs with
                | nil =>
                  intro acc lv hh _
                  cases hh
                  exact ⟨fun x hx => hx, fun o ho => by cases ho⟩
                | cons o t iht =>
                  intro acc lv hh hl
                  have hh2 : cond (sthr o) none (sO (sex B fx kdo pgh stp orc F0 D0 N f (d2 + 1) y (pc + i.2.1) (b.1, Nat.succ b.2) (rest.map hxf) L (spsh o r) S K acc) fun acc2 => sfrk (sex B fx kdo pgh stp orc F0 D0 N) f (d2 + 1) y (pc + i.2.1) (b.1, Nat.succ b.2) (rest.map hxf) L r S K t acc2) = some lv := hh
                  cases et : sthr o with
                  | true => rw [et] at hh2; cases hh2
                  | false =>
                    rw [et] at hh2
                    obtain ⟨acc2, w1, w2⟩ := sO_s (show sO (sex B fx kdo pgh stp orc F0 D0 N f (d2 + 1) y (pc + i.2.1) (b.1, Nat.succ b.2) (rest.map hxf) L (spsh o r) S K acc) (fun acc2 => sfrk (sex B fx kdo pgh stp orc F0 D0 N) f (d2 + 1) y (pc + i.2.1) (b.1, Nat.succ b.2) (rest.map hxf) L r S K t acc2) = some lv from hh2)
                    obtain ⟨w3, w4⟩ := iht acc2 lv w2 hl
                    obtain ⟨w5, w6⟩ := ih f (d2 + 1) y _ (b.1, Nat.succ b.2) rest _ L (spsh o r) S K acc acc2 hb2 rfl w1 (fun x hx => hl x (w3 x hx)) u2 hS2 q2
                    refine ⟨fun x hx => w3 x (w5 x hx), fun o2 ho2 => ?_⟩
                    rcases List.mem_cons.mp ho2 with rfl | ho2
                    · exact ⟨et, w6⟩
                    · exact w4 o2 ho2
              obtain ⟨k1, k2⟩ := key outs acc lv hn5 hl
              obtain ⟨k3, k4⟩ := k2 o ho
              refine ⟨k1, ?_⟩
              show kGoal G (K.map (kden pg P ρ e)) (cond (dthr (o.map (svd ρ))) (cond fl (some (o.map (svd ρ), u2)) none) (dgo (dcomp y rest (pc + i.2.1)) (drun P (f + e)) (d2 + 1) (slD ρ L) (r.map (svd ρ)) (o.map (svd ρ)) u2))
              rw [sthr_d, k3, spsh_d]
              exact k4)
        (fun v hn => by
          unfold sret at hn
          cases K with
          | nil =>
            have hn2 : some ((.inr (v, S) : sLf) :: acc) = some lv := hn
            cases hn2
            exact ⟨fun x hx => List.mem_cons_of_mem _ hx, hl _ List.mem_cons_self u hS hI⟩
          | cons q K2 =>
            obtain ⟨fl, f1, d1, y1, pc1, b1, L1, st1⟩ := q
            have hn2 : cond (sthr v) none (sO (pgh y1 b1.1) fun hl => sex B fx kdo pgh stp orc F0 D0 N f1 d1 y1 pc1 b1 (sdrp b1.2 hl) L1 (spsh v st1) S K2 acc) = some lv := hn
            cases et : sthr v with
            | true => rw [et] at hn2; cases hn2
            | false =>
              rw [et] at hn2
              obtain ⟨hl1, g1, hn3⟩ := sO_s (show sO (pgh y1 b1.1) (fun hl => sex B fx kdo pgh stp orc F0 D0 N f1 d1 y1 pc1 b1 (sdrp b1.2 hl) L1 (spsh v st1) S K2 acc) = some lv from hn2)
              obtain ⟨is1, g2, g3⟩ := hH y1 b1.1 hl1 g1
              obtain ⟨w1, w2⟩ := ih f1 d1 y1 pc1 b1 (sblk pg y1 b1) _ L1 (spsh v st1) S K2 acc lv rfl (by rw [sdrp_eq, g3]; unfold sblk; rw [g2]; exact (List.map_drop ..).symm) hn3 hl u hS hI
              refine ⟨w1, ?_⟩
              show kGoal G (K2.map (kden pg P ρ e)) (cond (dthr (v.map (svd ρ))) (cond fl (some (v.map (svd ρ), u)) none) (dgo (dcomp y1 (sblk pg y1 b1) pc1) (drun P (f1 + e)) d1 (slD ρ L1) (st1.map (svd ρ)) (v.map (svd ρ)) u))
              rw [sthr_d, et, spsh_d]
              exact w2)
        h2
      rw [dcomp_cons y i rest pc ho]
      exact hT
end S
end

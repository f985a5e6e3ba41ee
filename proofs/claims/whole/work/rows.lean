section
/-! ===== BEGIN words of one list among another's, by their places ===== -/
theorem goodIn_r {big : List Cond} (ws : List Cond) (ps : List Nat) (hp : ws = ps.filterMap (fun i => big[i]?)) (h : ws.all goodWord = true) : GoodIn big ws := by
  intro w hw
  have h1 := List.all_eq_true.mp h w hw
  rw [hp] at hw
  obtain ⟨i, -, hi⟩ := List.mem_filterMap.mp hw
  have hm : w ∈ big := by first | exact List.mem_of_getElem? hi | exact List.getElem?_mem hi
  exact ⟨hm, good_of_word h1⟩
theorem goodIn_app {big a b : List Cond} (ha : GoodIn big a) (hb : GoodIn big b) : GoodIn big (a ++ b) := fun w h => (List.mem_append.mp h).elim (ha w) (hb w)
theorem goodIn_ca {big a b : List Cond} {c : Cond} (ha : GoodIn big (c :: a)) (hb : GoodIn big b) : GoodIn big (c :: (a ++ b)) := fun w h => (List.mem_cons.mp h).elim (fun e => ha w (List.mem_cons.mpr (Or.inl e))) (fun h => (List.mem_append.mp h).elim (fun h => ha w (List.mem_cons.mpr (Or.inr h))) (hb w))
theorem goodIn_sub {big ws : List Cond} (hm : ∀ w ∈ ws, w ∈ big) (h : ws.all goodWord = true) : GoodIn big ws := fun w hw => ⟨hm w hw, good_of_word (List.all_eq_true.mp h w hw)⟩
/-! ===== END ===== -/
/-! ===== BEGIN exceptions that leave a method, and their catching by the caller (launches without stack traces) ===== -/
section VXA
/-! The laws vx_back, vx_callV, vx_callS, vx_callSW, vx_throw0, vx_throwS follow proofs of the library, with one case more: JvmDerived/Free/Laws.lean (Back.of_free), Shelf42/LK1.lean (callV, callS), Shelf/KitTraced.lean (throwNew0V, throwNewS). -/
/-- where a method has thrown q: the class by its name, the cell, what was written, the world -/
def vx_T (XC : String → State → State → Prop) (st : State) (q : Addr) (t : State) (mc ms : Nat) (free : Addr → Prop) : Prop :=
  ∃ (E : String) (ce : Cell) (L : List Loc), XC E st t ∧ t.heap[q]? = some ce ∧ ce.vm = .none ∧ st.vm.findClass E = some ce.cls ∧ st.WarmedH t.vm ∧ st.sameButNew ({ t with vm := st.vm } : State) L mc ms ∧ ∀ z ∈ L, free z.base
def vx_Q (Qc : Array Value → State → Outcome → State → Prop) (XC : String → State → State → Prop) (mc ms : Nat) (free : Addr → Prop) : Array Value → State → Outcome → State → Prop := fun a st o t =>
  (Qc a st o t ∧ ∃ L, FrameEnd st o t L mc ms ∧ ∀ q ∈ L, free q.base) ∨ ∃ q, o = .threw q ∧ vx_T XC st q t mc ms free
/-- a callee that returns or throws -/
def vx_Met (l : Launch) (y : MethodName) (ws : List Cond) (rm : Room) (Pc : Array Value → State → Prop) (Qc : Array Value → State → Outcome → State → Prop) (XC : String → State → State → Prop) (mc ms : Nat) (free : Addr → Prop) : Prop :=
  MetFree l y (headSpec ws rm) Pc (fun _ _ _ _ _ => True) (vx_Q Qc XC mc ms free)
def vx_Post (XC : String → State → State → Prop) (mc ms : Nat) (free : Addr → Prop) : Pt → Array Value → Addr → Pt → Prop := fun A a q B =>
  ∃ (g : JFrame) (mk : MethodId) (t : State) (L : List Loc) (E : String) (ce : Cell), B.U.heap = t.heap ∧ B.U.vm = t.vm ∧ XC E (A.U.calling g mk a) t ∧ t.heap[q]? = some ce ∧ ce.vm = .none ∧ A.U.vm.findClass E = some ce.cls ∧ B.locs = A.locs ++ L ∧ (∀ z ∈ L, free z.base) ∧ B.cells = A.cells + mc ∧ B.slots = A.slots + ms
def vx_Back (l : Launch) (R : Room) (p : Program) (e : Env) (below : List Frame) (s : State) (sargs : Array Value) (y : MethodName) (len W9 : Nat)
    (Pre : Pt → Array Value → Prop) (Post : Pt → Array Value → Option Value → Pt → Prop) (PostX : Pt → Array Value → Addr → Pt → Prop) : Prop :=
  ∀ (m : MethodId) (meth : Method) (c : Code) (A : Pt) (g : JFrame) (ig : Instr) (mk : MethodId) (a : Array Value),
    Stand p l e R s m sargs below meth c A.U A.locs A.cells A.slots → g.method = m → g.locals.size = c.maxLocals → decode c.code g.pc = .ok (ig, len) →
    2 * g.monitorRoom + (g.stack.map fun v => v.category).sum ≤ W9 → A.U.methodNamed? y = some mk → Pre A a →
    (∃ (v : Option Value) (B : Pt), Stand p l e R s m sargs below meth c B.U B.locs B.cells B.slots ∧ Post A a v B ∧
      Steps p.tables e below (doInvoke e (A.U.setTop g) [] mk a).1 (B.U.setTop { g with pc := g.pc + len, stack := v.toList ++ g.stack })) ∨
    (∃ (q : Addr) (B : Pt), Stand p l e R s m sargs below meth c B.U B.locs B.cells B.slots ∧ PostX A a q B ∧
      Steps p.tables e below (doInvoke e (A.U.setTop g) [] mk a).1 ((B.U.setTop g).pushFrame (.throwing q)))
section Payer
variable {l : Launch} {R : Room} {p : Program} {e : Env} {below : List Frame} {s : State} {sargs : Array Value} {y : MethodName} {len W9 : Nat}
theorem vx_back {ws : List Cond} {rm : Room} {Pc : Array Value → State → Prop} {Qc : Array Value → State → Outcome → State → Prop} {XC : String → State → State → Prop} {mc ms : Nat} {free : Addr → Prop} {bytes : ByteArray} {maxL : Nat} {ret : Option FieldType}
    (hM : vx_Met l y ws rm Pc Qc XC mc ms free) (hblind : FrameBlind Pc) (hrc : rm.cells = mc) (hrs : rm.slots = ms)
    (hframes : rm.frames + 1 ≤ R.frames) (hlocals : W9 + (maxL + 11) + rm.locals ≤ R.locals)
    (hws : ∀ w ∈ ws, ∀ a' U, s.WarmedH U.vm → w.before a' U = true) (hcode : Cond.code y bytes maxL ret ∈ ws) (hinit : ∀ a' U, s.WarmedH U.vm → (Cond.initialized y.cls).before a' U = true) :
    vx_Back l R p e below s sargs y len W9 (PreOf R mc ms Pc) (PostOf Qc mc ms free) (vx_Post XC mc ms free) := by
  intro m meth c A g ig mk a X hg hsize hdg hW hn hp
  have h1 : (headSpec ws rm).pre.before a A.U = true := atoms_intro fun w hw => hws w hw _ _ X.warmed
  have h2 : (Cond.code y bytes maxL ret).before a A.U = true := hws _ hcode _ _ X.warmed
  have h3 : (Cond.initialized y.cls).before a A.U = true := hinit _ _ X.warmed
  have h4 : A.cells + (headSpec ws rm).room.cells ≤ R.cells := by rw [show (headSpec ws rm).room.cells = mc from hrc]; exact hp.1
  have h5 : A.slots + (headSpec ws rm).room.slots ≤ R.slots := by rw [show (headSpec ws rm).room.slots = ms from hrs]; exact hp.2.1
  have hPc : Pc a (A.U.calling g mk a) := hblind _ _ _ _ hp.2.2
  obtain ⟨U, Ls, c0, s0⟩ := A
  dsimp only [Pt.U, Pt.locs, Pt.cells, Pt.slots] at h1 h2 h3 h4 h5 X hn hPc ⊢
  obtain ⟨methY, cY, hmY, hcY, -, hlY, -, -, -, -⟩ := Cond.code_spec hn h2
  obtain ⟨kY, hkY, -⟩ := className_of_methodNamed hn
  have hinitY : kY.init = .initialized := Cond.initialized_spec (findClass_of_methodNamed hn) hkY h3
  have h : At U g.method c below := by rw [hg]; exact X.here
  have hlocals9 : W9 + (maxL + 11) + (headSpec ws rm).room.locals ≤ R.locals := hlocals
  have happ : (headSpec ws rm).appliesLoose y e.platform (U.calling g mk a) = true :=
    Spec.appliesLoose_calling (g := g) h hdg hn hkY hinitY
      (X.room_calling (g := g) (R' := (headSpec ws rm).room) hsize hmY hcY hframes (by rw [hlY]; omega) h4 h5) h1
  obtain ⟨mid, hmid⟩ := h.above
  have hfr : (U.setTop g).frames = (.java g :: mid) ++ below := by rw [State.frames_setTop' g h.top, hmid]; rfl
  obtain ⟨o, s₂, hsteps, -, hend, hq⟩ := Steps.callFree hM p X.admits X.cas X.clock (acts := []) hfr happ hPc trivial
  have hq' : vx_Q Qc XC mc ms free a (U.calling g mk a) o s₂ := hq
  rw [State.frames_setTop' g h.top] at hend
  obtain ⟨g₀, hg0⟩ := Option.isSome_iff_exists.mp h.top
  obtain ⟨r, hr⟩ := State.topJava?_eq_some.mp hg0
  have hr' : (({ U with heap := s₂.heap, slotsUsed := s₂.slotsUsed } : State).setVm s₂.vm).frames = .java g₀ :: r := hr
  rcases hq' with ⟨hqc, L, hfe, hL⟩ | ⟨q, rfl, E, ce, L, hx, hce, hcv, hcl, hW₂, hsm, hL⟩
  · obtain ⟨⟨v, rfl⟩, hW₂, e2, q2, q3, q4, q5, q6⟩ := id hfe
    have e3 : s₂ = ({ (U.calling g mk a).setFrames s₂.frames with heap := s₂.heap, slotsUsed := s₂.slotsUsed } : State).setVm s₂.vm := by
      have : s₂ = ({ s₂ with vm := (U.calling g mk a).vm } : State).setVm s₂.vm := rfl
      rw [e2] at this
      exact this
    obtain ⟨c₂, i₂, len₂, hc₂, hd₂, hf₂⟩ := hend
    have hW' : U.WarmedH s₂.vm := hW₂
    have hcc : c₂ = c := by
      have h1 : s₂.code? g.method = U.code? g.method := by
        rw [State.code?_eq, State.code?_eq, hW'.alike.method?]
      exact Option.some.inj (hc₂.symm.trans (h1.trans h.code))
    subst hcc
    have hlen : len₂ = len := by rw [hdg] at hd₂; cases hd₂; rfl
    subst hlen
    have hs₂ : s₂ = (({ U with heap := s₂.heap, slotsUsed := s₂.slotsUsed } : State).setVm s₂.vm).setTop { g with pc := g.pc + len₂, stack := v.toList ++ g.stack } := by
      refine e3.trans ?_
      rw [hf₂, State.calling_eq h.top, State.setFrames_setFrames, State.setTop_of_frames _ hr', hr]
      rfl
    have hsame : U.sameButNew ({ U with heap := s₂.heap, slotsUsed := s₂.slotsUsed } : State) L mc ms := by
      refine ⟨?_, q2, q3, q4, q5, q6⟩
      obtain ⟨t, ht, -⟩ := State.frames_cons hr
      show ({ U with heap := s₂.heap, slotsUsed := s₂.slotsUsed } : State) = { U.setFrames U.frames with heap := s₂.heap, slotsUsed := s₂.slotsUsed }
      rw [State.setFrames_self ht]
    subst hg
    refine Or.inl ⟨v, ⟨(({ U with heap := s₂.heap, slotsUsed := s₂.slotsUsed } : State).setVm s₂.vm), Ls ++ L, c0 + mc, s0 + ms⟩,
      ⟨X.admits, X.cas, X.clock, X.frames, X.room, X.hears, X.method, X.code, (X.here.setHeapUsed s₂.heap s₂.slotsUsed).setVm hW'.alike, X.tail, State.WarmedH.trans X.warmed hW', X.limits, X.bytes, X.same.trans (hsame.setVm s.vm)⟩,
      ⟨g, mk, s₂, L, rfl, rfl, hqc, rfl, hL, rfl, rfl⟩, ?_⟩
    show Steps p.tables e below _ ((({ U with heap := s₂.heap, slotsUsed := s₂.slotsUsed } : State).setVm s₂.vm).setTop { g with pc := g.pc + len₂, stack := v.toList ++ g.stack })
    rw [← hs₂]
    exact hsteps
  · obtain ⟨e2, q2, q3, q4, q5, q6⟩ := id hsm
    have e3 : s₂ = ({ (U.calling g mk a).setFrames s₂.frames with heap := s₂.heap, slotsUsed := s₂.slotsUsed } : State).setVm s₂.vm := by
      have : s₂ = ({ s₂ with vm := (U.calling g mk a).vm } : State).setVm s₂.vm := rfl
      rw [e2] at this
      exact this
    have hf₂ : s₂.frames = .throwing q :: .java g :: U.frames.tail := hend
    have hW' : U.WarmedH s₂.vm := hW₂
    have hs₂ : s₂ = ((({ U with heap := s₂.heap, slotsUsed := s₂.slotsUsed } : State).setVm s₂.vm).setTop g).pushFrame (.throwing q) := by
      refine e3.trans ?_
      rw [hf₂, State.calling_eq h.top, State.setFrames_setFrames, State.pushFrame, State.frames_setTop _ hr', State.setTop_of_frames _ hr', State.setFrames_setFrames, hr]
      rfl
    have hsame : U.sameButNew ({ U with heap := s₂.heap, slotsUsed := s₂.slotsUsed } : State) L mc ms := by
      refine ⟨?_, q2, q3, q4, q5, q6⟩
      obtain ⟨t, ht, -⟩ := State.frames_cons hr
      show ({ U with heap := s₂.heap, slotsUsed := s₂.slotsUsed } : State) = { U.setFrames U.frames with heap := s₂.heap, slotsUsed := s₂.slotsUsed }
      rw [State.setFrames_self ht]
    subst hg
    refine Or.inr ⟨q, ⟨(({ U with heap := s₂.heap, slotsUsed := s₂.slotsUsed } : State).setVm s₂.vm), Ls ++ L, c0 + mc, s0 + ms⟩,
      ⟨X.admits, X.cas, X.clock, X.frames, X.room, X.hears, X.method, X.code, (X.here.setHeapUsed s₂.heap s₂.slotsUsed).setVm hW'.alike, X.tail, State.WarmedH.trans X.warmed hW', X.limits, X.bytes, X.same.trans (hsame.setVm s.vm)⟩,
      ⟨g, mk, s₂, L, E, ce, rfl, rfl, hx, hce, hcv, hcl, rfl, hL, rfl, rfl⟩, ?_⟩
    show Steps p.tables e below _ (((({ U with heap := s₂.heap, slotsUsed := s₂.slotsUsed } : State).setVm s₂.vm).setTop g).pushFrame (.throwing q))
    rw [← hs₂]
    exact hsteps
end Payer
section Calls
variable {p : Program} {l : Launch} {e : Env} {R : Room} {s : State} {m : MethodId} {args : Array Value} {below : List Frame} {meth : Method} {c : Code} {T : State} {locs : List Loc} {cells slots : Nat}
theorem vx_callV (X : Stand p l e R s m args below meth c T locs cells slots) (hexec : p.tables.exec = Jvm.exec) {own C : String} {index : Nat} {y : MethodName} {bytes : ByteArray} {maxL : Nat} {ret : Option FieldType}
    (hown : s.vm.findClass own = some m.cls) (hlink : (Cond.methodLink own index y).before args s = true) (hinst : (Cond.instanceMethod y).before args s = true) (hsel : (Cond.selects C y y).before args s = true)
    (hcode : (Cond.code y bytes maxL ret).before args s = true) (hy : y.cls ≠ "java/lang/invoke/MethodHandle" ∧ y.cls ≠ "java/lang/invoke/VarHandle")
    {W9 : Nat} {Pre : Pt → Array Value → Prop} {Post : Pt → Array Value → Option Value → Pt → Prop} {PostX : Pt → Array Value → Addr → Pt → Prop} (hK : vx_Back l R p e below s args y 3 W9 Pre Post PostX)
    {b : Addr} {cellB : Cell} (hcell : T.heap[b]? = some cellB) (hobj : cellB.vm.isStatics = false) (hcls : s.vm.findClass C = some cellB.cls)
    {g : JFrame} (hg : g.method = m) (hsize : g.locals.size = c.maxLocals) {argsL rest : List Value} (hlen : ∀ sig, parseMethodDescriptor y.desc = some sig → argsL.length = sig.parameters.length)
    (hstack : g.stack = argsL.reverse ++ .ref b :: rest) (hW : 2 * g.monitorRoom + (rest.map fun v => v.category).sum ≤ W9) (hdg : decode c.code g.pc = .ok (.invokevirtual index, 3))
    (hpre : ∀ vm₁, s.WarmedH vm₁ → Pre ⟨T.setVm vm₁, locs, cells, slots⟩ (Value.ref b :: argsL).toArray) :
    (∃ (v : Option Value) (vm₁ : Vm) (B : Pt), s.WarmedH vm₁ ∧ Stand p l e R s m args below meth c B.U B.locs B.cells B.slots ∧ Post ⟨T.setVm vm₁, locs, cells, slots⟩ (Value.ref b :: argsL).toArray v B ∧
      ∀ target, Steps p.tables e below (B.U.setTop { g with pc := g.pc + 3, stack := v.toList ++ rest }) target → Steps p.tables e below (T.setTop g) target) ∨
    (∃ (q : Addr) (vm₁ : Vm) (B : Pt), s.WarmedH vm₁ ∧ Stand p l e R s m args below meth c B.U B.locs B.cells B.slots ∧ PostX ⟨T.setVm vm₁, locs, cells, slots⟩ (Value.ref b :: argsL).toArray q B ∧
      Steps p.tables e below (T.setTop g) ((B.U.setTop { g with stack := rest }).pushFrame (.throwing q))) := by
  obtain ⟨mk, methM, hnamed, hmethM, hstM, habM⟩ := Cond.instanceMethod_spec hinst
  obtain ⟨methM', cM, hmethM', -, -, -, -, -, -, hsigM⟩ := Cond.code_spec hnamed hcode
  cases hmethM.symm.trans hmethM'
  obtain ⟨c2, r2, m2, q1, q2, q3, q4, kP, hkP, hkPi⟩ := Cond.selects_spec hsel
  cases hcls.symm.trans q1
  cases (State.methodFound?_of_named hnamed hy).symm.trans q2
  cases hnamed.symm.trans q3
  have hselP : selectMethod e.platform s.vm cellB.cls mk = .method mk := by rw [Launch.admits_selectMethod X.admits]; exact q4
  obtain ⟨vm₁, X₁, hstep₁⟩ := X.invokevirtual hexec hown hlink hnamed hmethM hstM hkP hkPi hy (a := b) (cell := cellB) hcell
    (fun z h => by rw [h] at hobj; cases hobj) hselP hmethM habM hkP hkPi (g := g) hg (argsL := argsL) (rest := rest) (hlen _ hsigM) hstack hdg
  rcases hK m meth c ⟨T.setVm vm₁, locs, cells, slots⟩ { g with stack := rest } (.invokevirtual index) mk (Value.ref b :: argsL).toArray X₁ hg hsize hdg hW (X₁.named hnamed) (hpre vm₁ X₁.warmed) with ⟨v, B, X', hpost, hsteps⟩ | ⟨q, B, X', hpost, hsteps⟩
  · exact Or.inl ⟨v, vm₁, B, X₁.warmed, X', hpost, fun target h => hstep₁ _ fun acts => by rw [doInvoke_state]; exact hsteps.trans h⟩
  · exact Or.inr ⟨q, vm₁, B, X₁.warmed, X', hpost, hstep₁ _ fun acts => by rw [doInvoke_state]; exact hsteps⟩
theorem vx_callS (X : Stand p l e R s m args below meth c T locs cells slots) (hexec : p.tables.exec = Jvm.exec) {own : String} {index : Nat} {y : MethodName} {bytes : ByteArray} {maxL : Nat} {ret : Option FieldType}
    (hown : s.vm.findClass own = some m.cls) (hlink : (Cond.methodLink own index y).before args s = true) (hstat : (Cond.static y).before args s = true) (hinit : (Cond.initialized y.cls).before args s = true)
    (hcode : (Cond.code y bytes maxL ret).before args s = true) (hy : y.cls ≠ "java/lang/invoke/MethodHandle" ∧ y.cls ≠ "java/lang/invoke/VarHandle")
    {W9 : Nat} {Pre : Pt → Array Value → Prop} {Post : Pt → Array Value → Option Value → Pt → Prop} {PostX : Pt → Array Value → Addr → Pt → Prop} (hK : vx_Back l R p e below s args y 3 W9 Pre Post PostX)
    {g : JFrame} (hg : g.method = m) (hsize : g.locals.size = c.maxLocals) {argsL rest : List Value} (hlen : ∀ sig, parseMethodDescriptor y.desc = some sig → argsL.length = sig.parameters.length)
    (hstack : g.stack = argsL.reverse ++ rest) (hW : 2 * g.monitorRoom + (rest.map fun v => v.category).sum ≤ W9) (hdg : decode c.code g.pc = .ok (.invokestatic index, 3))
    (hpre : ∀ vm₁, s.WarmedH vm₁ → Pre ⟨T.setVm vm₁, locs, cells, slots⟩ argsL.toArray) :
    (∃ (v : Option Value) (vm₁ : Vm) (B : Pt), s.WarmedH vm₁ ∧ Stand p l e R s m args below meth c B.U B.locs B.cells B.slots ∧ Post ⟨T.setVm vm₁, locs, cells, slots⟩ argsL.toArray v B ∧
      ∀ target, Steps p.tables e below (B.U.setTop { g with pc := g.pc + 3, stack := v.toList ++ rest }) target → Steps p.tables e below (T.setTop g) target) ∨
    (∃ (q : Addr) (vm₁ : Vm) (B : Pt), s.WarmedH vm₁ ∧ Stand p l e R s m args below meth c B.U B.locs B.cells B.slots ∧ PostX ⟨T.setVm vm₁, locs, cells, slots⟩ argsL.toArray q B ∧
      Steps p.tables e below (T.setTop g) ((B.U.setTop { g with stack := rest }).pushFrame (.throwing q))) := by
  obtain ⟨mk, hnamed⟩ := Cond.code_named hcode
  obtain ⟨methM, cM, hmethM, -, -, -, -, -, -, hsigM⟩ := Cond.code_spec hnamed hcode
  have hstatic : methM.isStatic = true := Cond.static_spec hnamed hmethM hstat
  obtain ⟨kP, hkP, -⟩ := className_of_methodNamed hnamed
  have hinitP : kP.init = .initialized := Cond.initialized_spec (findClass_of_methodNamed hnamed) hkP hinit
  obtain ⟨vm₁, X₁, hstep₁⟩ := X.invokestatic hexec hown hlink hnamed hmethM hstatic hkP hinitP hy (g := g) hg (argsL := argsL) (rest := rest) (hlen _ hsigM) hstack hdg
  rcases hK m meth c ⟨T.setVm vm₁, locs, cells, slots⟩ { g with stack := rest } (.invokestatic index) mk argsL.toArray X₁ hg hsize hdg hW (X₁.named hnamed) (hpre vm₁ X₁.warmed) with ⟨v, B, X', hpost, hsteps⟩ | ⟨q, B, X', hpost, hsteps⟩
  · exact Or.inl ⟨v, vm₁, B, X₁.warmed, X', hpost, fun target h => hstep₁ _ fun acts => by rw [doInvoke_state]; exact hsteps.trans h⟩
  · exact Or.inr ⟨q, vm₁, B, X₁.warmed, X', hpost, hstep₁ _ fun acts => by rw [doInvoke_state]; exact hsteps⟩
end Calls
theorem vx_cls {s : State} {T : State} {vm₁ : Vm} {E : String} {k : ClassId} (hW : s.WarmedH vm₁) (h : (T.setVm vm₁).vm.findClass E = some k) : s.vm.findClass E = some k := by
  have h1 : vm₁.findClass E = some k := h
  rw [hW.alike.findClass] at h1
  exact h1
/-- the method's frame g, with q thrown over it -/
def vx_W (p : Program) (l : Launch) (e : Env) (R : Room) (s : State) (m : MethodId) (args : Array Value) (below : List Frame) (meth : Method) (c : Code) (H : Heap) (locs : List Loc) (cells slots : Nat) (Q : State → Prop) (g : JFrame) (q : Addr) : Prop :=
  ∀ T : State, T.heap = H → Stand p l e R s m args below meth c T locs cells slots → ∃ t, Steps p.tables e below ((T.setTop g).pushFrame (.throwing q)) t ∧ Q t
def vx_Run (p : Program) (l : Launch) (e : Env) (R : Room) (s : State) (m : MethodId) (args : Array Value) (below : List Frame) (meth : Method) (c : Code) (H : Heap) (locs : List Loc) (cells slots mc ms : Nat) (g : JFrame) (rest : List Value) (Qa : State → Outcome → State → Prop) (XC : String → State → State → Prop) (free : Addr → Prop) : Prop :=
  ∀ T : State, T.heap = H → Stand p l e R s m args below meth c T locs cells slots →
    (∃ (v : Option Value) (st₀ t T' : State) (L : List Loc), st₀.heap = H ∧ Stand p l e R s m args below meth c T' (locs ++ L) (cells + mc) (slots + ms) ∧ (∀ q ∈ L, free q.base) ∧ T'.heap = t.heap ∧ T'.vm = t.vm ∧ Qa st₀ (.returned v) t ∧
      Goes p e below T g T' { g with pc := g.pc + 3, stack := v.toList ++ rest }) ∨
    (∃ (q : Addr) (st₀ t T' : State) (L : List Loc) (E : String) (ce : Cell), st₀.heap = H ∧ Stand p l e R s m args below meth c T' (locs ++ L) (cells + mc) (slots + ms) ∧ (∀ z ∈ L, free z.base) ∧ T'.heap = t.heap ∧ T'.vm = t.vm ∧ XC E st₀ t ∧ t.heap[q]? = some ce ∧ ce.vm = .none ∧ s.vm.findClass E = some ce.cls ∧
      Steps p.tables e below (T.setTop g) ((T'.setTop { g with stack := rest }).pushFrame (.throwing q)))
def vx_X {S : Type} (px : S → Prop) (B : String → S → State → Prop) (A : Nat → Prop) : String → State → State → Prop := fun E st t => ∃ u : S, px u ∧ B E u t ∧ va_F A st t
section Runs
variable {p : Program} {l : Launch} {e : Env} {R : Room} {s : State} {m : MethodId} {args : Array Value} {below : List Frame} {meth : Method} {c : Code} {H : Heap} {locs : List Loc} {cells slots : Nat}
variable {y : MethodName} {bytes cc : ByteArray} {maxL nL mc ms n index : Nat} {ret : Option FieldType} {ws : List Cond} {rm : Room} {Pc : Array Value → State → Prop} {Qc : Array Value → State → Outcome → State → Prop} {XC : String → State → State → Prop} {free : Addr → Prop} {Ts : List Cond} {own C : String} {b : Addr} {As rest : List Value} {g : JFrame}
theorem vx_callBack (cb : CallB R s args own index y bytes maxL ret ws rm mc ms n) (hM : vx_Met l y ws rm Pc Qc XC mc ms free) (hbl : FrameBlind Pc) : vx_Back l R p e below s args y 3 8 (PreOf R mc ms Pc) (PostOf Qc mc ms free) (vx_Post XC mc ms free) := by
  obtain ⟨hrc, hrs, hfr, hlo, hws, hcw, -, hini, -⟩ := cb
  exact vx_back (bytes := bytes) (maxL := maxL) (ret := ret) hM hbl hrc hrs hfr hlo hws hcw (fun a' U hW => word_at hW (Or.inl (by first | rfl | simp [Cond.onTables, Cond.keeps, Cond.steady])) hini)
theorem vx_runV (S : CallFix p m c cc nL s args Ts own) (hM : vx_Met l y ws rm Pc Qc XC mc ms free) (cw : CallW R s args own C index y bytes maxL ret ws rm mc ms n) (hp : PreV s H C b Pc As)
    (hg : g.method = m) (hn : As.length = n) (hsize : g.locals.size = nL) (hstack : g.stack = As.reverse ++ .ref b :: rest) (hW : 2 * g.monitorRoom + (rest.map fun v => v.category).sum ≤ 8) (hdg : decode cc g.pc = .ok (.invokevirtual index, 3)) (hf : cells + mc ≤ R.cells ∧ slots + ms ≤ R.slots) :
    vx_Run p l e R s m args below meth c H locs cells slots mc ms g rest (Qc (Value.ref b :: As).toArray) XC free := by
  have hK : vx_Back l R p e below s args y 3 8 (PreOf R mc ms Pc) (PostOf Qc mc ms free) (vx_Post XC mc ms free) := vx_callBack cw.1 hM hp.1
  obtain ⟨⟨-, -, -, -, -, -, hcode, -, hy, hlen, hl⟩, hin, hse⟩ := cw
  obtain ⟨hx, hb, hml, ho, -⟩ := S
  obtain ⟨-, ⟨cellB, hcB, hoB, hclB⟩, hPc⟩ := hp
  intro T hT X
  rcases vx_callV X hx (C := C) (bytes := bytes) (maxL := maxL) (ret := ret) ho hl hin hse hcode hy hK (by rw [hT]; exact hcB) hoB hclB hg (hsize.trans hml.symm) (argsL := As) (rest := rest) (fun sig h => hn.trans (hlen sig h)) hstack hW (by rw [hb]; exact hdg)
    (fun vm₁ hW₁ => ⟨hf.1, hf.2, hPc (T.setVm vm₁) hT hW₁⟩) with ⟨v, vm₁, ⟨U', l2, c2, s2⟩, hW₁, X', ⟨g', mk, t, L, e1, e2, hq, h1, hL, h2, h3⟩, st⟩ | ⟨q, vm₁, ⟨U', l2, c2, s2⟩, hW₁, X', ⟨g', mk, t, L, E, ce, e1, e2, hq, hce, hcv, hcl, h1, hL, h2, h3⟩, st⟩
  · dsimp only [Pt.U, Pt.locs, Pt.cells, Pt.slots] at X' e1 e2 h1 h2 h3 st
    subst h1; subst h2; subst h3
    exact Or.inl ⟨v, (T.setVm vm₁).calling g' mk (Value.ref b :: As).toArray, t, U', L, hT, X', hL, e1, e2, hq, st⟩
  · dsimp only [Pt.U, Pt.locs, Pt.cells, Pt.slots] at X' e1 e2 h1 h2 h3 st hcl
    subst h1; subst h2; subst h3
    exact Or.inr ⟨q, (T.setVm vm₁).calling g' mk (Value.ref b :: As).toArray, t, U', L, E, ce, hT, X', hL, e1, e2, hq, hce, hcv, vx_cls hW₁ hcl, st⟩
theorem vx_runS (S : CallFix p m c cc nL s args Ts own) (hM : vx_Met l y ws rm Pc Qc XC mc ms free) (cw : CallB R s args own index y bytes maxL ret ws rm mc ms n ∧ (Cond.static y).before args s = true) (hp : PreS s H Pc As)
    (hg : g.method = m) (hn : As.length = n) (hsize : g.locals.size = nL) (hstack : g.stack = As.reverse ++ rest) (hW : 2 * g.monitorRoom + (rest.map fun v => v.category).sum ≤ 8) (hdg : decode cc g.pc = .ok (.invokestatic index, 3)) (hf : cells + mc ≤ R.cells ∧ slots + ms ≤ R.slots) :
    vx_Run p l e R s m args below meth c H locs cells slots mc ms g rest (Qc As.toArray) XC free := by
  have hK : vx_Back l R p e below s args y 3 8 (PreOf R mc ms Pc) (PostOf Qc mc ms free) (vx_Post XC mc ms free) := vx_callBack cw.1 hM hp.1
  obtain ⟨⟨-, -, -, -, -, -, hcode, hini, hy, hlen, hl⟩, hstt⟩ := cw
  obtain ⟨hx, hb, hml, ho, -⟩ := S
  intro T hT X
  rcases vx_callS X hx (bytes := bytes) (maxL := maxL) (ret := ret) ho hl hstt hini hcode hy hK hg (hsize.trans hml.symm) (argsL := As) (rest := rest) (fun sig h => hn.trans (hlen sig h)) hstack hW (by rw [hb]; exact hdg)
    (fun vm₁ hW₁ => ⟨hf.1, hf.2, hp.2 (T.setVm vm₁) hT hW₁⟩) with ⟨v, vm₁, ⟨U', l2, c2, s2⟩, hW₁, X', ⟨g', mk, t, L, e1, e2, hq, h1, hL, h2, h3⟩, st⟩ | ⟨q, vm₁, ⟨U', l2, c2, s2⟩, hW₁, X', ⟨g', mk, t, L, E, ce, e1, e2, hq, hce, hcv, hcl, h1, hL, h2, h3⟩, st⟩
  · dsimp only [Pt.U, Pt.locs, Pt.cells, Pt.slots] at X' e1 e2 h1 h2 h3 st
    subst h1; subst h2; subst h3
    exact Or.inl ⟨v, (T.setVm vm₁).calling g' mk As.toArray, t, U', L, hT, X', hL, e1, e2, hq, st⟩
  · dsimp only [Pt.U, Pt.locs, Pt.cells, Pt.slots] at X' e1 e2 h1 h2 h3 st hcl
    subst h1; subst h2; subst h3
    exact Or.inr ⟨q, (T.setVm vm₁).calling g' mk As.toArray, t, U', L, E, ce, hT, X', hL, e1, e2, hq, hce, hcv, vx_cls hW₁ hcl, st⟩
end Runs
section Rows
variable {p : Program} {l : Launch} {e : Env} {R : Room} {s : State} {m : MethodId} {args : Array Value} {below : List Frame} {meth : Method} {c : Code} {H : Heap} {locs : List Loc} {cells slots : Nat} {Q : State → Prop}
variable {mc ms : Nat} {free : Addr → Prop} {A0 A1 : Nat → Prop} {H0 : Heap} {a : Array Value} {pc : Nat} {ls : Array Slot} {st0 rest : List Value}
theorem vx_keep {st₀ t T' : State} {L : List Loc} (h0 : st₀.heap = H) (e1 : T'.heap = t.heap) (hS : va_S A0 H0 H locs) (hA : ∀ q, q < H.size → A1 q → A0 q) (hf : ∀ q, free q → A0 q) (hL : ∀ q ∈ L, free q.base) (hF : va_F A1 st₀ t) :
    H.size ≤ T'.heap.size ∧ (∀ q : Nat, q < H.size → ¬ A1 q → T'.heap[q]? = H[q]?) ∧ va_S A0 H0 T'.heap (locs ++ L) := by
  obtain ⟨hz, hk⟩ := hF
  rw [h0] at hz hk
  exact ⟨by rw [e1]; exact hz, fun q h1 h2 => by rw [e1]; exact hk q h1 h2,
    ⟨Nat.le_trans hS.1 (by rw [e1]; exact hz), fun q h1 h2 => by rw [e1, hk q (Nat.lt_of_lt_of_le h1 hS.1) (fun z => h2 (hA q (Nat.lt_of_lt_of_le h1 hS.1) z))]; exact hS.2.1 q h1 h2, fun q hq => by
      rcases List.mem_append.mp hq with h | h
      · exact hS.2.2 q h
      · exact hf _ (hL q h)⟩⟩
theorem vx_calli {S SX : Type} {post : Int32 → S → Prop} {px : SX → Prop} {B : S → State → Prop} {BX : String → SX → State → Prop} {AX : Nat → Prop} (hr : vx_Run p l e R s m args below meth c H locs cells slots mc ms (F0 m pc ls st0) rest (va_Qi post B A1 a) (vx_X px BX AX) free) (hS : va_S A0 H0 H locs) (hA : ∀ q, q < H.size → A1 q → A0 q) (hf : ∀ q, free q → A0 q) (hAX : ∀ q, q < H.size → AX q → A0 q)
    (kx : ∀ (E : String) (ce : Cell) (q9 : Addr) (u : SX) (t : State) (H1 : Heap) (locs1 : List Loc), t.heap = H1 → s.vm.Alike t.vm → px u → BX E u t → H.size ≤ H1.size → (∀ q : Nat, q < H.size → ¬ AX q → H1[q]? = H[q]?) → va_S A0 H0 H1 locs1 → H1[q9]? = some ce → ce.vm = .none → s.vm.findClass E = some ce.cls → vx_W p l e R s m args below meth c H1 locs1 (cells + mc) (slots + ms) Q (F0 m pc ls rest) q9)
    (kk : ∀ (r : Int32) (u : S) (t : State) (H1 : Heap) (locs1 : List Loc), t.heap = H1 → s.vm.Alike t.vm → post r u → B u t → H.size ≤ H1.size → (∀ q : Nat, q < H.size → ¬ A1 q → H1[q]? = H[q]?) → va_S A0 H0 H1 locs1 → W p l e R s m args below meth c H1 locs1 (cells + mc) (slots + ms) Q (F0 m (pc + 3) ls (.int r :: rest))) : W p l e R s m args below meth c H locs cells slots Q (F0 m pc ls st0) := by
  intro T hT X
  rcases hr T hT X with ⟨v, st₀, t, T', L, h0, X', hL, e1, e2, ⟨⟨r, u, hv, hp, hb⟩, hF⟩, st⟩ | ⟨q, st₀, t, T', L, E, ce, h0, X', hL, e1, e2, ⟨u, hp, hb, hF⟩, hce, hcv, hcl, st⟩
  · cases hv
    obtain ⟨k1, k2, k3⟩ := vx_keep h0 e1 hS hA hf hL hF
    obtain ⟨t2, a1, b1⟩ := kk r u t T'.heap (locs ++ L) e1.symm (by rw [← e2]; exact X'.warmed.alike) hp hb k1 k2 k3 T' rfl X'
    exact ⟨t2, st t2 a1, b1⟩
  · obtain ⟨k1, k2, k3⟩ := vx_keep h0 e1 hS hAX hf hL hF
    obtain ⟨t2, a1, b1⟩ := kx E ce q u t T'.heap (locs ++ L) e1.symm (by rw [← e2]; exact X'.warmed.alike) hp hb k1 k2 k3 (by rw [e1]; exact hce) hcv hcl T' rfl X'
    exact ⟨t2, st.trans a1, b1⟩
theorem vx_calll {S SX : Type} {post : Int64 → S → Prop} {px : SX → Prop} {B : S → State → Prop} {BX : String → SX → State → Prop} {AX : Nat → Prop} (hr : vx_Run p l e R s m args below meth c H locs cells slots mc ms (F0 m pc ls st0) rest (va_Ql post B A1 a) (vx_X px BX AX) free) (hS : va_S A0 H0 H locs) (hA : ∀ q, q < H.size → A1 q → A0 q) (hf : ∀ q, free q → A0 q) (hAX : ∀ q, q < H.size → AX q → A0 q)
    (kx : ∀ (E : String) (ce : Cell) (q9 : Addr) (u : SX) (t : State) (H1 : Heap) (locs1 : List Loc), t.heap = H1 → s.vm.Alike t.vm → px u → BX E u t → H.size ≤ H1.size → (∀ q : Nat, q < H.size → ¬ AX q → H1[q]? = H[q]?) → va_S A0 H0 H1 locs1 → H1[q9]? = some ce → ce.vm = .none → s.vm.findClass E = some ce.cls → vx_W p l e R s m args below meth c H1 locs1 (cells + mc) (slots + ms) Q (F0 m pc ls rest) q9)
    (kk : ∀ (r : Int64) (u : S) (t : State) (H1 : Heap) (locs1 : List Loc), t.heap = H1 → s.vm.Alike t.vm → post r u → B u t → H.size ≤ H1.size → (∀ q : Nat, q < H.size → ¬ A1 q → H1[q]? = H[q]?) → va_S A0 H0 H1 locs1 → W p l e R s m args below meth c H1 locs1 (cells + mc) (slots + ms) Q (F0 m (pc + 3) ls (.long r :: rest))) : W p l e R s m args below meth c H locs cells slots Q (F0 m pc ls st0) := by
  intro T hT X
  rcases hr T hT X with ⟨v, st₀, t, T', L, h0, X', hL, e1, e2, ⟨⟨r, u, hv, hp, hb⟩, hF⟩, st⟩ | ⟨q, st₀, t, T', L, E, ce, h0, X', hL, e1, e2, ⟨u, hp, hb, hF⟩, hce, hcv, hcl, st⟩
  · cases hv
    obtain ⟨k1, k2, k3⟩ := vx_keep h0 e1 hS hA hf hL hF
    obtain ⟨t2, a1, b1⟩ := kk r u t T'.heap (locs ++ L) e1.symm (by rw [← e2]; exact X'.warmed.alike) hp hb k1 k2 k3 T' rfl X'
    exact ⟨t2, st t2 a1, b1⟩
  · obtain ⟨k1, k2, k3⟩ := vx_keep h0 e1 hS hAX hf hL hF
    obtain ⟨t2, a1, b1⟩ := kx E ce q u t T'.heap (locs ++ L) e1.symm (by rw [← e2]; exact X'.warmed.alike) hp hb k1 k2 k3 (by rw [e1]; exact hce) hcv hcl T' rfl X'
    exact ⟨t2, st.trans a1, b1⟩
theorem vx_callf {S SX : Type} {post : UInt32 → S → Prop} {px : SX → Prop} {B : S → State → Prop} {BX : String → SX → State → Prop} {AX : Nat → Prop} (hr : vx_Run p l e R s m args below meth c H locs cells slots mc ms (F0 m pc ls st0) rest (va_Qf post B A1 a) (vx_X px BX AX) free) (hS : va_S A0 H0 H locs) (hA : ∀ q, q < H.size → A1 q → A0 q) (hf : ∀ q, free q → A0 q) (hAX : ∀ q, q < H.size → AX q → A0 q)
    (kx : ∀ (E : String) (ce : Cell) (q9 : Addr) (u : SX) (t : State) (H1 : Heap) (locs1 : List Loc), t.heap = H1 → s.vm.Alike t.vm → px u → BX E u t → H.size ≤ H1.size → (∀ q : Nat, q < H.size → ¬ AX q → H1[q]? = H[q]?) → va_S A0 H0 H1 locs1 → H1[q9]? = some ce → ce.vm = .none → s.vm.findClass E = some ce.cls → vx_W p l e R s m args below meth c H1 locs1 (cells + mc) (slots + ms) Q (F0 m pc ls rest) q9)
    (kk : ∀ (r : UInt32) (u : S) (t : State) (H1 : Heap) (locs1 : List Loc), t.heap = H1 → s.vm.Alike t.vm → post r u → B u t → H.size ≤ H1.size → (∀ q : Nat, q < H.size → ¬ A1 q → H1[q]? = H[q]?) → va_S A0 H0 H1 locs1 → W p l e R s m args below meth c H1 locs1 (cells + mc) (slots + ms) Q (F0 m (pc + 3) ls (.float r :: rest))) : W p l e R s m args below meth c H locs cells slots Q (F0 m pc ls st0) := by
  intro T hT X
  rcases hr T hT X with ⟨v, st₀, t, T', L, h0, X', hL, e1, e2, ⟨⟨r, u, hv, hp, hb⟩, hF⟩, st⟩ | ⟨q, st₀, t, T', L, E, ce, h0, X', hL, e1, e2, ⟨u, hp, hb, hF⟩, hce, hcv, hcl, st⟩
  · cases hv
    obtain ⟨k1, k2, k3⟩ := vx_keep h0 e1 hS hA hf hL hF
    obtain ⟨t2, a1, b1⟩ := kk r u t T'.heap (locs ++ L) e1.symm (by rw [← e2]; exact X'.warmed.alike) hp hb k1 k2 k3 T' rfl X'
    exact ⟨t2, st t2 a1, b1⟩
  · obtain ⟨k1, k2, k3⟩ := vx_keep h0 e1 hS hAX hf hL hF
    obtain ⟨t2, a1, b1⟩ := kx E ce q u t T'.heap (locs ++ L) e1.symm (by rw [← e2]; exact X'.warmed.alike) hp hb k1 k2 k3 (by rw [e1]; exact hce) hcv hcl T' rfl X'
    exact ⟨t2, st.trans a1, b1⟩
theorem vx_calld {S SX : Type} {post : UInt64 → S → Prop} {px : SX → Prop} {B : S → State → Prop} {BX : String → SX → State → Prop} {AX : Nat → Prop} (hr : vx_Run p l e R s m args below meth c H locs cells slots mc ms (F0 m pc ls st0) rest (va_Qd post B A1 a) (vx_X px BX AX) free) (hS : va_S A0 H0 H locs) (hA : ∀ q, q < H.size → A1 q → A0 q) (hf : ∀ q, free q → A0 q) (hAX : ∀ q, q < H.size → AX q → A0 q)
    (kx : ∀ (E : String) (ce : Cell) (q9 : Addr) (u : SX) (t : State) (H1 : Heap) (locs1 : List Loc), t.heap = H1 → s.vm.Alike t.vm → px u → BX E u t → H.size ≤ H1.size → (∀ q : Nat, q < H.size → ¬ AX q → H1[q]? = H[q]?) → va_S A0 H0 H1 locs1 → H1[q9]? = some ce → ce.vm = .none → s.vm.findClass E = some ce.cls → vx_W p l e R s m args below meth c H1 locs1 (cells + mc) (slots + ms) Q (F0 m pc ls rest) q9)
    (kk : ∀ (r : UInt64) (u : S) (t : State) (H1 : Heap) (locs1 : List Loc), t.heap = H1 → s.vm.Alike t.vm → post r u → B u t → H.size ≤ H1.size → (∀ q : Nat, q < H.size → ¬ A1 q → H1[q]? = H[q]?) → va_S A0 H0 H1 locs1 → W p l e R s m args below meth c H1 locs1 (cells + mc) (slots + ms) Q (F0 m (pc + 3) ls (.double r :: rest))) : W p l e R s m args below meth c H locs cells slots Q (F0 m pc ls st0) := by
  intro T hT X
  rcases hr T hT X with ⟨v, st₀, t, T', L, h0, X', hL, e1, e2, ⟨⟨r, u, hv, hp, hb⟩, hF⟩, st⟩ | ⟨q, st₀, t, T', L, E, ce, h0, X', hL, e1, e2, ⟨u, hp, hb, hF⟩, hce, hcv, hcl, st⟩
  · cases hv
    obtain ⟨k1, k2, k3⟩ := vx_keep h0 e1 hS hA hf hL hF
    obtain ⟨t2, a1, b1⟩ := kk r u t T'.heap (locs ++ L) e1.symm (by rw [← e2]; exact X'.warmed.alike) hp hb k1 k2 k3 T' rfl X'
    exact ⟨t2, st t2 a1, b1⟩
  · obtain ⟨k1, k2, k3⟩ := vx_keep h0 e1 hS hAX hf hL hF
    obtain ⟨t2, a1, b1⟩ := kx E ce q u t T'.heap (locs ++ L) e1.symm (by rw [← e2]; exact X'.warmed.alike) hp hb k1 k2 k3 (by rw [e1]; exact hce) hcv hcl T' rfl X'
    exact ⟨t2, st.trans a1, b1⟩
theorem vx_callv {S SX : Type} {post : S → Prop} {px : SX → Prop} {B : S → State → Prop} {BX : String → SX → State → Prop} {AX : Nat → Prop} (hr : vx_Run p l e R s m args below meth c H locs cells slots mc ms (F0 m pc ls st0) rest (va_Qv post B A1 a) (vx_X px BX AX) free) (hS : va_S A0 H0 H locs) (hA : ∀ q, q < H.size → A1 q → A0 q) (hf : ∀ q, free q → A0 q) (hAX : ∀ q, q < H.size → AX q → A0 q)
    (kx : ∀ (E : String) (ce : Cell) (q9 : Addr) (u : SX) (t : State) (H1 : Heap) (locs1 : List Loc), t.heap = H1 → s.vm.Alike t.vm → px u → BX E u t → H.size ≤ H1.size → (∀ q : Nat, q < H.size → ¬ AX q → H1[q]? = H[q]?) → va_S A0 H0 H1 locs1 → H1[q9]? = some ce → ce.vm = .none → s.vm.findClass E = some ce.cls → vx_W p l e R s m args below meth c H1 locs1 (cells + mc) (slots + ms) Q (F0 m pc ls rest) q9)
    (kk : ∀ (u : S) (t : State) (H1 : Heap) (locs1 : List Loc), t.heap = H1 → s.vm.Alike t.vm → post u → B u t → H.size ≤ H1.size → (∀ q : Nat, q < H.size → ¬ A1 q → H1[q]? = H[q]?) → va_S A0 H0 H1 locs1 → W p l e R s m args below meth c H1 locs1 (cells + mc) (slots + ms) Q (F0 m (pc + 3) ls (rest))) : W p l e R s m args below meth c H locs cells slots Q (F0 m pc ls st0) := by
  intro T hT X
  rcases hr T hT X with ⟨v, st₀, t, T', L, h0, X', hL, e1, e2, ⟨⟨u, hv, hp, hb⟩, hF⟩, st⟩ | ⟨q, st₀, t, T', L, E, ce, h0, X', hL, e1, e2, ⟨u, hp, hb, hF⟩, hce, hcv, hcl, st⟩
  · cases hv
    obtain ⟨k1, k2, k3⟩ := vx_keep h0 e1 hS hA hf hL hF
    obtain ⟨t2, a1, b1⟩ := kk u t T'.heap (locs ++ L) e1.symm (by rw [← e2]; exact X'.warmed.alike) hp hb k1 k2 k3 T' rfl X'
    exact ⟨t2, st t2 a1, b1⟩
  · obtain ⟨k1, k2, k3⟩ := vx_keep h0 e1 hS hAX hf hL hF
    obtain ⟨t2, a1, b1⟩ := kx E ce q u t T'.heap (locs ++ L) e1.symm (by rw [← e2]; exact X'.warmed.alike) hp hb k1 k2 k3 (by rw [e1]; exact hce) hcv hcl T' rfl X'
    exact ⟨t2, st.trans a1, b1⟩
/-- caught by the row x of this method's table; the rows ahead don't take it -/
theorem vx_catch {own name : String} {E : String} {ce : Cell} {q : Addr} (hown : s.vm.findClass own = some m.cls) (pre : List ExceptionTableEntry) (x : ExceptionTableEntry) (suf : List ExceptionTableEntry) (hsplit : c.exceptionTable.toList = pre ++ x :: suf)
    (hpass : ∀ z ∈ pre, covers z pc = false ∨ (z.catchType ≠ 0 ∧ ∃ nm : String, (Cond.classLink own z.catchType nm).before args s = true ∧ va_Nc E nm s)) (hx : covers x pc = true) (h0 : x.catchType ≠ 0)
    (hlink : (Cond.classLink own x.catchType name).before args s = true) (hcast : (Cond.castable E name).before args s = true) (hcell : H[q]? = some ce) (hv : ce.vm = .none) (hcl : s.vm.findClass E = some ce.cls)
    (kk : W p l e R s m args below meth c H locs cells slots Q (F0 m x.handlerPc ls [.ref q])) : vx_W p l e R s m args below meth c H locs cells slots Q (F0 m pc ls rest) q := by
  intro T hT X
  have hpl : e.platform.magicAccessors = ({} : Platform).magicAccessors := by rw [X.admits.platform]
  obtain ⟨c3, c4, hc3, hc4, hasg⟩ := Cond.castable_spec hcast
  cases Option.some.inj (hc3.symm.trans hcl)
  obtain ⟨c5, hc5, hcl5⟩ := Cond.classLink_spec hown hlink e.platform hpl
  cases Option.some.inj (hc4.symm.trans hc5)
  obtain ⟨vm', X', st⟩ := X.thenCaughtThrough q (g := F0 m pc ls rest) rfl (Steps.refl _) (by rw [hT]; exact hcell) (by rw [hv]; rfl) (by obtain ⟨k9, h9, -⟩ := Vm.findClass_spec hcl; exact ⟨k9, h9⟩) pre x suf hsplit
    (fun z hz => by
      rcases hpass z hz with h | ⟨hz0, nm, hl1, hn1⟩
      · exact Or.inl h
      · obtain ⟨c6, hc6, hcl6⟩ := Cond.classLink_spec hown hl1 e.platform hpl
        obtain ⟨a8, b8, h1, h2, h3⟩ := hn1
        cases Option.some.inj (h1.symm.trans hcl)
        cases Option.some.inj (h2.symm.trans hc6)
        exact Or.inr ⟨hz0, _, hcl6, h3⟩) hx (Or.inr ⟨h0, c4, hcl5, hasg⟩)
  obtain ⟨t, a1, b1⟩ := kk (T.setVm vm') hT X'
  exact ⟨t, st.trans a1, b1⟩
end Rows
section Ends
variable {p : Program} {l : Launch} {e : Env} {R : Room} {s : State} {m : MethodId} {args : Array Value} {below : List Frame} {meth : Method} {c : Code} {H : Heap} {locs : List Loc} {cells slots : Nat} {Q : State → Prop}
variable {mc ms : Nat} {free : Addr → Prop} {A0 A1 : Nat → Prop} {H0 : Heap} {a : Array Value} {ls : Array Slot} {st0 rest : List Value}
variable {Qc : Array Value → State → Outcome → State → Prop} {XC : String → State → State → Prop}
/-- what a body that may throw owes at its end -/
def vx_MQ (below : List Frame) (Qc : Array Value → State → Outcome → State → Prop) (XC : String → State → State → Prop) (a : Array Value) (s : State) (mc ms : Nat) (free : Addr → Prop) : State → Prop := fun t =>
  ∃ o, t.status = .running ∧ Ended t below o ∧ vx_Q Qc XC mc ms free a s o t
theorem vx_ret {g : JFrame} {mc ms : Nat} (k : W p l e R s m args below meth c H locs cells slots (MQ below Qc args s mc ms free) g) : W p l e R s m args below meth c H locs cells slots (vx_MQ below Qc XC args s mc ms free) g := by
  intro T hT X
  obtain ⟨t, a1, o, b1, b2, b3, b4⟩ := k T hT X
  exact ⟨t, a1, o, b1, b2, Or.inl ⟨b3, b4⟩⟩
/-- not caught here: it goes on to the caller -/
theorem vx_widen {g : JFrame} {q : Addr} {k n : Nat} (h1 : cells ≤ k) (h2 : slots ≤ n) (kk : vx_W p l e R s m args below meth c H locs k n Q g q) : vx_W p l e R s m args below meth c H locs cells slots Q g q := fun T hT X => kk T hT (stand_widen X h1 h2)
theorem vx_out {pc : Nat} {E : String} {ce : Cell} {q : Addr} {mc ms : Nat} (hout : ∀ x ∈ c.exceptionTable.toList, covers x pc = false) (hlocks : meth.locks = false) (hcell : H[q]? = some ce) (hv : ce.vm = .none) (hcl : s.vm.findClass E = some ce.cls)
    (hx : ∀ t : State, t.heap = H → s.vm.Alike t.vm → XC E s t) (hf : ∀ z ∈ locs, free z.base) (hc : cells ≤ mc) (hs : slots ≤ ms) :
    vx_W p l e R s m args below meth c H locs cells slots (vx_MQ below Qc XC args s mc ms free) (F0 m pc ls rest) q := by
  intro T hT X
  obtain ⟨st1, hrun, hend, hW, hsm⟩ := X.leaveThrown q (g := F0 m pc ls rest) rfl rfl rfl hout hlocks
  have hcell9 : (T.setFrames (.throwing q :: below)).heap[q]? = some ce := by
    show T.heap[q]? = some ce
    rw [hT]; exact hcell
  exact ⟨_, st1, .threw q, hrun, hend, Or.inr ⟨q, rfl, E, ce, locs, hx _ hT hW.alike, hcell9, hv, hcl, hW, hsm.mono hc hs, hf⟩⟩
theorem vx_frame {U : State} {k n : Nat} (h : s.sameButNew ({ U with vm := s.vm } : State) locs k n) : s.heap.size ≤ U.heap.size ∧ ∀ q : Nat, q < s.heap.size → (∀ z ∈ locs, z.base ≠ q) → U.heap[q]? = s.heap[q]? := by
  obtain ⟨-, h2, -, -, -, h6⟩ := h
  refine ⟨h2, fun q hq hz => ?_⟩
  obtain ⟨c9, e1, e2, e3, e4⟩ := h6 q _ (Array.getElem?_eq_getElem hq)
  have hs : c9.slots = (s.heap[q]).slots := Array.ext_getElem? fun i => e4 i fun hm => hz _ hm rfl
  have h9 : c9 = s.heap[q] := by
    rw [hs] at e2
    exact e2
  have e5 : U.heap[q]? = some c9 := e1
  rw [e5, h9, Array.getElem?_eq_getElem hq]
/-- the words of a throw but the four that speak of the heap -/
def vx_no (w : Cond) : Bool := decide (w ≠ .isRef (.static Bundle.tN "UNASSIGNED_STACK" Bundle.steD)) && decide (w ≠ .isRef (.static Bundle.tN "SUPPRESSED_SENTINEL" Bundle.listD)) && decide (w ≠ .laysStatic Bundle.tN "UNASSIGNED_STACK" Bundle.steD) && decide (w ≠ .laysStatic Bundle.tN "SUPPRESSED_SENTINEL" Bundle.listD)
def vx_at0 (own : String) (ic : Nat) (X : String) (names : List String) : List Cond := (Bundle.ownAtoms0 own ic X names).filter vx_no
def vx_atS (own : String) (ic : Nat) (X : String) (names : List String) : List Cond := (Bundle.ownAtoms own ic X names).filter vx_no
/-- a word that the tables alone decide, or a good one -/
def vx_ot (w : Cond) : Bool := w.onTables || goodWord w
theorem vx_ot_at {args a' : Array Value} {s U : State} {w : Cond} (hW : s.WarmedH U.vm) (hvm : s.vm = U.vm) (hg : vx_ot w = true) (h : w.before args s = true) : w.before a' U = true := by
  simp only [vx_ot, Bool.or_eq_true] at hg
  rcases hg with hg | hg
  · exact va_tabs hg hvm h
  · exact word_at hW (good_of_word hg) h
/-- a list's words: the good ones out of the method's own list, the others by premises of their own -/
theorem vx_hat {args : Array Value} {s : State} {L B : List Cond} (h1 : ∀ w ∈ L.filter goodWord, w.before args s = true) (h2 : ∀ w ∈ L.filter (fun w => !goodWord w), w ∈ B) (h3 : ∀ w ∈ B, w.before args s = true) : ∀ w ∈ L, w.before args s = true := by
  intro w hw
  by_cases g : goodWord w = true
  · exact h1 w (List.mem_filter.mpr ⟨hw, g⟩)
  · refine h3 w (h2 w (List.mem_filter.mpr ⟨hw, ?_⟩))
    show (!goodWord w) = true
    cases hgw : goodWord w
    · rfl
    · exact absurd hgw g
theorem vx_c {args : Array Value} {s : State} {w : Cond} {B : List Cond} (h : w.before args s = true) (t : ∀ w ∈ B, w.before args s = true) : ∀ w' ∈ w :: B, w'.before args s = true := fun w' h' => (List.mem_cons.mp h').elim (fun e => by rw [e]; exact h) (t w')
theorem vx_n {args : Array Value} {s : State} : ∀ w ∈ ([] : List Cond), w.before args s = true := fun _ h => nomatch h
theorem vx_own {args : Array Value} {s : State} {L : List Cond} (h1 : ∀ w ∈ L.filter vx_no, w.before args s = true)
    (hU : (Cond.isRef (.static Bundle.tN "UNASSIGNED_STACK" Bundle.steD)).before args s = true) (hN : (Cond.isRef (.static Bundle.tN "SUPPRESSED_SENTINEL" Bundle.listD)).before args s = true)
    (lU : (Cond.laysStatic Bundle.tN "UNASSIGNED_STACK" Bundle.steD).before args s = true) (lN : (Cond.laysStatic Bundle.tN "SUPPRESSED_SENTINEL" Bundle.listD).before args s = true) : ∀ w ∈ L, w.before args s = true := by
  intro w hw
  by_cases e1 : w = .isRef (.static Bundle.tN "UNASSIGNED_STACK" Bundle.steD)
  · rw [e1]; exact hU
  · by_cases e2 : w = .isRef (.static Bundle.tN "SUPPRESSED_SENTINEL" Bundle.listD)
    · rw [e2]; exact hN
    · by_cases e3 : w = .laysStatic Bundle.tN "UNASSIGNED_STACK" Bundle.steD
      · rw [e3]; exact lU
      · by_cases e4 : w = .laysStatic Bundle.tN "SUPPRESSED_SENTINEL" Bundle.listD
        · rw [e4]; exact lN
        · exact h1 w (List.mem_filter.mpr ⟨hw, by unfold vx_no; rw [decide_eq_true e1, decide_eq_true e2, decide_eq_true e3, decide_eq_true e4]; rfl⟩)
/-- where a static field lies, its class's statics cell in H -/
def vx_L (C n d : String) (A : Nat → Prop) (U : State) (H : Heap) : Prop := ∃ (c : ClassId) (k : Class) (i : Nat) (f : Field) (a : Nat) (cell : Cell), U.vm.findClass C = some c ∧ U.fieldFound? C n d = some (c, k, i, f) ∧ f.isStatic = true ∧ k.statics = some a ∧ H[a]? = some cell ∧ cell.vm.isStatics = true ∧ cell.cls = c ∧ f.slot < cell.slots.size ∧ k.staticTypes[f.slot]? = some f.type ∧ ¬ A a
theorem vx_L.moved {C n d : String} {A : Nat → Prop} {u U : State} {H : Heap} (hvm : u.vm.Alike U.vm) (h : vx_L C n d A u H) : vx_L C n d A U H := by
  obtain ⟨c, k, i, f, a, cell, h1, h2, h3, h4, h5, h6, h7, h8, h9, h10⟩ := h
  obtain ⟨k', hi', he⟩ := State.fieldFound?_setVm hvm h2
  exact ⟨c, k', i, f, a, cell, by rw [hvm.findClass]; exact h1, hi', h3, by rw [he]; exact h4, h5, h6, h7, h8, by rw [he]; exact h9, h10⟩
theorem vx_L.kept {C n d : String} {A : Nat → Prop} {U : State} {H H1 : Heap} (h : vx_L C n d A U H) (hq : ∀ a : Nat, a < H.size → ¬ A a → H1[a]? = H[a]?) : vx_L C n d A U H1 := by
  obtain ⟨c, k, i, f, a, cell, h1, h2, h3, h4, h5, h6, h7, h8, h9, h10⟩ := h
  exact ⟨c, k, i, f, a, cell, h1, h2, h3, h4, by rw [hq a (Array.getElem?_eq_some_iff.mp h5).1 h10]; exact h5, h6, h7, h8, h9, h10⟩
theorem vx_L.narrow {C n d : String} {A B : Nat → Prop} {U : State} {H : Heap} (h : vx_L C n d A U H) (hAB : ∀ q, B q → A q) : vx_L C n d B U H := by
  obtain ⟨c, k, i, f, a, cell, h1, h2, h3, h4, h5, h6, h7, h8, h9, h10⟩ := h
  exact ⟨c, k, i, f, a, cell, h1, h2, h3, h4, h5, h6, h7, h8, h9, fun z => h10 (hAB _ z)⟩
theorem vx_L.word {C n d : String} {A : Nat → Prop} {s : State} {args : Array Value} (h : vx_L C n d A s s.heap) : (Cond.laysStatic C n d).before args s = true := by
  obtain ⟨c, k, i, f, a, cell, h1, h2, h3, h4, h5, h6, h7, h8, h9, -⟩ := h
  show (Cond.laysStatic C n d).holds args s none s [] = true
  exact Cond.laysStatic_of h1 h2 h3 h4 h5 h6 h7 h8 h9
/-- .. and what it holds: null or some reference -/
def vx_Zq (C n d : String) (A : Nat → Prop) (U : State) (H : Heap) : Prop := va_Zq C n d A U H ∧ vx_L C n d A U H
theorem vx_Zq.moved {C n d : String} {A : Nat → Prop} {u U : State} {H : Heap} (hvm : u.vm.Alike U.vm) (h : vx_Zq C n d A u H) : vx_Zq C n d A U H := ⟨va_Zq.moved hvm h.1, vx_L.moved hvm h.2⟩
theorem vx_Zq.kept {C n d : String} {A : Nat → Prop} {U : State} {H H1 : Heap} (h : vx_Zq C n d A U H) (hq : ∀ a : Nat, a < H.size → ¬ A a → H1[a]? = H[a]?) : vx_Zq C n d A U H1 := ⟨va_Zq.kept h.1 hq, vx_L.kept h.2 hq⟩
theorem vx_Zq.narrow {C n d : String} {A B : Nat → Prop} {U : State} {H : Heap} (h : vx_Zq C n d A U H) (hAB : ∀ q, B q → A q) : vx_Zq C n d B U H := ⟨va_Zq.narrow h.1 hAB, vx_L.narrow h.2 hAB⟩
theorem vx_Zqof {args : Array Value} {s : State} {C n d : String} {A : Nat → Prop} (hl : (Cond.laysStatic C n d).before args s = true) (hini : (Cond.initialized C).before args s = true) (h : (Cond.isRef (.static C n d)).before args s = true) (hA : ∀ a : Nat, a < s.heap.size → ¬ A a) : vx_Zq C n d A s s.heap := by
  refine ⟨va_Zqof hl hini h hA, ?_⟩
  obtain ⟨c, k, i, f, a, cell, h1, h2, h3, h4, h5, h6, h7, h8, h9⟩ := Cond.laysStatic_spec hl
  exact ⟨c, k, i, f, a, cell, h1, h2, h3, h4, h5, h6, h7, h8, h9, hA a (Array.getElem?_eq_some_iff.mp h5).1⟩
theorem vx_isRef {C n d : String} {v : Value} {A : Nat → Prop} {s : State} {args : Array Value} (h : va_Z C n d v A s s.heap) (hv : v.isRef = true) : (Cond.isRef (.static C n d)).before args s = true := by
  obtain ⟨cf, kf, fi, f, a, cell, h1, h2, h3, h4, h5, h6, h7, -⟩ := h
  have he : (Term.static C n d).eval args s none [] s = some v := by
    simp [Term.eval, State.fieldNamed?, h1, h2, h4, h5, h6, h7]
  simp only [Cond.before, Cond.holds, Cond.value, he]
  cases v <;> simp_all [Value.isRef]
theorem vx_isRefq {C n d : String} {A : Nat → Prop} {s : State} {args : Array Value} (h : va_Zq C n d A s s.heap) : (Cond.isRef (.static C n d)).before args s = true := by
  rcases h with h | ⟨t, h⟩
  · exact vx_isRef h rfl
  · exact vx_isRef h rfl
/-- the same frame, seen from here: as if the method were called anew in this heap -/
theorem vx_rebase {T : State} (X : Stand p l e R s m args below meth c T locs cells slots) {R' : Room} (hf : R'.frames ≤ R.frames) (hl : R'.locals ≤ R.locals) (hc : cells + R'.cells ≤ R.cells) (hs : slots + R'.slots ≤ R.slots) :
    Stand p l e R' ((T.setVm s.vm).setFrames (.invoking m args :: below)) m args below meth c T [] 0 0 := by
  have htop : (T.setVm s.vm).topJava?.isSome := X.here.top
  have hF : ((T.setVm s.vm).setFrames (.invoking m args :: below)).frames = .invoking m args :: below := State.frames_setFrames _ (State.cur_lt_of_top htop)
  obtain ⟨g₀, hg0⟩ := Option.isSome_iff_exists.mp htop
  obtain ⟨r, hr⟩ := State.topJava?_eq_some.mp hg0
  have hl9 : e.platform.stackLimits (T.setVm s.vm).me = e.platform.stackLimits s.me := X.limits
  have hb9 : (T.setVm s.vm).me.stackBytes = s.me.stackBytes := X.bytes
  refine ⟨X.admits, X.cas, X.clock, hF, ?_, X.hears, X.method, X.code, X.here, X.tail, X.warmed, ?_, ?_, ?_⟩
  · have h := X.room
    have hU : ((T.setVm s.vm).setFrames (.invoking m args :: below)).localsInUse = s.localsInUse := by
      rw [State.localsInUse_invoking hF (meth := meth) (c := c) X.method X.code, State.localsInUse_invoking X.frames X.method X.code]
    simp only [State.hasRoom, Bool.and_eq_true, decide_eq_true_eq] at h ⊢
    obtain ⟨⟨⟨⟨h1, h2, h3, h4, h5, h6⟩, h7⟩, h8⟩, h9⟩ := h
    rw [X.frames, List.length_cons] at h2 h3
    have q1 := X.heapSize
    have q2 := X.used
    simp only [hF, hU, List.length_cons, State.stackLimits_setFrames, State.stackBytes_setFrames, hl9, hb9]
    refine ⟨⟨⟨⟨by omega, by omega, by omega, by omega, by omega, h6⟩, ?_⟩, ?_⟩, X.book⟩
    · show T.heap.size + R'.cells ≤ e.platform.maxCells
      omega
    · show T.slotsUsed + R'.slots ≤ e.platform.maxSlots
      omega
  · rw [State.stackLimits_setFrames]; rfl
  · rw [State.stackBytes_setFrames]; rfl
  · refine ⟨?_, Nat.le_refl _, Nat.le_refl _, ?_, ?_, fun a c9 h9 => ⟨c9, h9, rfl, rfl, fun _ _ => rfl⟩⟩
    · obtain ⟨t, ht, -⟩ := State.frames_cons hr
      show T.setVm s.vm = { ((T.setVm s.vm).setFrames (.invoking m args :: below)).setFrames (T.setVm s.vm).frames with heap := T.heap, slotsUsed := T.slotsUsed }
      rw [State.setFrames_setFrames, State.setFrames_self ht]
      rfl
    · show T.slotsUsed = T.slotsUsed + ((T.heap.toList.drop T.heap.size).map (·.slots.size)).sum
      rw [List.drop_eq_nil_of_le (Nat.le_of_eq Array.length_toList)]
      rfl
    · show ((T.heap.toList.drop T.heap.size).map (·.slots.size)).sum ≤ 0
      rw [List.drop_eq_nil_of_le (Nat.le_of_eq Array.length_toList)]
      exact Nat.le_refl _
/-- 'throw new E()': new; dup; invokespecial; athrow -/
theorem vx_throw0 {cc : ByteArray} {pc : Nat} (hexec : p.tables.exec = Jvm.exec) (hb : c.code = cc) (hl : l.stackTraces = false) {own cls : String} {names : List String} {ik ic mc ms : Nat} {A : Nat → Prop}
    (hown : s.vm.findClass own = some m.cls) (hcls : Bundle.fit cls = true) (hnames : ∀ n ∈ names, Bundle.fit n = true)
    (hk : (Cond.classLink own ik cls).before args s = true) (hini : (Cond.initialized cls).before args s = true) (hat : ∀ w ∈ vx_at0 own ic cls names, w.before args s = true)
    (hgood : ∀ w ∈ Cond.classLink own ik cls :: Cond.initialized cls :: vx_at0 own ic cls names, vx_ot w = true)
    (hU : vx_Zq Bundle.tN "UNASSIGNED_STACK" Bundle.steD A s s.heap) (hN : vx_Zq Bundle.tN "SUPPRESSED_SENTINEL" Bundle.listD A s s.heap) (hS : va_S A s.heap H locs) (hsize : ls.size = c.maxLocals)
    (d0 : decode cc pc = .ok (.new ik, 3)) (d3 : decode cc (pc + 3) = .ok (.dup, 1)) (d4 : decode cc (pc + 4) = .ok (.invokespecial ic, 3)) (d7 : decode cc (pc + 7) = .ok (.athrow, 1))
    (hout : ∀ x ∈ c.exceptionTable.toList, covers x (pc + 7) = false)
    (hRframes : names.length + 3 < R.frames) (hRlocals : (rest.map fun v => v.category).sum + (13 * (names.length + 1) + 42) ≤ R.locals) (hRcells : cells + 1 ≤ R.cells) (hRslots : slots + 6 ≤ R.slots) (hlocks : meth.locks = false)
    (hx : ∀ t : State, s.vm.Alike t.vm → H.size ≤ t.heap.size → (∀ q : Nat, q < H.size → t.heap[q]? = H[q]?) → XC cls s t)
    (hf : ∀ z ∈ locs, free z.base) (hc : cells + 1 ≤ mc) (hs : slots + 6 ≤ ms) :
    W p l e R s m args below meth c H locs cells slots (vx_MQ below Qc XC args s mc ms free) (F0 m pc ls rest) := by
  intro T hT X
  have htr : e.platform.stackTraces = false := (show e.platform.stackTraces = l.stackTraces by rw [X.admits.platform]).trans hl
  have Y := vx_rebase X (R' := { frames := R.frames, locals := R.locals, cells := 1, slots := 6 }) (Nat.le_refl _) (Nat.le_refl _) hRcells hRslots
  obtain ⟨s', hA⟩ : ∃ z, z = (T.setVm s.vm).setFrames (.invoking m args :: below) := ⟨_, rfl⟩
  rw [← hA] at Y
  have hvm : s'.vm = s.vm := by rw [hA]; rfl
  have hhp : s'.heap = H := by rw [hA]; exact hT
  have hW0 : s.WarmedH s'.vm := by rw [hvm]; exact State.WarmedH.refl s
  have hat' : ∀ w ∈ vx_at0 own ic cls names, w.before args s' = true := fun w hw => vx_ot_at hW0 hvm.symm (hgood w (List.mem_cons_of_mem _ (List.mem_cons_of_mem _ hw))) (hat w hw)
  have hk' : (Cond.classLink own ik cls).before args s' = true := vx_ot_at hW0 hvm.symm (hgood _ List.mem_cons_self) hk
  have hini' : (Cond.initialized cls).before args s' = true := vx_ot_at hW0 hvm.symm (hgood _ (List.mem_cons_of_mem _ List.mem_cons_self)) hini
  have hU' : vx_Zq Bundle.tN "UNASSIGNED_STACK" Bundle.steD A s' s'.heap := by rw [hhp]; exact vx_Zq.moved hW0.alike (hU.kept hS.2.1)
  have hN' : vx_Zq Bundle.tN "SUPPRESSED_SENTINEL" Bundle.listD A s' s'.heap := by rw [hhp]; exact vx_Zq.moved hW0.alike (hN.kept hS.2.1)
  have h : ∀ w ∈ Bundle.ownAtoms0 own ic cls names, w.before args s' = true := vx_own hat' (vx_isRefq hU'.1) (vx_isRefq hN'.1) hU'.2.word hN'.2.word
  have hown' : s'.vm.findClass own = some m.cls := by rw [hvm]; exact hown
  have hins : (Cond.instantiable cls 6).before args s' = true := h _ (by simp [Bundle.ownAtoms0])
  obtain ⟨vm₁, cX, kX, hfX, hkX, -, -, X₁, st1⟩ := Y.newCold hexec (own := own) (C := cls) (index := ik) (n := 6) hown' hk' hins hini'
    (g := F0 m pc ls rest) rfl (by rw [hb]; exact d0) (Nat.le_refl _) (Nat.le_refl _)
  generalize hT1 : (T.setVm vm₁).pushCell { cls := cX, slots := kX.instanceTypes.map defaultValue, vm := .none } = T1 at X₁ st1
  have hcat : (Value.ref T.heap.size).category = 1 := rfl
  have hcellA : T1.heap[T.heap.size]? = some (freshCell cX kX) := by rw [← hT1]; exact State.heap_pushCell_size _ _
  have d3' : decode c.code (pc + 3) = .ok (.dup, 1) := by rw [hb]; exact d3
  obtain ⟨U, hsteps, hrun, hend, hW, hsame, ce, hce, hO⟩ := X₁.ctorThrow0 hexec htr (own := own) (cls := cls) (names := names) (ic := ic) hown' hcls hnames h (fun x hx => nomatch hx) hfX hkX hcellA (by rw [hhp, hT]; exact Nat.le_refl _)
    (g := { method := m, pc := pc + 4, locals := ls, stack := .ref T.heap.size :: .ref T.heap.size :: rest, locked := none }) rfl hsize rfl rfl (rest := rest) rfl
    (by rw [hb]; exact d4) (by rw [hb]; exact d7) hout hRframes (by simp only [List.map_cons, List.sum_cons, hcat]; omega) hlocks
  obtain ⟨f1, f2⟩ := vx_frame hsame
  rw [hhp] at f1 f2
  have hWs : s.WarmedH U.vm := State.WarmedH.trans hW0 hW
  have hcl : s.vm.findClass cls = some ce.cls := by
    have h9 := hO.cls
    rw [hvm] at h9
    exact h9
  have hall : s.sameButNew ({ U with vm := s.vm } : State) locs mc ms := by
    subst hA
    obtain ⟨e1, e2⟩ := hsame
    rw [State.setFrames_setFrames] at e1
    have h2 : (T.setVm s.vm).sameButNew ({ U with vm := s.vm } : State) [] (0 + 1) (0 + 6) := ⟨e1, e2⟩
    have h3 := X.same.trans h2
    rw [List.append_nil] at h3
    exact h3.mono hc hs
  refine ⟨U, ?_, .threw T.heap.size, hrun, hend, Or.inr ⟨T.heap.size, rfl, cls, ce, locs, hx U hWs.alike f1 (fun q hq => f2 q hq (fun z hz => nomatch hz)), hce, hO.vm, hcl, hWs, hall, hf⟩⟩
  refine st1 _ ?_
  show Steps p.tables e below (T1.setTop { method := m, pc := pc + 3, locals := ls, stack := .ref T.heap.size :: rest, locked := none }) _
  jvm_step X₁.here [X₁.here.top, hexec, d3', Value.category]
  exact hsteps
/-- 'throw new E("text")': new; dup; ldc; invokespecial; athrow -/
theorem vx_throwS {cc : ByteArray} {pc : Nat} (hexec : p.tables.exec = Jvm.exec) (hb : c.code = cc) (hl : l.stackTraces = false) {own cls text : String} {names : List String} {ik is ic mc ms sa : Nat} {A : Nat → Prop}
    (hown : s.vm.findClass own = some m.cls) (hcls : Bundle.fit cls = true) (hnames : ∀ n ∈ names, Bundle.fit n = true)
    (hk : (Cond.classLink own ik cls).before args s = true) (hini : (Cond.initialized cls).before args s = true) (hstr : vk_R own is text sa s) (hat : ∀ w ∈ vx_atS own ic cls names, w.before args s = true)
    (hgood : ∀ w ∈ Cond.classLink own ik cls :: Cond.initialized cls :: vx_atS own ic cls names, vx_ot w = true)
    (hU : vx_Zq Bundle.tN "UNASSIGNED_STACK" Bundle.steD A s s.heap) (hN : vx_Zq Bundle.tN "SUPPRESSED_SENTINEL" Bundle.listD A s s.heap) (hS : va_S A s.heap H locs) (hsize : ls.size = c.maxLocals)
    (d0 : decode cc pc = .ok (.new ik, 3)) (d3 : decode cc (pc + 3) = .ok (.dup, 1)) (d4 : decode cc (pc + 4) = .ok (.ldc is, 2)) (d6 : decode cc (pc + 6) = .ok (.invokespecial ic, 3)) (d9 : decode cc (pc + 9) = .ok (.athrow, 1))
    (hout : ∀ x ∈ c.exceptionTable.toList, covers x (pc + 9) = false)
    (hRframes : names.length + 3 < R.frames) (hRlocals : (rest.map fun v => v.category).sum + (13 * (names.length + 1) + 43) ≤ R.locals) (hRcells : cells + 1 ≤ R.cells) (hRslots : slots + 6 ≤ R.slots) (hlocks : meth.locks = false)
    (hx : ∀ t : State, s.vm.Alike t.vm → H.size ≤ t.heap.size → (∀ q : Nat, q < H.size → t.heap[q]? = H[q]?) → XC cls s t)
    (hf : ∀ z ∈ locs, free z.base) (hc : cells + 1 ≤ mc) (hs : slots + 6 ≤ ms) :
    W p l e R s m args below meth c H locs cells slots (vx_MQ below Qc XC args s mc ms free) (F0 m pc ls rest) := by
  intro T hT X
  have htr : e.platform.stackTraces = false := (show e.platform.stackTraces = l.stackTraces by rw [X.admits.platform]).trans hl
  have Y := vx_rebase X (R' := { frames := R.frames, locals := R.locals, cells := 1, slots := 6 }) (Nat.le_refl _) (Nat.le_refl _) hRcells hRslots
  obtain ⟨s', hA⟩ : ∃ z, z = (T.setVm s.vm).setFrames (.invoking m args :: below) := ⟨_, rfl⟩
  rw [← hA] at Y
  have hvm : s'.vm = s.vm := by rw [hA]; rfl
  have hhp : s'.heap = H := by rw [hA]; exact hT
  have hW0 : s.WarmedH s'.vm := by rw [hvm]; exact State.WarmedH.refl s
  have hat' : ∀ w ∈ vx_atS own ic cls names, w.before args s' = true := fun w hw => vx_ot_at hW0 hvm.symm (hgood w (List.mem_cons_of_mem _ (List.mem_cons_of_mem _ hw))) (hat w hw)
  have hk' : (Cond.classLink own ik cls).before args s' = true := vx_ot_at hW0 hvm.symm (hgood _ List.mem_cons_self) hk
  have hini' : (Cond.initialized cls).before args s' = true := vx_ot_at hW0 hvm.symm (hgood _ (List.mem_cons_of_mem _ List.mem_cons_self)) hini
  have hU' : vx_Zq Bundle.tN "UNASSIGNED_STACK" Bundle.steD A s' s'.heap := by rw [hhp]; exact vx_Zq.moved hW0.alike (hU.kept hS.2.1)
  have hN' : vx_Zq Bundle.tN "SUPPRESSED_SENTINEL" Bundle.listD A s' s'.heap := by rw [hhp]; exact vx_Zq.moved hW0.alike (hN.kept hS.2.1)
  have h : ∀ w ∈ Bundle.ownAtoms own ic cls names, w.before args s' = true := vx_own hat' (vx_isRefq hU'.1) (vx_isRefq hN'.1) hU'.2.word hN'.2.word
  have hown' : s'.vm.findClass own = some m.cls := by rw [hvm]; exact hown
  have hins : (Cond.instantiable cls 6).before args s' = true := h _ (by simp [Bundle.ownAtoms])
  obtain ⟨vm₁, cX, kX, hfX, hkX, -, -, X₁, st1⟩ := Y.newCold hexec (own := own) (C := cls) (index := ik) (n := 6) hown' hk' hins hini'
    (g := F0 m pc ls rest) rfl (by rw [hb]; exact d0) (Nat.le_refl _) (Nat.le_refl _)
  generalize hT1 : (T.setVm vm₁).pushCell { cls := cX, slots := kX.instanceTypes.map defaultValue, vm := .none } = T1 at X₁ st1
  have hcat : (Value.ref T.heap.size).category = 1 := rfl
  have hcellA : T1.heap[T.heap.size]? = some (freshCell cX kX) := by rw [← hT1]; exact State.heap_pushCell_size _ _
  have d3' : decode c.code (pc + 3) = .ok (.dup, 1) := by rw [hb]; exact d3
  have d4' : decode c.code (pc + 4) = .ok (.ldc is, 2) := by rw [hb]; exact d4
  have hstr' : vk_R own is text sa s' := vk_R.warm hW0 hstr
  obtain ⟨U, hsteps, hrun, hend, hW, hsame, ce, hce, hO⟩ := X₁.ctorThrowS hexec htr (own := own) (cls := cls) (names := names) (ic := ic) hown' hcls hnames h (fun x hx => nomatch hx) hfX hkX hcellA (by rw [hhp, hT]; exact Nat.le_refl _) (msg := .ref sa) rfl
    (g := { method := m, pc := pc + 6, locals := ls, stack := .ref sa :: .ref T.heap.size :: .ref T.heap.size :: rest, locked := none }) rfl hsize rfl rfl (rest := rest) rfl
    (by rw [hb]; exact d6) (by rw [hb]; exact d9) hout hRframes (by simp only [List.map_cons, List.sum_cons, hcat]; omega) hlocks
  obtain ⟨f1, f2⟩ := vx_frame hsame
  rw [hhp] at f1 f2
  have hWs : s.WarmedH U.vm := State.WarmedH.trans hW0 hW
  have hcl : s.vm.findClass cls = some ce.cls := by
    have h9 := hO.cls
    rw [hvm] at h9
    exact h9
  have hall : s.sameButNew ({ U with vm := s.vm } : State) locs mc ms := by
    subst hA
    obtain ⟨e1, e2⟩ := hsame
    rw [State.setFrames_setFrames] at e1
    have h2 : (T.setVm s.vm).sameButNew ({ U with vm := s.vm } : State) [] (0 + 1) (0 + 6) := ⟨e1, e2⟩
    have h3 := X.same.trans h2
    rw [List.append_nil] at h3
    exact h3.mono hc hs
  refine ⟨U, ?_, .threw T.heap.size, hrun, hend, Or.inr ⟨T.heap.size, rfl, cls, ce, locs, hx U hWs.alike f1 (fun q hq => f2 q hq (fun z hz => nomatch hz)), hce, hO.vm, hcl, hWs, hall, hf⟩⟩
  refine st1 _ ?_
  show Steps p.tables e below (T1.setTop { method := m, pc := pc + 3, locals := ls, stack := .ref T.heap.size :: rest, locked := none }) _
  jvm_step X₁.here [X₁.here.top, hexec, d3', Value.category]
  exact X₁.ldcString hexec (own := own) (text := text) (index := is) (a := sa) hown' hstr'.1 hstr'.2
    (g := { method := m, pc := pc + 4, locals := ls, stack := .ref T.heap.size :: .ref T.heap.size :: rest, locked := none }) rfl d4' _ hsteps
/-- 'throw new E("text")', the text by a wide index -/
theorem vx_throwSW {cc : ByteArray} {pc : Nat} (hexec : p.tables.exec = Jvm.exec) (hb : c.code = cc) (hl : l.stackTraces = false) {own cls text : String} {names : List String} {ik is ic mc ms sa : Nat} {A : Nat → Prop}
    (hown : s.vm.findClass own = some m.cls) (hcls : Bundle.fit cls = true) (hnames : ∀ n ∈ names, Bundle.fit n = true)
    (hk : (Cond.classLink own ik cls).before args s = true) (hini : (Cond.initialized cls).before args s = true) (hstr : vk_R own is text sa s) (hat : ∀ w ∈ vx_atS own ic cls names, w.before args s = true)
    (hgood : ∀ w ∈ Cond.classLink own ik cls :: Cond.initialized cls :: vx_atS own ic cls names, vx_ot w = true)
    (hU : vx_Zq Bundle.tN "UNASSIGNED_STACK" Bundle.steD A s s.heap) (hN : vx_Zq Bundle.tN "SUPPRESSED_SENTINEL" Bundle.listD A s s.heap) (hS : va_S A s.heap H locs) (hsize : ls.size = c.maxLocals)
    (d0 : decode cc pc = .ok (.new ik, 3)) (d3 : decode cc (pc + 3) = .ok (.dup, 1)) (d4 : decode cc (pc + 4) = .ok (.ldc_w is, 3)) (d7 : decode cc (pc + 7) = .ok (.invokespecial ic, 3)) (d10 : decode cc (pc + 10) = .ok (.athrow, 1))
    (hout : ∀ x ∈ c.exceptionTable.toList, covers x (pc + 10) = false)
    (hRframes : names.length + 3 < R.frames) (hRlocals : (rest.map fun v => v.category).sum + (13 * (names.length + 1) + 43) ≤ R.locals) (hRcells : cells + 1 ≤ R.cells) (hRslots : slots + 6 ≤ R.slots) (hlocks : meth.locks = false)
    (hx : ∀ t : State, s.vm.Alike t.vm → H.size ≤ t.heap.size → (∀ q : Nat, q < H.size → t.heap[q]? = H[q]?) → XC cls s t)
    (hf : ∀ z ∈ locs, free z.base) (hc : cells + 1 ≤ mc) (hs : slots + 6 ≤ ms) :
    W p l e R s m args below meth c H locs cells slots (vx_MQ below Qc XC args s mc ms free) (F0 m pc ls rest) := by
  intro T hT X
  have htr : e.platform.stackTraces = false := (show e.platform.stackTraces = l.stackTraces by rw [X.admits.platform]).trans hl
  have Y := vx_rebase X (R' := { frames := R.frames, locals := R.locals, cells := 1, slots := 6 }) (Nat.le_refl _) (Nat.le_refl _) hRcells hRslots
  obtain ⟨s', hA⟩ : ∃ z, z = (T.setVm s.vm).setFrames (.invoking m args :: below) := ⟨_, rfl⟩
  rw [← hA] at Y
  have hvm : s'.vm = s.vm := by rw [hA]; rfl
  have hhp : s'.heap = H := by rw [hA]; exact hT
  have hW0 : s.WarmedH s'.vm := by rw [hvm]; exact State.WarmedH.refl s
  have hat' : ∀ w ∈ vx_atS own ic cls names, w.before args s' = true := fun w hw => vx_ot_at hW0 hvm.symm (hgood w (List.mem_cons_of_mem _ (List.mem_cons_of_mem _ hw))) (hat w hw)
  have hk' : (Cond.classLink own ik cls).before args s' = true := vx_ot_at hW0 hvm.symm (hgood _ List.mem_cons_self) hk
  have hini' : (Cond.initialized cls).before args s' = true := vx_ot_at hW0 hvm.symm (hgood _ (List.mem_cons_of_mem _ List.mem_cons_self)) hini
  have hU' : vx_Zq Bundle.tN "UNASSIGNED_STACK" Bundle.steD A s' s'.heap := by rw [hhp]; exact vx_Zq.moved hW0.alike (hU.kept hS.2.1)
  have hN' : vx_Zq Bundle.tN "SUPPRESSED_SENTINEL" Bundle.listD A s' s'.heap := by rw [hhp]; exact vx_Zq.moved hW0.alike (hN.kept hS.2.1)
  have h : ∀ w ∈ Bundle.ownAtoms own ic cls names, w.before args s' = true := vx_own hat' (vx_isRefq hU'.1) (vx_isRefq hN'.1) hU'.2.word hN'.2.word
  have hown' : s'.vm.findClass own = some m.cls := by rw [hvm]; exact hown
  have hins : (Cond.instantiable cls 6).before args s' = true := h _ (by simp [Bundle.ownAtoms])
  obtain ⟨vm₁, cX, kX, hfX, hkX, -, -, X₁, st1⟩ := Y.newCold hexec (own := own) (C := cls) (index := ik) (n := 6) hown' hk' hins hini'
    (g := F0 m pc ls rest) rfl (by rw [hb]; exact d0) (Nat.le_refl _) (Nat.le_refl _)
  generalize hT1 : (T.setVm vm₁).pushCell { cls := cX, slots := kX.instanceTypes.map defaultValue, vm := .none } = T1 at X₁ st1
  have hcat : (Value.ref T.heap.size).category = 1 := rfl
  have hcellA : T1.heap[T.heap.size]? = some (freshCell cX kX) := by rw [← hT1]; exact State.heap_pushCell_size _ _
  have d3' : decode c.code (pc + 3) = .ok (.dup, 1) := by rw [hb]; exact d3
  have d4' : decode c.code (pc + 4) = .ok (.ldc_w is, 3) := by rw [hb]; exact d4
  have hstr' : vk_R own is text sa s' := vk_R.warm hW0 hstr
  obtain ⟨U, hsteps, hrun, hend, hW, hsame, ce, hce, hO⟩ := X₁.ctorThrowS hexec htr (own := own) (cls := cls) (names := names) (ic := ic) hown' hcls hnames h (fun x hx => nomatch hx) hfX hkX hcellA (by rw [hhp, hT]; exact Nat.le_refl _) (msg := .ref sa) rfl
    (g := { method := m, pc := pc + 7, locals := ls, stack := .ref sa :: .ref T.heap.size :: .ref T.heap.size :: rest, locked := none }) rfl hsize rfl rfl (rest := rest) rfl
    (by rw [hb]; exact d7) (by rw [hb]; exact d10) hout hRframes (by simp only [List.map_cons, List.sum_cons, hcat]; omega) hlocks
  obtain ⟨f1, f2⟩ := vx_frame hsame
  rw [hhp] at f1 f2
  have hWs : s.WarmedH U.vm := State.WarmedH.trans hW0 hW
  have hcl : s.vm.findClass cls = some ce.cls := by
    have h9 := hO.cls
    rw [hvm] at h9
    exact h9
  have hall : s.sameButNew ({ U with vm := s.vm } : State) locs mc ms := by
    subst hA
    obtain ⟨e1, e2⟩ := hsame
    rw [State.setFrames_setFrames] at e1
    have h2 : (T.setVm s.vm).sameButNew ({ U with vm := s.vm } : State) [] (0 + 1) (0 + 6) := ⟨e1, e2⟩
    have h3 := X.same.trans h2
    rw [List.append_nil] at h3
    exact h3.mono hc hs
  refine ⟨U, ?_, .threw T.heap.size, hrun, hend, Or.inr ⟨T.heap.size, rfl, cls, ce, locs, hx U hWs.alike f1 (fun q hq => f2 q hq (fun z hz => nomatch hz)), hce, hO.vm, hcl, hWs, hall, hf⟩⟩
  refine st1 _ ?_
  show Steps p.tables e below (T1.setTop { method := m, pc := pc + 3, locals := ls, stack := .ref T.heap.size :: rest, locked := none }) _
  jvm_step X₁.here [X₁.here.top, hexec, d3', Value.category]
  exact X₁.ldcStringW hexec (own := own) (text := text) (index := is) (a := sa) hown' hstr'.1 hstr'.2
    (g := { method := m, pc := pc + 4, locals := ls, stack := .ref T.heap.size :: .ref T.heap.size :: rest, locked := none }) rfl d4' _ hsteps
end Ends
section Bodies
variable {l : Launch}
theorem vx_ofW {y : MethodName} {ws ws' : List Cond} {rm : Room} {Pc : Array Value → State → Prop} {Qc : Array Value → State → Outcome → State → Prop} {XC : String → State → State → Prop} {mc ms : Nat} {free : Addr → Prop} {cc : ByteArray} {maxL : Nat} {ret : Option FieldType}
    (hy : plainName y.cls = true) (hw : ws = Cond.code y cc maxL ret :: ws')
    (body : ∀ p e s m args below meth c s₁, BodyLoose p l y (headSpec ws rm) cc maxL ret e s m args below meth c s₁ → c.maxLocals = maxL → (∀ x ∈ c.exceptionTable.toList, False) → Pc args s →
      W p l e (headSpec ws rm).room s m args below meth c s.heap [] 0 0 (vx_MQ below Qc XC args s mc ms free) (entryFrame m args maxL)) : vx_Met l y ws rm Pc Qc XC mc ms free := by
  refine MetFree.of_bodyS (code := cc) (maxLocals := maxL) (ret := ret) hy ?_ ?_
  · intro args s m h hn
    obtain ⟨meth, c, h1, h2, h3, h4, h5, h6, -, -⟩ := Cond.code_spec hn (atoms_spec (ws := ws) h _ (by rw [hw]; exact List.mem_cons_self))
    exact ⟨meth, c, h1, h2, h3, h4, h5, h6⟩
  · intro p e s m args below meth c s₁ B hml hP _
    have hh0 : s₁.heap = s.heap := by rw [B.state]; rfl
    have ht : ∀ x ∈ c.exceptionTable.toList, False := by
      obtain ⟨meth9, c9, h1, h2, -, -, -, -, h7, -⟩ := Cond.code_spec B.named (atoms_spec (ws := ws) B.pre _ (by rw [hw]; exact List.mem_cons_self))
      cases Option.some.inj (h1.symm.trans B.method)
      cases Option.some.inj (h2.symm.trans (Stand.of_body B).code)
      intro x hx
      rw [Array.isEmpty_iff.mp h7] at hx
      cases hx
    obtain ⟨t, a1, o, b1, b2, b3⟩ := body p e s m args below meth c s₁ B hml ht hP s₁ hh0 (Stand.of_body B)
    exact ⟨t, o, a1, b1, b2, b3⟩
/-- the table of a body with handlers -/
theorem vx_table {p : Program} {x y : MethodName} {S : Spec} {cc bytes : ByteArray} {maxL maxL' : Nat} {ret ret' : Option FieldType} {e : Env} {s s₁ : State} {m : MethodId} {args : Array Value} {below : List Frame} {meth : Method} {c : Code} {hh : List (Nat × Nat × Nat × Nat)}
    (B : BodyLoose p l y S cc maxL ret e s m args below meth c s₁) (h : (Cond.codeWith y bytes maxL' ret' hh).before args s = true) : c.exceptionTable.toList = tableOf hh := by
  obtain ⟨m9, meth9, c9, hn9, h1, h2, -, -, h6, -⟩ := Cond.codeWith_spec h
  cases Option.some.inj (hn9.symm.trans B.named)
  cases Option.some.inj (h1.symm.trans B.method)
  cases Option.some.inj (h2.symm.trans (Stand.of_body B).code)
  rw [← h6, table_eq]
end Bodies
end VXA
/-! ===== END ===== -/
/-! ===== BEGIN a static call of a method with an exception table ===== -/
section VXS
variable {p : Program} {l : Launch} {e : Env} {R : Room} {s : State} {m : MethodId} {args : Array Value} {below : List Frame} {meth : Method} {c : Code} {T : State} {H : Heap} {locs : List Loc} {cells slots : Nat}
abbrev vx_CSW (R : Room) (s : State) (args : Array Value) (own : String) (index : Nat) (y : MethodName) (bytes : ByteArray) (maxL : Nat) (ret : Option FieldType) (hh : List (Nat × Nat × Nat × Nat)) (ws : List Cond) (rm : Room) (mc ms n : Nat) : Prop :=
  (rm.cells = mc ∧ rm.slots = ms ∧ rm.frames + 1 ≤ R.frames ∧ 8 + (maxL + 11) + rm.locals ≤ R.locals ∧ (∀ w ∈ ws, ∀ (a' : Array Value) (U : State), s.WarmedH U.vm → w.before a' U = true) ∧ Cond.codeWith y bytes maxL ret hh ∈ ws) ∧
  (Cond.codeWith y bytes maxL ret hh).before args s = true ∧ (Cond.initialized y.cls).before args s = true ∧ (y.cls ≠ "java/lang/invoke/MethodHandle" ∧ y.cls ≠ "java/lang/invoke/VarHandle") ∧
  (∀ sig, parseMethodDescriptor y.desc = some sig → n = sig.parameters.length) ∧ (Cond.methodLink own index y).before args s = true ∧ (Cond.static y).before args s = true
theorem vx_cwSW {own : String} {index maxL mc ms : Nat} {y : MethodName} {bytes : ByteArray} {ret : Option FieldType} {hh : List (Nat × Nat × Nat × Nat)} {Ts ws ws' : List Cond} {rm : Room} (n : Nat) (ht : ∀ w ∈ Ts, w.before args s = true) (hT : GoodIn Ts (va_wsS own index y ws)) (hw : ws = Cond.codeWith y bytes maxL ret hh :: ws') (hrc : rm.cells = mc) (hrs : rm.slots = ms)
    (hd : y.cls ≠ "java/lang/invoke/MethodHandle" ∧ y.cls ≠ "java/lang/invoke/VarHandle" ∧ (parseMethodDescriptor y.desc).map (fun d => d.parameters.length) = some n) (hR : rm.frames + 1 ≤ R.frames ∧ 8 + (maxL + 11) + rm.locals ≤ R.locals) :
    vx_CSW R s args own index y bytes maxL ret hh ws rm mc ms n := by
  have ok : ∀ w ∈ va_wsS own index y ws, w.before args s = true := fun w h => ht w (hT w h).1
  have hG : GoodIn Ts ws := fun w h => hT w (by unfold va_wsS; exact List.mem_append_right _ h)
  have hc : Cond.codeWith y bytes maxL ret hh ∈ ws := by rw [hw]; exact List.mem_cons_self
  refine ⟨⟨hrc, hrs, hR.1, hR.2, pay_in ht hG, hc⟩, ht _ (hG _ hc).1, ok _ (by simp [va_wsS]), ⟨hd.1, hd.2.1⟩, fun sig h => ?_, ok _ (by simp [va_wsS]), ok _ (by simp [va_wsS])⟩
  have h2 := hd.2.2
  rw [h] at h2
  exact (Option.some.inj h2).symm
theorem vx_callSW (X : Stand p l e R s m args below meth c T locs cells slots) (hexec : p.tables.exec = Jvm.exec) {own : String} {index : Nat} {y : MethodName} {bytes : ByteArray} {maxL : Nat} {ret : Option FieldType} {hh : List (Nat × Nat × Nat × Nat)}
    (hown : s.vm.findClass own = some m.cls) (hlink : (Cond.methodLink own index y).before args s = true) (hstat : (Cond.static y).before args s = true) (hinit : (Cond.initialized y.cls).before args s = true)
    (hcode : (Cond.codeWith y bytes maxL ret hh).before args s = true) (hy : y.cls ≠ "java/lang/invoke/MethodHandle" ∧ y.cls ≠ "java/lang/invoke/VarHandle")
    {W9 : Nat} {Pre : Pt → Array Value → Prop} {Post : Pt → Array Value → Option Value → Pt → Prop} (hK : Back l R p e below s args y 3 W9 Pre Post)
    {g : JFrame} (hg : g.method = m) (hsize : g.locals.size = c.maxLocals) {argsL rest : List Value} (hlen : ∀ sig, parseMethodDescriptor y.desc = some sig → argsL.length = sig.parameters.length)
    (hstack : g.stack = argsL.reverse ++ rest) (hW : 2 * g.monitorRoom + (rest.map fun v => v.category).sum ≤ W9) (hdg : decode c.code g.pc = .ok (.invokestatic index, 3))
    (hpre : ∀ vm₁, s.WarmedH vm₁ → Pre ⟨T.setVm vm₁, locs, cells, slots⟩ argsL.toArray) :
    ∃ (v : Option Value) (vm₁ : Vm) (B : Pt), s.WarmedH vm₁ ∧ Stand p l e R s m args below meth c B.U B.locs B.cells B.slots ∧ Post ⟨T.setVm vm₁, locs, cells, slots⟩ argsL.toArray v B ∧
      ∀ target, Steps p.tables e below (B.U.setTop { g with pc := g.pc + 3, stack := v.toList ++ rest }) target → Steps p.tables e below (T.setTop g) target := by
  obtain ⟨mk, methM, cM, hnamed, hmethM, -, -, -, -, -, -, hsigM⟩ := Cond.codeWith_spec hcode
  have hstatic : methM.isStatic = true := Cond.static_spec hnamed hmethM hstat
  obtain ⟨kP, hkP, -⟩ := className_of_methodNamed hnamed
  have hinitP : kP.init = .initialized := Cond.initialized_spec (findClass_of_methodNamed hnamed) hkP hinit
  obtain ⟨vm₁, X₁, hstep₁⟩ := X.invokestatic hexec hown hlink hnamed hmethM hstatic hkP hinitP hy (g := g) hg (argsL := argsL) (rest := rest) (hlen _ hsigM) hstack hdg
  obtain ⟨v, B, X', hpost, hsteps⟩ := hK m meth c ⟨T.setVm vm₁, locs, cells, slots⟩ { g with stack := rest } (.invokestatic index) mk argsL.toArray X₁ hg hsize hdg hW (X₁.named hnamed) (hpre vm₁ X₁.warmed)
  exact ⟨v, vm₁, B, X₁.warmed, X', hpost, fun target h => hstep₁ _ fun acts => by rw [doInvoke_state]; exact hsteps.trans h⟩
theorem vx_runSW {y : MethodName} {bytes cc : ByteArray} {maxL nL mc ms n index : Nat} {ret : Option FieldType} {hh : List (Nat × Nat × Nat × Nat)} {ws : List Cond} {rm : Room} {Pc : Array Value → State → Prop} {Qc : Array Value → State → Outcome → State → Prop} {free : Addr → Prop} {Ts : List Cond} {own : String} {As rest : List Value} {g : JFrame}
    (S : CallFix p m c cc nL s args Ts own) (hM : Met l y ws rm Pc Qc mc ms free) (cw : vx_CSW R s args own index y bytes maxL ret hh ws rm mc ms n) (hp : PreS s H Pc As)
    (hg : g.method = m) (hn : As.length = n) (hsize : g.locals.size = nL) (hstack : g.stack = As.reverse ++ rest) (hW : 2 * g.monitorRoom + (rest.map fun v => v.category).sum ≤ 8) (hdg : decode cc g.pc = .ok (.invokestatic index, 3)) (hf : cells + mc ≤ R.cells ∧ slots + ms ≤ R.slots) :
    va_Run p l e R s m args below meth c H locs cells slots mc ms g rest (Qc As.toArray) (free) := by
  obtain ⟨⟨hrc, hrs, hfr, hlo, hws, hcw⟩, hcode, hini, hy, hlen, hl, hstt⟩ := cw
  have hK : Back l R p e below s args y 3 8 (PreOf R mc ms Pc) (PostOf Qc mc ms free) := va_backW (hh := hh) (bytes := bytes) (maxL := maxL) (ret := ret) hM hp.1 hrc hrs hfr hlo hws hcw (fun a' U hW => word_at hW (Or.inl (by first | rfl | simp [Cond.onTables, Cond.keeps, Cond.steady])) hini)
  obtain ⟨hx, hb, hml, ho, -⟩ := S
  intro T hT X
  obtain ⟨v, vm₁, ⟨U', l2, c2, s2⟩, hW₁, X', ⟨g', mk, t, L, e1, e2, hq, h1, hL, h2, h3⟩, st⟩ := vx_callSW X hx (hh := hh) (bytes := bytes) (maxL := maxL) (ret := ret) ho hl hstt hini hcode hy hK hg (hsize.trans hml.symm) (argsL := As) (rest := rest) (fun sig h => hn.trans (hlen sig h)) hstack hW (by rw [hb]; exact hdg)
    (fun vm₁ hW₁ => ⟨hf.1, hf.2, hp.2 (T.setVm vm₁) hT hW₁⟩)
  dsimp only [Pt.U, Pt.locs, Pt.cells, Pt.slots] at X' e1 e2 h1 h2 h3 st
  subst h1; subst h2; subst h3
  exact ⟨v, (T.setVm vm₁).calling g' mk As.toArray, t, U', L, hT, X', hL, e1, e2, hq, st⟩
/-- not caught here, past rows that name other classes: it goes on to the caller -/
theorem vx_outP {p : Program} {l : Launch} {e : Env} {R : Room} {s : State} {m : MethodId} {args : Array Value} {below : List Frame} {meth : Method} {c : Code} {H : Heap} {locs : List Loc} {cells slots : Nat} {free : Addr → Prop} {ls : Array Slot} {rest : List Value} {Qc : Array Value → State → Outcome → State → Prop} {XC : String → State → State → Prop}
    {pc : Nat} {own E : String} {ce : Cell} {q : Addr} {mc ms : Nat} (hown : s.vm.findClass own = some m.cls) (hlocks : meth.locks = false)
    (hpass : ∀ z ∈ c.exceptionTable.toList, covers z pc = false ∨ (z.catchType ≠ 0 ∧ ∃ nm : String, (Cond.classLink own z.catchType nm).before args s = true ∧ va_Nc E nm s)) (hcell : H[q]? = some ce) (hv : ce.vm = .none) (hcl : s.vm.findClass E = some ce.cls)
    (hx : ∀ t : State, t.heap = H → s.vm.Alike t.vm → XC E s t) (hf : ∀ z ∈ locs, free z.base) (hc : cells ≤ mc) (hs : slots ≤ ms) :
    vx_W p l e R s m args below meth c H locs cells slots (vx_MQ below Qc XC args s mc ms free) (F0 m pc ls rest) q := by
  intro T hT X
  have hpl : e.platform.magicAccessors = ({} : Platform).magicAccessors := by rw [X.admits.platform]
  obtain ⟨vm', hW', X', st⟩ := X.outThrough hlocks q (g := F0 m pc ls rest) rfl rfl rfl (cell := ce) (by rw [hT]; exact hcell) (by rw [hv]; rfl)
    (by obtain ⟨k9, h9, -⟩ := Vm.findClass_spec hcl; exact ⟨k9, h9⟩) (fun z hz => by
      rcases hpass z hz with h | ⟨hz0, nm, hl1, hn1⟩
      · exact Or.inl h
      · obtain ⟨c6, hc6, hcl6⟩ := Cond.classLink_spec hown hl1 e.platform hpl
        obtain ⟨a8, b8, h1, h2, h3⟩ := hn1
        cases Option.some.inj (h1.symm.trans hcl)
        cases Option.some.inj (h2.symm.trans hc6)
        exact Or.inr ⟨hz0, _, hcl6, h3⟩)
  obtain ⟨g₀, hfr⟩ := X'.frames_eq
  have hcell9 : ((T.setVm vm').setFrames (.throwing q :: below)).heap[q]? = some ce := by
    show T.heap[q]? = some ce
    rw [hT]; exact hcell
  have hend : Ended ((T.setVm vm').setFrames (.throwing q :: below)) below (.threw q) := State.frames_setFrames _ (State.cur_lt_of_frames hfr)
  refine ⟨(T.setVm vm').setFrames (.throwing q :: below), ?_, .threw q, X'.here.running, hend, Or.inr ⟨q, rfl, E, ce, locs, hx _ hT (X'.ends _).1.alike, hcell9, hv, hcl, (X'.ends _).1, (X'.ends _).2.mono hc hs, hf⟩⟩
  rw [X.pushThrowing_eq]
  exact st
/-- a thing of a world lies in the heap -/
theorem vx_lt {D : va_G} {cl : List vw_C} {ws : va_W} {H1 : Heap} (h : va_P D cl ws H1) {k : Nat} {q : Nat × va_E} (hk : ws[k]? = some q) : q.1 < H1.size := (h k q hk).lt
end VXS
/-! ===== END ===== -/
/-! ===== BEGIN methods with a table of their own: called by a name, returning or throwing ===== -/
section VXH
/-! vx_backW, vx_callVX, vx_callSX, vx_callVW, vx_runVW, vx_runVX, vx_runSX, vx_ofWH follow the same proofs as their sisters above (Free/Laws.lean, Shelf42/LK1.lean); vx_outP calls Shelf42/NT130.lean (outThrough). -/
section
variable {l : Launch} {R : Room} {p : Program} {e : Env} {below : List Frame} {s : State} {sargs : Array Value} {y : MethodName} {len W9 : Nat}
theorem vx_backW {ws : List Cond} {rm : Room} {Pc : Array Value → State → Prop} {Qc : Array Value → State → Outcome → State → Prop} {XC : String → State → State → Prop} {mc ms : Nat} {free : Addr → Prop} {bytes : ByteArray} {maxL : Nat} {ret : Option FieldType} {hh : List (Nat × Nat × Nat × Nat)}
    (hM : vx_Met l y ws rm Pc Qc XC mc ms free) (hblind : FrameBlind Pc) (hrc : rm.cells = mc) (hrs : rm.slots = ms)
    (hframes : rm.frames + 1 ≤ R.frames) (hlocals : W9 + (maxL + 11) + rm.locals ≤ R.locals)
    (hws : ∀ w ∈ ws, ∀ a' U, s.WarmedH U.vm → w.before a' U = true) (hcode : Cond.codeWith y bytes maxL ret hh ∈ ws) (hinit : ∀ a' U, s.WarmedH U.vm → (Cond.initialized y.cls).before a' U = true) :
    vx_Back l R p e below s sargs y len W9 (PreOf R mc ms Pc) (PostOf Qc mc ms free) (vx_Post XC mc ms free) := by
  intro m meth c A g ig mk a X hg hsize hdg hW hn hp
  have h1 : (headSpec ws rm).pre.before a A.U = true := atoms_intro fun w hw => hws w hw _ _ X.warmed
  have h2 : (Cond.codeWith y bytes maxL ret hh).before a A.U = true := hws _ hcode _ _ X.warmed
  have h3 : (Cond.initialized y.cls).before a A.U = true := hinit _ _ X.warmed
  have h4 : A.cells + (headSpec ws rm).room.cells ≤ R.cells := by rw [show (headSpec ws rm).room.cells = mc from hrc]; exact hp.1
  have h5 : A.slots + (headSpec ws rm).room.slots ≤ R.slots := by rw [show (headSpec ws rm).room.slots = ms from hrs]; exact hp.2.1
  have hPc : Pc a (A.U.calling g mk a) := hblind _ _ _ _ hp.2.2
  obtain ⟨U, Ls, c0, s0⟩ := A
  dsimp only [Pt.U, Pt.locs, Pt.cells, Pt.slots] at h1 h2 h3 h4 h5 X hn hPc ⊢
  obtain ⟨m9, methY, cY, hn9, hmY, hcY, -, hlY, -⟩ := Cond.codeWith_spec h2
  cases Option.some.inj (hn9.symm.trans hn)
  obtain ⟨kY, hkY, -⟩ := className_of_methodNamed hn
  have hinitY : kY.init = .initialized := Cond.initialized_spec (findClass_of_methodNamed hn) hkY h3
  have h : At U g.method c below := by rw [hg]; exact X.here
  have hlocals9 : W9 + (maxL + 11) + (headSpec ws rm).room.locals ≤ R.locals := hlocals
  have happ : (headSpec ws rm).appliesLoose y e.platform (U.calling g mk a) = true :=
    Spec.appliesLoose_calling (g := g) h hdg hn hkY hinitY
      (X.room_calling (g := g) (R' := (headSpec ws rm).room) hsize hmY hcY hframes (by rw [hlY]; omega) h4 h5) h1
  obtain ⟨mid, hmid⟩ := h.above
  have hfr : (U.setTop g).frames = (.java g :: mid) ++ below := by rw [State.frames_setTop' g h.top, hmid]; rfl
  obtain ⟨o, s₂, hsteps, -, hend, hq⟩ := Steps.callFree hM p X.admits X.cas X.clock (acts := []) hfr happ hPc trivial
  have hq' : vx_Q Qc XC mc ms free a (U.calling g mk a) o s₂ := hq
  rw [State.frames_setTop' g h.top] at hend
  obtain ⟨g₀, hg0⟩ := Option.isSome_iff_exists.mp h.top
  obtain ⟨r, hr⟩ := State.topJava?_eq_some.mp hg0
  have hr' : (({ U with heap := s₂.heap, slotsUsed := s₂.slotsUsed } : State).setVm s₂.vm).frames = .java g₀ :: r := hr
  rcases hq' with ⟨hqc, L, hfe, hL⟩ | ⟨q, rfl, E, ce, L, hx, hce, hcv, hcl, hW₂, hsm, hL⟩
  · obtain ⟨⟨v, rfl⟩, hW₂, e2, q2, q3, q4, q5, q6⟩ := id hfe
    have e3 : s₂ = ({ (U.calling g mk a).setFrames s₂.frames with heap := s₂.heap, slotsUsed := s₂.slotsUsed } : State).setVm s₂.vm := by
      have : s₂ = ({ s₂ with vm := (U.calling g mk a).vm } : State).setVm s₂.vm := rfl
      rw [e2] at this
      exact this
    obtain ⟨c₂, i₂, len₂, hc₂, hd₂, hf₂⟩ := hend
    have hW' : U.WarmedH s₂.vm := hW₂
    have hcc : c₂ = c := by
      have h1 : s₂.code? g.method = U.code? g.method := by
        rw [State.code?_eq, State.code?_eq, hW'.alike.method?]
      exact Option.some.inj (hc₂.symm.trans (h1.trans h.code))
    subst hcc
    have hlen : len₂ = len := by rw [hdg] at hd₂; cases hd₂; rfl
    subst hlen
    have hs₂ : s₂ = (({ U with heap := s₂.heap, slotsUsed := s₂.slotsUsed } : State).setVm s₂.vm).setTop { g with pc := g.pc + len₂, stack := v.toList ++ g.stack } := by
      refine e3.trans ?_
      rw [hf₂, State.calling_eq h.top, State.setFrames_setFrames, State.setTop_of_frames _ hr', hr]
      rfl
    have hsame : U.sameButNew ({ U with heap := s₂.heap, slotsUsed := s₂.slotsUsed } : State) L mc ms := by
      refine ⟨?_, q2, q3, q4, q5, q6⟩
      obtain ⟨t, ht, -⟩ := State.frames_cons hr
      show ({ U with heap := s₂.heap, slotsUsed := s₂.slotsUsed } : State) = { U.setFrames U.frames with heap := s₂.heap, slotsUsed := s₂.slotsUsed }
      rw [State.setFrames_self ht]
    subst hg
    refine Or.inl ⟨v, ⟨(({ U with heap := s₂.heap, slotsUsed := s₂.slotsUsed } : State).setVm s₂.vm), Ls ++ L, c0 + mc, s0 + ms⟩,
      ⟨X.admits, X.cas, X.clock, X.frames, X.room, X.hears, X.method, X.code, (X.here.setHeapUsed s₂.heap s₂.slotsUsed).setVm hW'.alike, X.tail, State.WarmedH.trans X.warmed hW', X.limits, X.bytes, X.same.trans (hsame.setVm s.vm)⟩,
      ⟨g, mk, s₂, L, rfl, rfl, hqc, rfl, hL, rfl, rfl⟩, ?_⟩
    show Steps p.tables e below _ ((({ U with heap := s₂.heap, slotsUsed := s₂.slotsUsed } : State).setVm s₂.vm).setTop { g with pc := g.pc + len₂, stack := v.toList ++ g.stack })
    rw [← hs₂]
    exact hsteps
  · obtain ⟨e2, q2, q3, q4, q5, q6⟩ := id hsm
    have e3 : s₂ = ({ (U.calling g mk a).setFrames s₂.frames with heap := s₂.heap, slotsUsed := s₂.slotsUsed } : State).setVm s₂.vm := by
      have : s₂ = ({ s₂ with vm := (U.calling g mk a).vm } : State).setVm s₂.vm := rfl
      rw [e2] at this
      exact this
    have hf₂ : s₂.frames = .throwing q :: .java g :: U.frames.tail := hend
    have hW' : U.WarmedH s₂.vm := hW₂
    have hs₂ : s₂ = ((({ U with heap := s₂.heap, slotsUsed := s₂.slotsUsed } : State).setVm s₂.vm).setTop g).pushFrame (.throwing q) := by
      refine e3.trans ?_
      rw [hf₂, State.calling_eq h.top, State.setFrames_setFrames, State.pushFrame, State.frames_setTop _ hr', State.setTop_of_frames _ hr', State.setFrames_setFrames, hr]
      rfl
    have hsame : U.sameButNew ({ U with heap := s₂.heap, slotsUsed := s₂.slotsUsed } : State) L mc ms := by
      refine ⟨?_, q2, q3, q4, q5, q6⟩
      obtain ⟨t, ht, -⟩ := State.frames_cons hr
      show ({ U with heap := s₂.heap, slotsUsed := s₂.slotsUsed } : State) = { U.setFrames U.frames with heap := s₂.heap, slotsUsed := s₂.slotsUsed }
      rw [State.setFrames_self ht]
    subst hg
    refine Or.inr ⟨q, ⟨(({ U with heap := s₂.heap, slotsUsed := s₂.slotsUsed } : State).setVm s₂.vm), Ls ++ L, c0 + mc, s0 + ms⟩,
      ⟨X.admits, X.cas, X.clock, X.frames, X.room, X.hears, X.method, X.code, (X.here.setHeapUsed s₂.heap s₂.slotsUsed).setVm hW'.alike, X.tail, State.WarmedH.trans X.warmed hW', X.limits, X.bytes, X.same.trans (hsame.setVm s.vm)⟩,
      ⟨g, mk, s₂, L, E, ce, rfl, rfl, hx, hce, hcv, hcl, rfl, hL, rfl, rfl⟩, ?_⟩
    show Steps p.tables e below _ (((({ U with heap := s₂.heap, slotsUsed := s₂.slotsUsed } : State).setVm s₂.vm).setTop g).pushFrame (.throwing q))
    rw [← hs₂]
    exact hsteps
end
variable {p : Program} {l : Launch} {e : Env} {R : Room} {s : State} {m : MethodId} {args : Array Value} {below : List Frame} {meth : Method} {c : Code} {T : State} {H : Heap} {locs : List Loc} {cells slots : Nat}
theorem vx_callVX (X : Stand p l e R s m args below meth c T locs cells slots) (hexec : p.tables.exec = Jvm.exec) {own C : String} {index : Nat} {y : MethodName} {bytes : ByteArray} {maxL : Nat} {ret : Option FieldType} {hh : List (Nat × Nat × Nat × Nat)}
    (hown : s.vm.findClass own = some m.cls) (hlink : (Cond.methodLink own index y).before args s = true) (hinst : (Cond.instanceMethod y).before args s = true) (hsel : (Cond.selects C y y).before args s = true)
    (hcode : (Cond.codeWith y bytes maxL ret hh).before args s = true) (hy : y.cls ≠ "java/lang/invoke/MethodHandle" ∧ y.cls ≠ "java/lang/invoke/VarHandle")
    {W9 : Nat} {Pre : Pt → Array Value → Prop} {Post : Pt → Array Value → Option Value → Pt → Prop} {PostX : Pt → Array Value → Addr → Pt → Prop} (hK : vx_Back l R p e below s args y 3 W9 Pre Post PostX)
    {b : Addr} {cellB : Cell} (hcell : T.heap[b]? = some cellB) (hobj : cellB.vm.isStatics = false) (hcls : s.vm.findClass C = some cellB.cls)
    {g : JFrame} (hg : g.method = m) (hsize : g.locals.size = c.maxLocals) {argsL rest : List Value} (hlen : ∀ sig, parseMethodDescriptor y.desc = some sig → argsL.length = sig.parameters.length)
    (hstack : g.stack = argsL.reverse ++ .ref b :: rest) (hW : 2 * g.monitorRoom + (rest.map fun v => v.category).sum ≤ W9) (hdg : decode c.code g.pc = .ok (.invokevirtual index, 3))
    (hpre : ∀ vm₁, s.WarmedH vm₁ → Pre ⟨T.setVm vm₁, locs, cells, slots⟩ (Value.ref b :: argsL).toArray) :
    (∃ (v : Option Value) (vm₁ : Vm) (B : Pt), s.WarmedH vm₁ ∧ Stand p l e R s m args below meth c B.U B.locs B.cells B.slots ∧ Post ⟨T.setVm vm₁, locs, cells, slots⟩ (Value.ref b :: argsL).toArray v B ∧
      ∀ target, Steps p.tables e below (B.U.setTop { g with pc := g.pc + 3, stack := v.toList ++ rest }) target → Steps p.tables e below (T.setTop g) target) ∨
    (∃ (q : Addr) (vm₁ : Vm) (B : Pt), s.WarmedH vm₁ ∧ Stand p l e R s m args below meth c B.U B.locs B.cells B.slots ∧ PostX ⟨T.setVm vm₁, locs, cells, slots⟩ (Value.ref b :: argsL).toArray q B ∧
      Steps p.tables e below (T.setTop g) ((B.U.setTop { g with stack := rest }).pushFrame (.throwing q))) := by
  obtain ⟨mk, methM, hnamed, hmethM, hstM, habM⟩ := Cond.instanceMethod_spec hinst
  obtain ⟨m8, methM', cM, hn8, hmethM', -, -, -, -, -, -, hsigM⟩ := Cond.codeWith_spec hcode
  cases Option.some.inj (hn8.symm.trans hnamed)
  cases hmethM.symm.trans hmethM'
  obtain ⟨c2, r2, m2, q1, q2, q3, q4, kP, hkP, hkPi⟩ := Cond.selects_spec hsel
  cases hcls.symm.trans q1
  cases (State.methodFound?_of_named hnamed hy).symm.trans q2
  cases hnamed.symm.trans q3
  have hselP : selectMethod e.platform s.vm cellB.cls mk = .method mk := by rw [Launch.admits_selectMethod X.admits]; exact q4
  obtain ⟨vm₁, X₁, hstep₁⟩ := X.invokevirtual hexec hown hlink hnamed hmethM hstM hkP hkPi hy (a := b) (cell := cellB) hcell
    (fun z h => by rw [h] at hobj; cases hobj) hselP hmethM habM hkP hkPi (g := g) hg (argsL := argsL) (rest := rest) (hlen _ hsigM) hstack hdg
  rcases hK m meth c ⟨T.setVm vm₁, locs, cells, slots⟩ { g with stack := rest } (.invokevirtual index) mk (Value.ref b :: argsL).toArray X₁ hg hsize hdg hW (X₁.named hnamed) (hpre vm₁ X₁.warmed) with ⟨v, B, X', hpost, hsteps⟩ | ⟨q, B, X', hpost, hsteps⟩
  · exact Or.inl ⟨v, vm₁, B, X₁.warmed, X', hpost, fun target h => hstep₁ _ fun acts => by rw [doInvoke_state]; exact hsteps.trans h⟩
  · exact Or.inr ⟨q, vm₁, B, X₁.warmed, X', hpost, hstep₁ _ fun acts => by rw [doInvoke_state]; exact hsteps⟩
theorem vx_callSX (X : Stand p l e R s m args below meth c T locs cells slots) (hexec : p.tables.exec = Jvm.exec) {own : String} {index : Nat} {y : MethodName} {bytes : ByteArray} {maxL : Nat} {ret : Option FieldType} {hh : List (Nat × Nat × Nat × Nat)}
    (hown : s.vm.findClass own = some m.cls) (hlink : (Cond.methodLink own index y).before args s = true) (hstat : (Cond.static y).before args s = true) (hinit : (Cond.initialized y.cls).before args s = true)
    (hcode : (Cond.codeWith y bytes maxL ret hh).before args s = true) (hy : y.cls ≠ "java/lang/invoke/MethodHandle" ∧ y.cls ≠ "java/lang/invoke/VarHandle")
    {W9 : Nat} {Pre : Pt → Array Value → Prop} {Post : Pt → Array Value → Option Value → Pt → Prop} {PostX : Pt → Array Value → Addr → Pt → Prop} (hK : vx_Back l R p e below s args y 3 W9 Pre Post PostX)
    {g : JFrame} (hg : g.method = m) (hsize : g.locals.size = c.maxLocals) {argsL rest : List Value} (hlen : ∀ sig, parseMethodDescriptor y.desc = some sig → argsL.length = sig.parameters.length)
    (hstack : g.stack = argsL.reverse ++ rest) (hW : 2 * g.monitorRoom + (rest.map fun v => v.category).sum ≤ W9) (hdg : decode c.code g.pc = .ok (.invokestatic index, 3))
    (hpre : ∀ vm₁, s.WarmedH vm₁ → Pre ⟨T.setVm vm₁, locs, cells, slots⟩ argsL.toArray) :
    (∃ (v : Option Value) (vm₁ : Vm) (B : Pt), s.WarmedH vm₁ ∧ Stand p l e R s m args below meth c B.U B.locs B.cells B.slots ∧ Post ⟨T.setVm vm₁, locs, cells, slots⟩ argsL.toArray v B ∧
      ∀ target, Steps p.tables e below (B.U.setTop { g with pc := g.pc + 3, stack := v.toList ++ rest }) target → Steps p.tables e below (T.setTop g) target) ∨
    (∃ (q : Addr) (vm₁ : Vm) (B : Pt), s.WarmedH vm₁ ∧ Stand p l e R s m args below meth c B.U B.locs B.cells B.slots ∧ PostX ⟨T.setVm vm₁, locs, cells, slots⟩ argsL.toArray q B ∧
      Steps p.tables e below (T.setTop g) ((B.U.setTop { g with stack := rest }).pushFrame (.throwing q))) := by
  obtain ⟨mk, methM, cM, hnamed, hmethM, -, -, -, -, -, -, hsigM⟩ := Cond.codeWith_spec hcode
  have hstatic : methM.isStatic = true := Cond.static_spec hnamed hmethM hstat
  obtain ⟨kP, hkP, -⟩ := className_of_methodNamed hnamed
  have hinitP : kP.init = .initialized := Cond.initialized_spec (findClass_of_methodNamed hnamed) hkP hinit
  obtain ⟨vm₁, X₁, hstep₁⟩ := X.invokestatic hexec hown hlink hnamed hmethM hstatic hkP hinitP hy (g := g) hg (argsL := argsL) (rest := rest) (hlen _ hsigM) hstack hdg
  rcases hK m meth c ⟨T.setVm vm₁, locs, cells, slots⟩ { g with stack := rest } (.invokestatic index) mk argsL.toArray X₁ hg hsize hdg hW (X₁.named hnamed) (hpre vm₁ X₁.warmed) with ⟨v, B, X', hpost, hsteps⟩ | ⟨q, B, X', hpost, hsteps⟩
  · exact Or.inl ⟨v, vm₁, B, X₁.warmed, X', hpost, fun target h => hstep₁ _ fun acts => by rw [doInvoke_state]; exact hsteps.trans h⟩
  · exact Or.inr ⟨q, vm₁, B, X₁.warmed, X', hpost, hstep₁ _ fun acts => by rw [doInvoke_state]; exact hsteps⟩
theorem vx_callVW (X : Stand p l e R s m args below meth c T locs cells slots) (hexec : p.tables.exec = Jvm.exec) {own C : String} {index : Nat} {y : MethodName} {bytes : ByteArray} {maxL : Nat} {ret : Option FieldType} {hh : List (Nat × Nat × Nat × Nat)}
    (hown : s.vm.findClass own = some m.cls) (hlink : (Cond.methodLink own index y).before args s = true) (hinst : (Cond.instanceMethod y).before args s = true) (hsel : (Cond.selects C y y).before args s = true)
    (hcode : (Cond.codeWith y bytes maxL ret hh).before args s = true) (hy : y.cls ≠ "java/lang/invoke/MethodHandle" ∧ y.cls ≠ "java/lang/invoke/VarHandle")
    {W9 : Nat} {Pre : Pt → Array Value → Prop} {Post : Pt → Array Value → Option Value → Pt → Prop} (hK : Back l R p e below s args y 3 W9 Pre Post)
    {b : Addr} {cellB : Cell} (hcell : T.heap[b]? = some cellB) (hobj : cellB.vm.isStatics = false) (hcls : s.vm.findClass C = some cellB.cls)
    {g : JFrame} (hg : g.method = m) (hsize : g.locals.size = c.maxLocals) {argsL rest : List Value} (hlen : ∀ sig, parseMethodDescriptor y.desc = some sig → argsL.length = sig.parameters.length)
    (hstack : g.stack = argsL.reverse ++ .ref b :: rest) (hW : 2 * g.monitorRoom + (rest.map fun v => v.category).sum ≤ W9) (hdg : decode c.code g.pc = .ok (.invokevirtual index, 3))
    (hpre : ∀ vm₁, s.WarmedH vm₁ → Pre ⟨T.setVm vm₁, locs, cells, slots⟩ (Value.ref b :: argsL).toArray) :
    ∃ (v : Option Value) (vm₁ : Vm) (B : Pt), s.WarmedH vm₁ ∧ Stand p l e R s m args below meth c B.U B.locs B.cells B.slots ∧ Post ⟨T.setVm vm₁, locs, cells, slots⟩ (Value.ref b :: argsL).toArray v B ∧
      ∀ target, Steps p.tables e below (B.U.setTop { g with pc := g.pc + 3, stack := v.toList ++ rest }) target → Steps p.tables e below (T.setTop g) target := by
  obtain ⟨mk, methM, hnamed, hmethM, hstM, habM⟩ := Cond.instanceMethod_spec hinst
  obtain ⟨m8, methM', cM, hn8, hmethM', -, -, -, -, -, -, hsigM⟩ := Cond.codeWith_spec hcode
  cases Option.some.inj (hn8.symm.trans hnamed)
  cases hmethM.symm.trans hmethM'
  obtain ⟨c2, r2, m2, q1, q2, q3, q4, kP, hkP, hkPi⟩ := Cond.selects_spec hsel
  cases hcls.symm.trans q1
  cases (State.methodFound?_of_named hnamed hy).symm.trans q2
  cases hnamed.symm.trans q3
  have hselP : selectMethod e.platform s.vm cellB.cls mk = .method mk := by rw [Launch.admits_selectMethod X.admits]; exact q4
  obtain ⟨vm₁, X₁, hstep₁⟩ := X.invokevirtual hexec hown hlink hnamed hmethM hstM hkP hkPi hy (a := b) (cell := cellB) hcell
    (fun z h => by rw [h] at hobj; cases hobj) hselP hmethM habM hkP hkPi (g := g) hg (argsL := argsL) (rest := rest) (hlen _ hsigM) hstack hdg
  obtain ⟨v, B, X', hpost, hsteps⟩ := hK m meth c ⟨T.setVm vm₁, locs, cells, slots⟩ { g with stack := rest } (.invokevirtual index) mk (Value.ref b :: argsL).toArray X₁ hg hsize hdg hW (X₁.named hnamed) (hpre vm₁ X₁.warmed)
  exact ⟨v, vm₁, B, X₁.warmed, X', hpost, fun target h => hstep₁ _ fun acts => by rw [doInvoke_state]; exact hsteps.trans h⟩
abbrev vx_CVW (R : Room) (s : State) (args : Array Value) (own C : String) (index : Nat) (y : MethodName) (bytes : ByteArray) (maxL : Nat) (ret : Option FieldType) (hh : List (Nat × Nat × Nat × Nat)) (ws : List Cond) (rm : Room) (mc ms n : Nat) : Prop :=
  (rm.cells = mc ∧ rm.slots = ms ∧ rm.frames + 1 ≤ R.frames ∧ 8 + (maxL + 11) + rm.locals ≤ R.locals ∧ (∀ w ∈ ws, ∀ (a' : Array Value) (U : State), s.WarmedH U.vm → w.before a' U = true) ∧ Cond.codeWith y bytes maxL ret hh ∈ ws) ∧
  (Cond.codeWith y bytes maxL ret hh).before args s = true ∧ (Cond.initialized y.cls).before args s = true ∧ (y.cls ≠ "java/lang/invoke/MethodHandle" ∧ y.cls ≠ "java/lang/invoke/VarHandle") ∧
  (∀ sig, parseMethodDescriptor y.desc = some sig → n = sig.parameters.length) ∧ (Cond.methodLink own index y).before args s = true ∧ (Cond.instanceMethod y).before args s = true ∧ (Cond.selects C y y).before args s = true
theorem vx_cwVW {own C : String} {index maxL mc ms : Nat} {y : MethodName} {bytes : ByteArray} {ret : Option FieldType} {hh : List (Nat × Nat × Nat × Nat)} {Ts ws ws' : List Cond} {rm : Room} (n : Nat) (ht : ∀ w ∈ Ts, w.before args s = true) (hT : GoodIn Ts (wsV own index C y ws)) (hw : ws = Cond.codeWith y bytes maxL ret hh :: ws') (hrc : rm.cells = mc) (hrs : rm.slots = ms)
    (hd : y.cls = C ∧ y.cls ≠ "java/lang/invoke/MethodHandle" ∧ y.cls ≠ "java/lang/invoke/VarHandle" ∧ (parseMethodDescriptor y.desc).map (fun d => d.parameters.length) = some n) (hR : rm.frames + 1 ≤ R.frames ∧ 8 + (maxL + 11) + rm.locals ≤ R.locals) :
    vx_CVW R s args own C index y bytes maxL ret hh ws rm mc ms n := by
  obtain ⟨hC, hd⟩ := hd
  subst hC
  have ok : ∀ w ∈ wsV own index y.cls y ws, w.before args s = true := fun w h => ht w (hT w h).1
  have hG : GoodIn Ts ws := fun w h => hT w (by unfold wsV; exact List.mem_append_right _ h)
  have hc : Cond.codeWith y bytes maxL ret hh ∈ ws := by rw [hw]; exact List.mem_cons_self
  refine ⟨⟨hrc, hrs, hR.1, hR.2, pay_in ht hG, hc⟩, ht _ (hG _ hc).1, ok _ (by simp [wsV]), ⟨hd.1, hd.2.1⟩, fun sig h => ?_, ok _ (by simp [wsV]), ok _ (by simp [wsV]), ok _ (by simp [wsV])⟩
  have h2 := hd.2.2
  rw [h] at h2
  exact (Option.some.inj h2).symm
theorem vx_runVW {y : MethodName} {bytes cc : ByteArray} {maxL nL mc ms n index : Nat} {ret : Option FieldType} {hh : List (Nat × Nat × Nat × Nat)} {ws : List Cond} {rm : Room} {Pc : Array Value → State → Prop} {Qc : Array Value → State → Outcome → State → Prop} {free : Addr → Prop} {Ts : List Cond} {own C : String} {b : Addr} {As rest : List Value} {g : JFrame}
    (S : CallFix p m c cc nL s args Ts own) (hM : Met l y ws rm Pc Qc mc ms free) (cw : vx_CVW R s args own C index y bytes maxL ret hh ws rm mc ms n) (hp : PreV s H C b Pc As)
    (hg : g.method = m) (hn : As.length = n) (hsize : g.locals.size = nL) (hstack : g.stack = As.reverse ++ .ref b :: rest) (hW : 2 * g.monitorRoom + (rest.map fun v => v.category).sum ≤ 8) (hdg : decode cc g.pc = .ok (.invokevirtual index, 3)) (hf : cells + mc ≤ R.cells ∧ slots + ms ≤ R.slots) :
    va_Run p l e R s m args below meth c H locs cells slots mc ms g rest (Qc (Value.ref b :: As).toArray) free := by
  obtain ⟨⟨hrc, hrs, hfr, hlo, hws, hcw⟩, hcode, hini, hy, hlen, hl, hin, hse⟩ := cw
  have hK : Back l R p e below s args y 3 8 (PreOf R mc ms Pc) (PostOf Qc mc ms free) := va_backW (hh := hh) (bytes := bytes) (maxL := maxL) (ret := ret) hM hp.1 hrc hrs hfr hlo hws hcw (fun a' U hW => word_at hW (Or.inl (by first | rfl | simp [Cond.onTables, Cond.keeps, Cond.steady])) hini)
  obtain ⟨hx, hb, hml, ho, -⟩ := S
  obtain ⟨-, ⟨cellB, hcB, hoB, hclB⟩, hPc⟩ := hp
  intro T hT X
  obtain ⟨v, vm₁, ⟨U', l2, c2, s2⟩, hW₁, X', ⟨g', mk, t, L, e1, e2, hq, h1, hL, h2, h3⟩, st⟩ := vx_callVW X hx (C := C) (hh := hh) (bytes := bytes) (maxL := maxL) (ret := ret) ho hl hin hse hcode hy hK (by rw [hT]; exact hcB) hoB hclB hg (hsize.trans hml.symm) (argsL := As) (rest := rest) (fun sig h => hn.trans (hlen sig h)) hstack hW (by rw [hb]; exact hdg)
    (fun vm₁ hW₁ => ⟨hf.1, hf.2, hPc (T.setVm vm₁) hT hW₁⟩)
  dsimp only [Pt.U, Pt.locs, Pt.cells, Pt.slots] at X' e1 e2 h1 h2 h3 st
  subst h1; subst h2; subst h3
  exact ⟨v, (T.setVm vm₁).calling g' mk (Value.ref b :: As).toArray, t, U', L, hT, X', hL, e1, e2, hq, st⟩
section
variable {y : MethodName} {bytes cc : ByteArray} {maxL nL mc ms n index : Nat} {ret : Option FieldType} {ws : List Cond} {rm : Room} {Pc : Array Value → State → Prop} {Qc : Array Value → State → Outcome → State → Prop} {XC : String → State → State → Prop} {free : Addr → Prop} {Ts : List Cond} {own C : String} {b : Addr} {As rest : List Value} {g : JFrame}
theorem vx_runVX {hh : List (Nat × Nat × Nat × Nat)} (S : CallFix p m c cc nL s args Ts own) (hM : vx_Met l y ws rm Pc Qc XC mc ms free) (cw : vx_CVW R s args own C index y bytes maxL ret hh ws rm mc ms n) (hp : PreV s H C b Pc As)
    (hg : g.method = m) (hn : As.length = n) (hsize : g.locals.size = nL) (hstack : g.stack = As.reverse ++ .ref b :: rest) (hW : 2 * g.monitorRoom + (rest.map fun v => v.category).sum ≤ 8) (hdg : decode cc g.pc = .ok (.invokevirtual index, 3)) (hf : cells + mc ≤ R.cells ∧ slots + ms ≤ R.slots) :
    vx_Run p l e R s m args below meth c H locs cells slots mc ms g rest (Qc (Value.ref b :: As).toArray) XC free := by
  obtain ⟨⟨hrc, hrs, hfr, hlo, hws, hcw⟩, hcode, hini, hy, hlen, hl, hin, hse⟩ := cw
  have hK : vx_Back l R p e below s args y 3 8 (PreOf R mc ms Pc) (PostOf Qc mc ms free) (vx_Post XC mc ms free) := vx_backW (hh := hh) (bytes := bytes) (maxL := maxL) (ret := ret) hM hp.1 hrc hrs hfr hlo hws hcw (fun a' U hW => word_at hW (Or.inl (by first | rfl | simp [Cond.onTables, Cond.keeps, Cond.steady])) hini)
  obtain ⟨hx, hb, hml, ho, -⟩ := S
  obtain ⟨-, ⟨cellB, hcB, hoB, hclB⟩, hPc⟩ := hp
  intro T hT X
  rcases vx_callVX X hx (C := C) (hh := hh) (bytes := bytes) (maxL := maxL) (ret := ret) ho hl hin hse hcode hy hK (by rw [hT]; exact hcB) hoB hclB hg (hsize.trans hml.symm) (argsL := As) (rest := rest) (fun sig h => hn.trans (hlen sig h)) hstack hW (by rw [hb]; exact hdg)
    (fun vm₁ hW₁ => ⟨hf.1, hf.2, hPc (T.setVm vm₁) hT hW₁⟩) with ⟨v, vm₁, ⟨U', l2, c2, s2⟩, hW₁, X', ⟨g', mk, t, L, e1, e2, hq, h1, hL, h2, h3⟩, st⟩ | ⟨q, vm₁, ⟨U', l2, c2, s2⟩, hW₁, X', ⟨g', mk, t, L, E, ce, e1, e2, hq, hce, hcv, hcl, h1, hL, h2, h3⟩, st⟩
  · dsimp only [Pt.U, Pt.locs, Pt.cells, Pt.slots] at X' e1 e2 h1 h2 h3 st
    subst h1; subst h2; subst h3
    exact Or.inl ⟨v, (T.setVm vm₁).calling g' mk (Value.ref b :: As).toArray, t, U', L, hT, X', hL, e1, e2, hq, st⟩
  · dsimp only [Pt.U, Pt.locs, Pt.cells, Pt.slots] at X' e1 e2 h1 h2 h3 st hcl
    subst h1; subst h2; subst h3
    exact Or.inr ⟨q, (T.setVm vm₁).calling g' mk (Value.ref b :: As).toArray, t, U', L, E, ce, hT, X', hL, e1, e2, hq, hce, hcv, vx_cls hW₁ hcl, st⟩
theorem vx_runSX {hh : List (Nat × Nat × Nat × Nat)} (S : CallFix p m c cc nL s args Ts own) (hM : vx_Met l y ws rm Pc Qc XC mc ms free) (cw : vx_CSW R s args own index y bytes maxL ret hh ws rm mc ms n) (hp : PreS s H Pc As)
    (hg : g.method = m) (hn : As.length = n) (hsize : g.locals.size = nL) (hstack : g.stack = As.reverse ++ rest) (hW : 2 * g.monitorRoom + (rest.map fun v => v.category).sum ≤ 8) (hdg : decode cc g.pc = .ok (.invokestatic index, 3)) (hf : cells + mc ≤ R.cells ∧ slots + ms ≤ R.slots) :
    vx_Run p l e R s m args below meth c H locs cells slots mc ms g rest (Qc As.toArray) XC free := by
  obtain ⟨⟨hrc, hrs, hfr, hlo, hws, hcw⟩, hcode, hini, hy, hlen, hl, hstt⟩ := cw
  have hK : vx_Back l R p e below s args y 3 8 (PreOf R mc ms Pc) (PostOf Qc mc ms free) (vx_Post XC mc ms free) := vx_backW (hh := hh) (bytes := bytes) (maxL := maxL) (ret := ret) hM hp.1 hrc hrs hfr hlo hws hcw (fun a' U hW => word_at hW (Or.inl (by first | rfl | simp [Cond.onTables, Cond.keeps, Cond.steady])) hini)
  obtain ⟨hx, hb, hml, ho, -⟩ := S
  intro T hT X
  rcases vx_callSX X hx (hh := hh) (bytes := bytes) (maxL := maxL) (ret := ret) ho hl hstt hini hcode hy hK hg (hsize.trans hml.symm) (argsL := As) (rest := rest) (fun sig h => hn.trans (hlen sig h)) hstack hW (by rw [hb]; exact hdg)
    (fun vm₁ hW₁ => ⟨hf.1, hf.2, hp.2 (T.setVm vm₁) hT hW₁⟩) with ⟨v, vm₁, ⟨U', l2, c2, s2⟩, hW₁, X', ⟨g', mk, t, L, e1, e2, hq, h1, hL, h2, h3⟩, st⟩ | ⟨q, vm₁, ⟨U', l2, c2, s2⟩, hW₁, X', ⟨g', mk, t, L, E, ce, e1, e2, hq, hce, hcv, hcl, h1, hL, h2, h3⟩, st⟩
  · dsimp only [Pt.U, Pt.locs, Pt.cells, Pt.slots] at X' e1 e2 h1 h2 h3 st
    subst h1; subst h2; subst h3
    exact Or.inl ⟨v, (T.setVm vm₁).calling g' mk As.toArray, t, U', L, hT, X', hL, e1, e2, hq, st⟩
  · dsimp only [Pt.U, Pt.locs, Pt.cells, Pt.slots] at X' e1 e2 h1 h2 h3 st hcl
    subst h1; subst h2; subst h3
    exact Or.inr ⟨q, (T.setVm vm₁).calling g' mk As.toArray, t, U', L, E, ce, hT, X', hL, e1, e2, hq, hce, hcv, vx_cls hW₁ hcl, st⟩
end
end VXH
theorem vx_ofWH {l : Launch} {y : MethodName} {ws ws' : List Cond} {rm : Room} {Pc : Array Value → State → Prop} {Qc : Array Value → State → Outcome → State → Prop} {XC : String → State → State → Prop} {mc ms : Nat} {free : Addr → Prop} {cc : ByteArray} {maxL : Nat} {ret : Option FieldType} {hh : List (Nat × Nat × Nat × Nat)}
    (hy : plainName y.cls = true) (hw : ws = Cond.codeWith y cc maxL ret hh :: ws')
    (body : ∀ p e s m args below meth c s₁, BodyLoose p l y (headSpec ws rm) cc maxL ret e s m args below meth c s₁ → c.maxLocals = maxL → Pc args s →
      W p l e (headSpec ws rm).room s m args below meth c s.heap [] 0 0 (vx_MQ below Qc XC args s mc ms free) (entryFrame m args maxL)) : vx_Met l y ws rm Pc Qc XC mc ms free := by
  refine MetFree.of_bodyS (code := cc) (maxLocals := maxL) (ret := ret) hy ?_ ?_
  · intro args s m h hn
    obtain ⟨m9, meth, c, hn9, h1, h2, h3, h4, -, h5, h6, -⟩ := Cond.codeWith_spec (atoms_spec (ws := ws) h _ (by rw [hw]; exact List.mem_cons_self))
    cases hn.symm.trans hn9
    exact ⟨meth, c, h1, h2, h3, h4, h5, h6⟩
  · intro p e s m args below meth c s₁ B hml hP _
    have hh0 : s₁.heap = s.heap := by rw [B.state]; rfl
    obtain ⟨t, a1, o, b1, b2, b3⟩ := body p e s m args below meth c s₁ B hml hP s₁ hh0 (Stand.of_body B)
    exact ⟨t, o, a1, b1, b2, b3⟩
/-! ===== END ===== -/
/-! ===== END ===== -/
/-! ===== BEGIN an exception as an object: made, kept, thrown later (no traces kept) ===== -/
section VXK
variable {p : Program} {l : Launch} {e : Env} {R : Room} {s : State} {m₀ : MethodId} {args : Array Value} {below : List Frame} {meth : Method} {c : Code} {W : State} {locs : List Loc} {cells slots : Nat}
set_option maxHeartbeats 1000000 in
theorem vx_ctorMadeS (X : Stand p l e R s m₀ args below meth c W locs cells slots) (hexec : p.tables.exec = Jvm.exec) (htr : e.platform.stackTraces = false) {own cls : String} {names : List String} {ic : Nat}
    (hown : s.vm.findClass own = some m₀.cls) (hcls : Bundle.fit cls = true) (hnames : ∀ n ∈ names, Bundle.fit n = true)
    (h : ∀ a ∈ Bundle.ownAtoms own ic cls names, a.before args s = true)
    (hlocs : ∀ x ∈ locs, ∀ cell, s.heap[x.base]? = some cell → cell.vm.isStatics = false)
    {a : Addr} {cX : ClassId} {kX : Class} (hfoundX : s.vm.findClass cls = some cX) (hkX : s.vm.classes[cX]? = some kX) (hcell : W.heap[a]? = some (freshCell cX kX)) (hnew : s.heap.size ≤ a)
    {msg : Value} (hmsg : msg.isRef = true)
    {g : JFrame} (hg : g.method = m₀) (hsize : g.locals.size = c.maxLocals) {rest : List Value} (hstack : g.stack = msg :: .ref a :: .ref a :: rest)
    (hd6 : decode c.code g.pc = .ok (.invokespecial ic, 3))
    (hRframes : names.length + 3 < R.frames) (hRlocals : 2 * g.monitorRoom + ((Value.ref a :: rest).map fun v => v.category).sum + (13 * (names.length + 1) + 42) ≤ R.locals) :
    ∃ (V : State) (ce : Cell) (L : List Loc), Stand p l e R s m₀ args below meth c (V.setCell a ce) (locs ++ L) cells slots ∧ (∀ y ∈ L, y.base = a) ∧ a < V.heap.size ∧ ce.cls = cX ∧ ce.vm = .none ∧
      ∀ target, Steps p.tables e below ((V.setCell a ce).setTop { g with stack := .ref a :: rest, pc := g.pc + 3 }) target → Steps p.tables e below (W.setTop g) target := by
  have howns : e.platform.frameOwnsMonitors = true := by rw [X.admits.platform]
  have hfin : e.platform.finalization = false := by rw [X.admits.platform]
  have hpl : e.platform.magicAccessors = ({} : Platform).magicAccessors := by rw [X.admits.platform]
  have a' : ∀ x, x ∈ Bundle.ownAtoms own ic cls names → x.holds args s none s [] = true := fun x hx => h x hx
  obtain ⟨T, Z0, L, -, Y⟩ := ThrowableC.of_atoms (args := args) howns hfin hpl (fun x hx => h x (by simp [Bundle.ownAtoms, hx]))
  obtain ⟨Z, M, LZ, LM, hnZ⟩ := Init0T.ofS_atoms (args := args) hpl L Y (fun x hx => h x (by simp [Bundle.ownAtoms, hx]))
  obtain ⟨P1, Ps, hlen, L1, hL, hP1m, hlink1, hlink⟩ := Bundle.chainS (args := args) hpl hnZ names cls hcls hnames (fun x hx => h x (by simp [Bundle.ownAtoms, hx]))
  have hfound : s.vm.findClass cls = some P1.m.cls := findClass_of_methodNamed hP1m
  cases Option.some.inj (hfoundX.symm.trans hfound)
  obtain ⟨c1, kX', hc1, hk, hord, -, -, hn6⟩ := Cond.instantiable_spec (a' (.instantiable cls 6) (by simp [Bundle.ownAtoms]))
  cases Option.some.inj (hc1.symm.trans hfound)
  cases Option.some.inj (hkX.symm.trans hk)
  have hsel0 : selectMethod e.platform s.vm P1.m.cls T.fill0 = .method T.fill0 := by
    obtain ⟨c2, r2, m2, q1, q2, q3, q4, -⟩ := Cond.selects_spec (a' (.selects cls Bundle.tFill0 Bundle.tFill0) (by simp [Bundle.ownAtoms]))
    cases Option.some.inj (q1.symm.trans hfound)
    cases Option.some.inj (q2.symm.trans (State.methodFound?_of_named Y.fill0 (by decide)))
    cases Option.some.inj (q3.symm.trans Y.fill0)
    rw [Launch.admits_selectMethod X.admits]; exact q4
  have hselF : selectMethod e.platform s.vm P1.m.cls T.fill = .method T.fill := by
    obtain ⟨c2, r2, m2, q1, q2, q3, q4, -⟩ := Cond.selects_spec (a' (.selects cls Bundle.tFill Bundle.tFill) (by simp [Bundle.ownAtoms]))
    cases Option.some.inj (q1.symm.trans hfound)
    cases Option.some.inj (q2.symm.trans (State.methodFound?_of_named Y.fill (by decide)))
    cases Option.some.inj (q3.symm.trans Y.fill)
    rw [Launch.admits_selectMethod X.admits]; exact q4
  obtain ⟨cellS0, hcS0, hiss⟩ := Y.statics
  obtain ⟨u0, hu0⟩ := Cond.staticRefV Y.unassigned L.unassignedStatic L.statics hcS0 hiss (a' (.isRef (.static Bundle.tN "UNASSIGNED_STACK" Bundle.steD)) (by simp [Bundle.ownAtoms]))
  obtain ⟨sen, hsen⟩ := Cond.staticRefV Y.sentinel L.sentinelStatic L.statics hcS0 hiss (a' (.isRef (.static Bundle.tN "SUPPRESSED_SENTINEL" Bundle.listD)) (by simp [Bundle.ownAtoms]))
  obtain ⟨ci198, i198, fB, hk198, hg198, ha198, hsB, -, hnB, htB, hffB⟩ := Cond.ownField (t := .object "java/lang/Object") Y.found L.cls (by decide +kernel) (a' (.fieldLink Bundle.tN 198 Bundle.tN "backtrace" "Ljava/lang/Object;") (by simp [Bundle.ownAtoms])) (a' (.lays Bundle.tN Bundle.tN "backtrace" "Ljava/lang/Object;") (by simp [Bundle.ownAtoms])) e.platform hpl
  obtain ⟨cellS, hcS', heS, -, hkeep⟩ := X.same.2.2.2.2.2 T.aS cellS0 hcS0
  have hcellS : W.heap[T.aS]? = some cellS := hcS'
  have hout' : ∀ i, (⟨T.aS, i⟩ : Loc) ∉ locs := fun i hmem => by
    have := hlocs _ hmem cellS0 hcS0
    rw [hiss] at this; cases this
  have hknownS : cellS.vm ≠ .unknown := by
    rw [heS]; intro hu
    rw [show cellS0.vm = .unknown from hu] at hiss
    cases hiss
  have hneS : T.aS ≠ a := Nat.ne_of_lt (Nat.lt_of_lt_of_le (Array.getElem?_eq_some_iff.mp hcS0).1 hnew)
  obtain ⟨iM, hffM⟩ := Y.msg
  obtain ⟨tyC, dC, hdC, hdnC⟩ := Cond.laysAt hfound hk Y.cause (a' (.lays cls Bundle.tN "cause" "Ljava/lang/Throwable;") (by simp [Bundle.ownAtoms]))
  obtain ⟨tyS, dS, hdS, hdnS⟩ := Cond.laysAt hfound hk Y.stack (a' (.lays cls Bundle.tN "stackTrace" Bundle.steD) (by simp [Bundle.ownAtoms]))
  obtain ⟨tyP, dP, hdP, hdnP⟩ := Cond.laysAt hfound hk Y.supp (a' (.lays cls Bundle.tN "suppressedExceptions" Bundle.listD) (by simp [Bundle.ownAtoms]))
  obtain ⟨tyM, dM, hdM, hdnM⟩ := Cond.laysAt hfound hk hffM (a' (.lays cls Bundle.tN "detailMessage" "Ljava/lang/String;") (by simp [Bundle.ownAtoms]))
  obtain ⟨tyB, dB, hdB, hdnB⟩ := Cond.laysAt hfound hk hffB (a' (.lays cls Bundle.tN "backtrace" "Ljava/lang/Object;") (by simp [Bundle.ownAtoms]))
  have bC := Cond.laysApart hdB hdC hdnB hdnC (by rw [hnB, Y.causeName]; decide)
  have bS := Cond.laysApart hdB hdS hdnB hdnS (by rw [hnB, Y.stackName]; decide)
  have bP := Cond.laysApart hdB hdP hdnB hdnP (by rw [hnB, Y.suppName]; decide)
  have hskip : SkipFacts T e.platform s (fun u => u) u0 ((preparedCellV T.toThrowableT (freshCell P1.m.cls kX) a u0 sen).withEntry W.cur) :=
    ⟨{ ci198 := ci198, i198 := i198, fBack := fB }, ⟨hk198, hg198, ha198, hsB⟩, by
      have := fresh_default (c := P1.m.cls) tyB
      rw [htB] at this
      simpa [preparedCellV, Cell.setSlot, Cell.withEntry, Array.getElem?_setIfInBounds, bC, bS, bP, bC.symm, bS.symm, bP.symm, defaultValue] using this, fun _ _ => rfl⟩
  obtain ⟨tm, methC, cdC, kC, vm₁, hnC, -, -, -, -, -, -, -, hW₁, st1⟩ := Steps.initColdS (tb := p.tables) (e := e) (below := below) (s := s) (U := W) X.here hexec X.warmed hpl hown (t := Bundle.initS cls) rfl rfl (Bundle.fit_spec hcls).2
    (a' (.methodLink own ic (Bundle.initS cls)) (by simp [Bundle.ownAtoms])) (h (.instanceMethod (Bundle.initS cls)) (by cases names <;> simp [Bundle.ownAtoms, Bundle.chainSAtoms, Bundle.passSAtoms])) (bytes := Bundle.six) (maxL := 2) (h (.code (Bundle.initS cls) Bundle.six 2 none) (by cases names <;> simp [Bundle.ownAtoms, Bundle.chainSAtoms, Bundle.passSAtoms]))
    (f := g) hg (a := a) (msg := msg) (rest := .ref a :: rest) hstack hd6
  cases Option.some.inj (hnC.symm.trans hP1m)
  have X₁ := X.noted hW₁
  obtain ⟨vm₂, X₂, st2⟩ := X₁.ctorMessageOffV hexec (g := { g with stack := .ref a :: rest }) hg hsize T L Z LZ M LM (P1 :: Ps)
    (fun P hP => by rcases List.mem_cons.mp hP with rfl | hP; exact L1; exact hL P hP) ⟨hlink1, hlink⟩ (u0 := u0) (sen := sen) (self := a) hmsg (cell := freshCell P1.m.cls kX) (cellS := cellS)
    hcell (fun _ => by simp) (by simp) rfl rfl hsel0 hselF hcellS hneS hknownS (by rw [hkeep _ (hout' _)]; exact hu0) (by rw [hkeep _ (hout' _)]; exact hsen)
    (Takes.of_laid hk hord tyC (by rw [Y.causeType]; rfl)) (Takes.of_laid hk hord tyS (by rw [Y.stackType]; exact fits_refV_array _ u0)) (Takes.of_laid hk hord tyP (by rw [Y.suppType]; exact fits_refV_object _ sen))
    (Takes.of_laid hk hord tyM (by rw [Y.msgType]; exact fits_refV_object _ ⟨msg, hmsg⟩)) Y.objLocals hskip htr [] hd6
    (by simp only [List.length_cons, hlen]; omega) (by simp only [List.length_cons, hlen]; exact hRlocals)
  have hlt : a < ((W.setVm vm₁).setVm vm₂).heap.size := (Array.getElem?_eq_some_iff.mp hcell).1
  refine ⟨(W.setVm vm₁).setVm vm₂, _, _, X₂, fun y hy => ?_, hlt, rfl, rfl, fun target hwalk => st1 _ (fun acts => ?_)⟩
  · simp only [List.mem_cons, List.not_mem_nil, or_false] at hy
    rcases hy with rfl | rfl | rfl | rfl | rfl <;> rfl
  · rw [doInvoke_state]
    exact st2 _ hwalk
set_option maxHeartbeats 1000000 in
theorem vx_ctorMade0 (X : Stand p l e R s m₀ args below meth c W locs cells slots) (hexec : p.tables.exec = Jvm.exec) (htr : e.platform.stackTraces = false) {own cls : String} {names : List String} {ic : Nat}
    (hown : s.vm.findClass own = some m₀.cls) (hcls : Bundle.fit cls = true) (hnames : ∀ n ∈ names, Bundle.fit n = true)
    (h : ∀ a ∈ Bundle.ownAtoms0 own ic cls names, a.before args s = true)
    (hlocs : ∀ x ∈ locs, ∀ cell, s.heap[x.base]? = some cell → cell.vm.isStatics = false)
    {a : Addr} {cX : ClassId} {kX : Class} (hfoundX : s.vm.findClass cls = some cX) (hkX : s.vm.classes[cX]? = some kX) (hcell : W.heap[a]? = some (freshCell cX kX)) (hnew : s.heap.size ≤ a)
    {g : JFrame} (hg : g.method = m₀) (hsize : g.locals.size = c.maxLocals) {rest : List Value} (hstack : g.stack = .ref a :: .ref a :: rest)
    (hd6 : decode c.code g.pc = .ok (.invokespecial ic, 3))
    (hRframes : names.length + 3 < R.frames) (hRlocals : 2 * g.monitorRoom + ((Value.ref a :: rest).map fun v => v.category).sum + (13 * (names.length + 1) + 41) ≤ R.locals) :
    ∃ (V : State) (ce : Cell) (L : List Loc), Stand p l e R s m₀ args below meth c (V.setCell a ce) (locs ++ L) cells slots ∧ (∀ y ∈ L, y.base = a) ∧ a < V.heap.size ∧ ce.cls = cX ∧ ce.vm = .none ∧
      ∀ target, Steps p.tables e below ((V.setCell a ce).setTop { g with stack := .ref a :: rest, pc := g.pc + 3 }) target → Steps p.tables e below (W.setTop g) target := by
  have howns : e.platform.frameOwnsMonitors = true := by rw [X.admits.platform]
  have hfin : e.platform.finalization = false := by rw [X.admits.platform]
  have hpl : e.platform.magicAccessors = ({} : Platform).magicAccessors := by rw [X.admits.platform]
  have a' : ∀ x, x ∈ Bundle.ownAtoms0 own ic cls names → x.holds args s none s [] = true := fun x hx => h x hx
  obtain ⟨T, Z, L, LZ, Y⟩ := ThrowableC.of_atoms (args := args) howns hfin hpl (fun x hx => h x (by simp [Bundle.ownAtoms0, hx]))
  obtain ⟨P1, Ps, hlen, L1, hL, hP1m, hlink1, hlink⟩ := Bundle.chain0 (args := args) hpl Y.init0 names cls hcls hnames (fun x hx => h x (by simp [Bundle.ownAtoms0, hx]))
  have hfound : s.vm.findClass cls = some P1.m.cls := findClass_of_methodNamed hP1m
  cases Option.some.inj (hfoundX.symm.trans hfound)
  obtain ⟨c1, kX', hc1, hk, hord, -, -, hn6⟩ := Cond.instantiable_spec (a' (.instantiable cls 6) (by simp [Bundle.ownAtoms0]))
  cases Option.some.inj (hc1.symm.trans hfound)
  cases Option.some.inj (hkX.symm.trans hk)
  have hsel0 : selectMethod e.platform s.vm P1.m.cls T.fill0 = .method T.fill0 := by
    obtain ⟨c2, r2, m2, q1, q2, q3, q4, -⟩ := Cond.selects_spec (a' (.selects cls Bundle.tFill0 Bundle.tFill0) (by simp [Bundle.ownAtoms0]))
    cases Option.some.inj (q1.symm.trans hfound)
    cases Option.some.inj (q2.symm.trans (State.methodFound?_of_named Y.fill0 (by decide)))
    cases Option.some.inj (q3.symm.trans Y.fill0)
    rw [Launch.admits_selectMethod X.admits]; exact q4
  have hselF : selectMethod e.platform s.vm P1.m.cls T.fill = .method T.fill := by
    obtain ⟨c2, r2, m2, q1, q2, q3, q4, -⟩ := Cond.selects_spec (a' (.selects cls Bundle.tFill Bundle.tFill) (by simp [Bundle.ownAtoms0]))
    cases Option.some.inj (q1.symm.trans hfound)
    cases Option.some.inj (q2.symm.trans (State.methodFound?_of_named Y.fill (by decide)))
    cases Option.some.inj (q3.symm.trans Y.fill)
    rw [Launch.admits_selectMethod X.admits]; exact q4
  obtain ⟨cellS0, hcS0, hiss⟩ := Y.statics
  obtain ⟨u0, hu0⟩ := Cond.staticRefV Y.unassigned L.unassignedStatic L.statics hcS0 hiss (a' (.isRef (.static Bundle.tN "UNASSIGNED_STACK" Bundle.steD)) (by simp [Bundle.ownAtoms0]))
  obtain ⟨sen, hsen⟩ := Cond.staticRefV Y.sentinel L.sentinelStatic L.statics hcS0 hiss (a' (.isRef (.static Bundle.tN "SUPPRESSED_SENTINEL" Bundle.listD)) (by simp [Bundle.ownAtoms0]))
  obtain ⟨ci198, i198, fB, hk198, hg198, ha198, hsB, -, hnB, htB, hffB⟩ := Cond.ownField (t := .object "java/lang/Object") Y.found L.cls (by decide +kernel) (a' (.fieldLink Bundle.tN 198 Bundle.tN "backtrace" "Ljava/lang/Object;") (by simp [Bundle.ownAtoms0])) (a' (.lays Bundle.tN Bundle.tN "backtrace" "Ljava/lang/Object;") (by simp [Bundle.ownAtoms0])) e.platform hpl
  obtain ⟨cellS, hcS', heS, -, hkeep⟩ := X.same.2.2.2.2.2 T.aS cellS0 hcS0
  have hcellS : W.heap[T.aS]? = some cellS := hcS'
  have hout' : ∀ i, (⟨T.aS, i⟩ : Loc) ∉ locs := fun i hmem => by
    have := hlocs _ hmem cellS0 hcS0
    rw [hiss] at this; cases this
  have hknownS : cellS.vm ≠ .unknown := by
    rw [heS]; intro hu
    rw [show cellS0.vm = .unknown from hu] at hiss
    cases hiss
  have hneS : T.aS ≠ a := Nat.ne_of_lt (Nat.lt_of_lt_of_le (Array.getElem?_eq_some_iff.mp hcS0).1 hnew)
  obtain ⟨iM, hffM⟩ := Y.msg
  obtain ⟨tyC, dC, hdC, hdnC⟩ := Cond.laysAt hfound hk Y.cause (a' (.lays cls Bundle.tN "cause" "Ljava/lang/Throwable;") (by simp [Bundle.ownAtoms0]))
  obtain ⟨tyS, dS, hdS, hdnS⟩ := Cond.laysAt hfound hk Y.stack (a' (.lays cls Bundle.tN "stackTrace" Bundle.steD) (by simp [Bundle.ownAtoms0]))
  obtain ⟨tyP, dP, hdP, hdnP⟩ := Cond.laysAt hfound hk Y.supp (a' (.lays cls Bundle.tN "suppressedExceptions" Bundle.listD) (by simp [Bundle.ownAtoms0]))
  obtain ⟨tyM, dM, hdM, hdnM⟩ := Cond.laysAt hfound hk hffM (a' (.lays cls Bundle.tN "detailMessage" "Ljava/lang/String;") (by simp [Bundle.ownAtoms0]))
  obtain ⟨tyB, dB, hdB, hdnB⟩ := Cond.laysAt hfound hk hffB (a' (.lays cls Bundle.tN "backtrace" "Ljava/lang/Object;") (by simp [Bundle.ownAtoms0]))
  have bC := Cond.laysApart hdB hdC hdnB hdnC (by rw [hnB, Y.causeName]; decide)
  have bS := Cond.laysApart hdB hdS hdnB hdnS (by rw [hnB, Y.stackName]; decide)
  have bP := Cond.laysApart hdB hdP hdnB hdnP (by rw [hnB, Y.suppName]; decide)
  have hskip : SkipFacts T e.platform s (fun u => u) u0 ((preparedCellV T.toThrowableT (freshCell P1.m.cls kX) a u0 sen).withEntry W.cur) :=
    ⟨{ ci198 := ci198, i198 := i198, fBack := fB }, ⟨hk198, hg198, ha198, hsB⟩, by
      have := fresh_default (c := P1.m.cls) tyB
      rw [htB] at this
      simpa [preparedCellV, Cell.setSlot, Cell.withEntry, Array.getElem?_setIfInBounds, bC, bS, bP, bC.symm, bS.symm, bP.symm, defaultValue] using this, fun _ _ => rfl⟩
  obtain ⟨tm, methC, cdC, kC, vm₁, hnC, -, -, -, -, -, -, -, hW₁, st1⟩ := Steps.initCold (tb := p.tables) (e := e) (below := below) (s := s) (U := W) X.here hexec X.warmed hpl hown (t := Bundle.init0 cls) rfl rfl (Bundle.fit_spec hcls).2
    (a' (.methodLink own ic (Bundle.init0 cls)) (by simp [Bundle.ownAtoms0])) (h (.instanceMethod (Bundle.init0 cls)) (by cases names <;> simp [Bundle.ownAtoms0, Bundle.chain0Atoms, Bundle.passAtoms])) (bytes := Bundle.five) (maxL := 1) (h (.code (Bundle.init0 cls) Bundle.five 1 none) (by cases names <;> simp [Bundle.ownAtoms0, Bundle.chain0Atoms, Bundle.passAtoms]))
    (f := g) hg (a := a) (rest := .ref a :: rest) hstack hd6
  cases Option.some.inj (hnC.symm.trans hP1m)
  have X₁ := X.noted hW₁
  obtain ⟨vm₂, X₂, st2⟩ := X₁.ctorPlainOffV hexec (g := { g with stack := .ref a :: rest }) hg hsize T L Z LZ (P1 :: Ps)
    (fun P hP => by rcases List.mem_cons.mp hP with rfl | hP; exact L1; exact hL P hP) ⟨hlink1, hlink⟩ (u0 := u0) (sen := sen) (self := a) (cell := freshCell P1.m.cls kX) (cellS := cellS)
    hcell (fun _ => by simp) (by simp) rfl rfl hsel0 hselF hcellS hneS hknownS (by rw [hkeep _ (hout' _)]; exact hu0) (by rw [hkeep _ (hout' _)]; exact hsen)
    (Takes.of_laid hk hord tyC (by rw [Y.causeType]; rfl)) (Takes.of_laid hk hord tyS (by rw [Y.stackType]; exact fits_refV_array _ u0)) (Takes.of_laid hk hord tyP (by rw [Y.suppType]; exact fits_refV_object _ sen)) Y.objLocals hskip htr [] hd6
    (by simp only [List.length_cons, hlen]; omega) (by simp only [List.length_cons, hlen]; exact hRlocals)
  have hlt : a < ((W.setVm vm₁).setVm vm₂).heap.size := (Array.getElem?_eq_some_iff.mp hcell).1
  refine ⟨(W.setVm vm₁).setVm vm₂, _, _, X₂, fun y hy => ?_, hlt, rfl, rfl, fun target hwalk => st1 _ (fun acts => ?_)⟩
  · simp only [List.mem_cons, List.not_mem_nil, or_false] at hy
    rcases hy with rfl | rfl | rfl | rfl <;> rfl
  · rw [doInvoke_state]
    exact st2 _ hwalk
end VXK
section VXK2
variable {p : Program} {l : Launch} {e : Env} {R : Room} {s : State} {m : MethodId} {args : Array Value} {below : List Frame} {meth : Method} {c : Code} {H : Heap} {locs : List Loc} {cells slots : Nat} {Q : State → Prop}
variable {ls : Array Slot} {rest : List Value} {D : va_G} {cl : List vw_C} {tys : List (ClassId × FieldType)} {ws : va_W}
/-- 'throw x' of an object that was made before -/
theorem vx_athrow {cc : ByteArray} {pc : Nat} (hexec : p.tables.exec = Jvm.exec) (hb : c.code = cc) {q : Addr} (hdg : decode cc pc = .ok (.athrow, 1)) (k : vx_W p l e R s m args below meth c H locs cells slots Q (F0 m pc ls rest) q) : W p l e R s m args below meth c H locs cells slots Q (F0 m pc ls (.ref q :: rest)) := by
  intro T hT X
  obtain ⟨t, st, hq⟩ := k T hT X
  refine ⟨t, ?_, hq⟩
  have hdg' : decode c.code pc = .ok (.athrow, 1) := by rw [hb]; exact hdg
  jvm_step X.here [X.here.top, hexec, hdg', athrow.wp_sem]
  exact st
end VXK2
/-! ===== END ===== -/
end
section
/-! ===== words: ints and longs as natural numbers, as a program of words reckons with them ===== -/
theorem di_bm32 (n : Nat) : (n : Int).bmod 4294967296 = if n % 4294967296 < 2147483648 then ((n % 4294967296 : Nat) : Int) else ((n % 4294967296 : Nat) : Int) - 4294967296 := by
  simp only [Int.bmod]
  split <;> split <;> omega
theorem di_bm64 (n : Nat) : (n : Int).bmod 18446744073709551616 = if n % 18446744073709551616 < 9223372036854775808 then ((n % 18446744073709551616 : Nat) : Int) else ((n % 18446744073709551616 : Nat) : Int) - 18446744073709551616 := by
  simp only [Int.bmod]
  split <;> split <;> omega
theorem di_iv (n : Nat) : (Int32.ofNat n).toInt = if n % 4294967296 < 2147483648 then ((n % 4294967296 : Nat) : Int) else ((n % 4294967296 : Nat) : Int) - 4294967296 := by
  rw [Int32.toInt_ofNat']
  exact di_bm32 n
theorem di_jv (n : Nat) : (Int64.ofNat n).toInt = if n % 18446744073709551616 < 9223372036854775808 then ((n % 18446744073709551616 : Nat) : Int) else ((n % 18446744073709551616 : Nat) : Int) - 18446744073709551616 := by
  rw [Int64.toInt_ofNat']
  exact di_bm64 n
theorem di_ieq {a b : Nat} : Int32.ofNat a = Int32.ofNat b ↔ a % 4294967296 = b % 4294967296 := by
  rw [← Int32.toInt_inj, di_iv, di_iv]
  split <;> split <;> omega
theorem di_jeq {a b : Nat} : Int64.ofNat a = Int64.ofNat b ↔ a % 18446744073709551616 = b % 18446744073709551616 := by
  rw [← Int64.toInt_inj, di_jv, di_jv]
  split <;> split <;> omega
theorem di_imod (a : Nat) : Int32.ofNat (a % 4294967296) = Int32.ofNat a := di_ieq.mpr (by omega)
theorem di_jmod (a : Nat) : Int64.ofNat (a % 18446744073709551616) = Int64.ofNat a := di_jeq.mpr (by omega)
-- what a program of words does
def dAdd (a b : Nat) : Nat := Nat.mod (Nat.add a b) 4294967296
def dSub (a b : Nat) : Nat := Nat.mod (Nat.add a (Nat.sub 4294967296 (Nat.mod b 4294967296))) 4294967296
def dMul (a b : Nat) : Nat := Nat.mod (Nat.mul a b) 4294967296
def dNeg (a : Nat) : Nat := Nat.mod (Nat.sub 4294967296 (Nat.mod a 4294967296)) 4294967296
def dAnd (a b : Nat) : Nat := Nat.land (Nat.mod a 4294967296) (Nat.mod b 4294967296)
def dOr (a b : Nat) : Nat := Nat.mod (Nat.lor a b) 4294967296
def dXor (a b : Nat) : Nat := Nat.mod (Nat.xor a b) 4294967296
def dShl (a b : Nat) : Nat := Nat.mod (Nat.shiftLeft a (Nat.mod b 32)) 4294967296
def dLAdd (a b : Nat) : Nat := Nat.mod (Nat.add a b) 18446744073709551616
def dLSub (a b : Nat) : Nat := Nat.mod (Nat.add a (Nat.sub 18446744073709551616 (Nat.mod b 18446744073709551616))) 18446744073709551616
def dLMul (a b : Nat) : Nat := Nat.mod (Nat.mul a b) 18446744073709551616
def dLAnd (a b : Nat) : Nat := Nat.land (Nat.mod a 18446744073709551616) (Nat.mod b 18446744073709551616)
def dLOr (a b : Nat) : Nat := Nat.mod (Nat.lor a b) 18446744073709551616
def dLXor (a b : Nat) : Nat := Nat.mod (Nat.xor a b) 18446744073709551616
def dLShl (a b : Nat) : Nat := Nat.mod (Nat.shiftLeft a (Nat.mod b 64)) 18446744073709551616
def dLUshr (a b : Nat) : Nat := Nat.shiftRight (Nat.mod a 18446744073709551616) (Nat.mod b 64)
def dI2l (a : Nat) : Nat := cond (Nat.blt (Nat.mod a 4294967296) 2147483648) (Nat.mod a 4294967296) (Nat.add (Nat.mod a 4294967296) 18446744069414584320)
def dL2i (a : Nat) : Nat := Nat.mod a 4294967296
def dI2b (a : Nat) : Nat := cond (Nat.blt (Nat.mod a 256) 128) (Nat.mod a 256) (Nat.add (Nat.mod a 256) 4294967040)
def dLt (a b : Nat) : Bool := Nat.blt (Nat.mod (Nat.add a 2147483648) 4294967296) (Nat.mod (Nat.add b 2147483648) 4294967296)
def dEq (a b : Nat) : Bool := Nat.beq (Nat.mod a 4294967296) (Nat.mod b 4294967296)
def dLLt (a b : Nat) : Bool := Nat.blt (Nat.mod (Nat.add a 9223372036854775808) 18446744073709551616) (Nat.mod (Nat.add b 9223372036854775808) 18446744073709551616)
def dCmp (a b : Nat) : Nat := cond (dLLt a b) 4294967295 (cond (dLLt b a) 1 0)
-- .. and that it is what the machine does
theorem di_add (a b : Nat) : Int32.ofNat a + Int32.ofNat b = Int32.ofNat (dAdd a b) := by
  rw [← Int32.ofNat_add]; exact (di_imod _).symm
theorem di_mul (a b : Nat) : Int32.ofNat a * Int32.ofNat b = Int32.ofNat (dMul a b) := by
  rw [← Int32.ofNat_mul]; exact (di_imod _).symm
theorem di_sub (a b : Nat) : Int32.ofNat a - Int32.ofNat b = Int32.ofNat (dSub a b) := by
  have h : dSub a b = (a + (4294967296 - b % 4294967296)) % 4294967296 := rfl
  rw [h, ← Int32.toInt_inj, Int32.toInt_sub, di_iv, di_iv, di_iv]
  simp only [Int.bmod]
  split <;> split <;> split <;> split <;> omega
theorem di_neg (a : Nat) : -(Int32.ofNat a) = Int32.ofNat (dNeg a) := by
  have h : dNeg a = (4294967296 - a % 4294967296) % 4294967296 := rfl
  rw [h, ← Int32.toInt_inj, Int32.toInt_neg, di_iv, di_iv]
  simp only [Int.bmod]
  split <;> split <;> split <;> omega
theorem di_and0 (a b : Nat) : Int32.ofNat a &&& Int32.ofNat b = Int32.ofNat (a &&& b) := Int32.toBitVec_inj.mp (by
  rw [Int32.toBitVec_and]; simp)
theorem di_and (a b : Nat) : Int32.ofNat a &&& Int32.ofNat b = Int32.ofNat (dAnd a b) := by
  rw [← di_imod a, ← di_imod b]; exact di_and0 _ _
theorem di_or (a b : Nat) : Int32.ofNat a ||| Int32.ofNat b = Int32.ofNat (dOr a b) := by
  refine Eq.trans ?_ (di_imod (a ||| b)).symm
  exact Int32.toBitVec_inj.mp (by rw [Int32.toBitVec_or]; simp)
theorem di_xor (a b : Nat) : Int32.ofNat a ^^^ Int32.ofNat b = Int32.ofNat (dXor a b) := by
  refine Eq.trans ?_ (di_imod (a ^^^ b)).symm
  exact Int32.toBitVec_inj.mp (by rw [Int32.toBitVec_xor]; simp)
theorem di_ladd (a b : Nat) : Int64.ofNat a + Int64.ofNat b = Int64.ofNat (dLAdd a b) := by
  rw [← Int64.ofNat_add]; exact (di_jmod _).symm
theorem di_lmul (a b : Nat) : Int64.ofNat a * Int64.ofNat b = Int64.ofNat (dLMul a b) := by
  rw [← Int64.ofNat_mul]; exact (di_jmod _).symm
theorem di_lsub (a b : Nat) : Int64.ofNat a - Int64.ofNat b = Int64.ofNat (dLSub a b) := by
  have h : dLSub a b = (a + (18446744073709551616 - b % 18446744073709551616)) % 18446744073709551616 := rfl
  rw [h, ← Int64.toInt_inj, Int64.toInt_sub, di_jv, di_jv, di_jv]
  simp only [Int.bmod]
  split <;> split <;> split <;> split <;> omega
theorem di_land0 (a b : Nat) : Int64.ofNat a &&& Int64.ofNat b = Int64.ofNat (a &&& b) := Int64.toBitVec_inj.mp (by
  rw [Int64.toBitVec_and]; simp)
theorem di_land (a b : Nat) : Int64.ofNat a &&& Int64.ofNat b = Int64.ofNat (dLAnd a b) := by
  rw [← di_jmod a, ← di_jmod b]; exact di_land0 _ _
theorem di_lor (a b : Nat) : Int64.ofNat a ||| Int64.ofNat b = Int64.ofNat (dLOr a b) := by
  refine Eq.trans ?_ (di_jmod (a ||| b)).symm
  exact Int64.toBitVec_inj.mp (by rw [Int64.toBitVec_or]; simp)
theorem di_lxor (a b : Nat) : Int64.ofNat a ^^^ Int64.ofNat b = Int64.ofNat (dLXor a b) := by
  refine Eq.trans ?_ (di_jmod (a ^^^ b)).symm
  exact Int64.toBitVec_inj.mp (by rw [Int64.toBitVec_xor]; simp)
theorem di_cond {α : Type} (a b : Nat) (x y : α) : cond (Nat.blt a b) x y = if a < b then x else y := by
  by_cases h : a < b
  · rw [if_pos h, show Nat.blt a b = true by rw [Nat.blt_eq]; exact h]; rfl
  · rw [if_neg h, show Nat.blt a b = false by
      cases q : Nat.blt a b
      · rfl
      · rw [Nat.blt_eq] at q; exact absurd q h]; rfl
theorem di_i2l_eq (a : Nat) : dI2l a = if a % 4294967296 < 2147483648 then a % 4294967296 else a % 4294967296 + 18446744069414584320 := di_cond _ _ _ _
theorem di_i2b_eq (a : Nat) : dI2b a = if a % 256 < 128 then a % 256 else a % 256 + 4294967040 := di_cond _ _ _ _
theorem di_i2l (a : Nat) : (Int32.ofNat a).toInt64 = Int64.ofNat (dI2l a) := by
  rw [← Int64.toInt_inj, Int32.toInt_toInt64, di_iv, di_jv, di_i2l_eq]
  split <;> split <;> omega
theorem di_l2i (a : Nat) : (Int64.ofNat a).toInt32 = Int32.ofNat (dL2i a) := by
  have h : dL2i a = a % 4294967296 := rfl
  rw [h, ← Int32.toInt_inj, Int64.toInt_toInt32, di_iv, di_jv]
  simp only [Int.bmod]
  split <;> split <;> split <;> omega
theorem di_i2b (a : Nat) : (Int32.ofNat a).toInt8.toInt32 = Int32.ofNat (dI2b a) := by
  rw [← Int32.toInt_inj, Int8.toInt_toInt32, Int32.toInt_toInt8, di_iv, di_iv, di_i2b_eq]
  simp only [Int.bmod]
  split <;> split <;> split <;> (try split) <;> omega
theorem di_blt {a b : Nat} : Nat.blt a b = true ↔ a < b := by rw [Nat.blt_eq]
theorem di_lt (a b : Nat) : dLt a b = true ↔ Int32.ofNat a < Int32.ofNat b := by
  rw [Int32.lt_iff_toInt_lt, di_iv, di_iv]
  have h : dLt a b = Nat.blt ((a + 2147483648) % 4294967296) ((b + 2147483648) % 4294967296) := rfl
  rw [h, Nat.blt_eq]
  split <;> split <;> omega
theorem di_llt (a b : Nat) : dLLt a b = true ↔ Int64.ofNat a < Int64.ofNat b := by
  rw [Int64.lt_iff_toInt_lt, di_jv, di_jv]
  have h : dLLt a b = Nat.blt ((a + 9223372036854775808) % 18446744073709551616) ((b + 9223372036854775808) % 18446744073709551616) := rfl
  rw [h, Nat.blt_eq]
  split <;> split <;> omega
theorem di_eq (a b : Nat) : dEq a b = true ↔ Int32.ofNat a = Int32.ofNat b := by
  have h : dEq a b = Nat.beq (a % 4294967296) (b % 4294967296) := rfl
  rw [h, Nat.beq_eq, di_ieq]
theorem di_cmp (a b : Nat) : lg_cmp (Int64.ofNat a) (Int64.ofNat b) = Int32.ofNat (dCmp a b) := by
  unfold dCmp
  cases h1 : dLLt a b
  · have q1 : ¬ Int64.ofNat a < Int64.ofNat b := fun q => by rw [(di_llt a b).mpr q] at h1; cases h1
    cases h2 : dLLt b a
    · have q2 : ¬ Int64.ofNat b < Int64.ofNat a := fun q => by rw [(di_llt b a).mpr q] at h2; cases h2
      have q3 : Int64.ofNat a = Int64.ofNat b := by
        rw [Int64.lt_iff_toInt_lt] at q1 q2
        rw [← Int64.toInt_inj]; omega
      simp [lg_cmp, q3]
    · have q2 := (di_llt b a).mp h2
      simp [lg_cmp, q1, q2]
  · have q1 := (di_llt a b).mp h1
    have q2 : ¬ Int64.ofNat b < Int64.ofNat a := fun q => by
      rw [Int64.lt_iff_toInt_lt] at q q1; omega
    have q3 : ¬ Int64.ofNat a = Int64.ofNat b := fun q => by
      rw [Int64.lt_iff_toInt_lt, q] at q1; omega
    simp [lg_cmp, q1, q2, q3]
    try decide
theorem di_sm32 : ∀ k, k < 32 → ((Int32.ofNat k).toBitVec.smod 32).toNat = k := by decide +kernel
theorem di_sm64 : ∀ k, k < 64 → ((Int64.ofNat k).toBitVec.smod 64).toNat = k := by decide +kernel
theorem di_and31 (b : Nat) : Int32.ofNat b &&& 31 = Int32.ofNat (b % 32) := by
  have h : (31 : Int32) = Int32.ofNat 31 := rfl
  rw [h, di_and0, show b &&& 31 = b % 32 from Nat.and_two_pow_sub_one_eq_mod b 5]
theorem di_and63 (b : Nat) : (Int32.ofNat b).toInt64 &&& 63 = Int64.ofNat (b % 64) := by
  have h : (63 : Int64) = Int64.ofNat 63 := rfl
  rw [di_i2l, h, di_land0, show dI2l b &&& 63 = dI2l b % 64 from Nat.and_two_pow_sub_one_eq_mod _ 6]
  congr 1
  rw [di_i2l_eq]
  split <;> omega
theorem di_shl (a b : Nat) : Int32.ofNat a <<< (Int32.ofNat b &&& 31) = Int32.ofNat (dShl a b) := by
  have hb : b % 32 < 32 := Nat.mod_lt _ (by decide)
  rw [di_and31]
  refine Eq.trans ?_ (di_imod (a <<< (b % 32))).symm
  apply Int32.toBitVec_inj.mp
  rw [Int32.toBitVec_shiftLeft]
  apply BitVec.eq_of_toNat_eq
  show (BitVec.shiftLeft _ _).toNat = _
  rw [di_sm32 _ hb]
  show ((BitVec.ofNat 32 a) <<< (b % 32)).toNat = (BitVec.ofNat 32 (a <<< (b % 32))).toNat
  rw [BitVec.toNat_shiftLeft, BitVec.toNat_ofNat, BitVec.toNat_ofNat, Nat.shiftLeft_eq, Nat.shiftLeft_eq, Nat.mod_mul_mod]
theorem di_lshl (a b : Nat) : Int64.ofNat a <<< ((Int32.ofNat b).toInt64 &&& 63) = Int64.ofNat (dLShl a b) := by
  have hb : b % 64 < 64 := Nat.mod_lt _ (by decide)
  rw [di_and63]
  refine Eq.trans ?_ (di_jmod (a <<< (b % 64))).symm
  apply Int64.toBitVec_inj.mp
  rw [Int64.toBitVec_shiftLeft]
  apply BitVec.eq_of_toNat_eq
  show (BitVec.shiftLeft _ _).toNat = _
  rw [di_sm64 _ hb]
  show ((BitVec.ofNat 64 a) <<< (b % 64)).toNat = (BitVec.ofNat 64 (a <<< (b % 64))).toNat
  rw [BitVec.toNat_shiftLeft, BitVec.toNat_ofNat, BitVec.toNat_ofNat, Nat.shiftLeft_eq, Nat.shiftLeft_eq, Nat.mod_mul_mod]
theorem di_um64 (b : Nat) : ((Int32.ofNat b).toInt64.toUInt64 &&& Int64.toUInt64 63).toNat = b % 64 := by
  have h : ((Int32.ofNat b).toInt64 &&& 63).toUInt64 = (Int32.ofNat b).toInt64.toUInt64 &&& Int64.toUInt64 63 := rfl
  rw [← h, di_and63]
  show (BitVec.ofNat 64 (b % 64)).toNat = _
  rw [BitVec.toNat_ofNat]
  omega
theorem di_lushr (a b : Nat) : ((Int64.ofNat a).toUInt64 >>> ((Int32.ofNat b).toInt64.toUInt64 &&& Int64.toUInt64 63)).toInt64 = Int64.ofNat (dLUshr a b) := by
  have e : (Int64.ofNat a).toUInt64 >>> ((Int32.ofNat b).toInt64.toUInt64 &&& Int64.toUInt64 63) = UInt64.ofNat (dLUshr a b) := UInt64.toNat_inj.mp (by
    rw [UInt64.toNat_shiftRight, di_um64]
    have hd : dLUshr a b = (a % 18446744073709551616) >>> (b % 64) := rfl
    have h1 : (Int64.ofNat a).toUInt64.toNat = a % 18446744073709551616 := by
      show (BitVec.ofNat 64 a).toNat = _
      rw [BitVec.toNat_ofNat]
    rw [h1, hd, UInt64.toNat_ofNat', Nat.shiftRight_eq_div_pow, Nat.shiftRight_eq_div_pow, show b % 64 % 64 = b % 64 by omega]
    have h2 : a % 18446744073709551616 / 2 ^ (b % 64) ≤ a % 18446744073709551616 := Nat.div_le_self _ _
    omega)
  rw [e]
  rfl
end
section
/-! ===== a heap of words: values, cells, and how they lie in the machine's heap ===== -/
abbrev dV : Type := Nat ⊕ Nat ⊕ Nat
abbrev dC : Type := Nat × Nat × Nat
abbrev dH : Type := Nat × Nat × List (List dC)
/-- a value: an int, a long, or (0) null and (k + 1) the cell k, which lies at b k -/
def dv (b : Nat → Nat) : dV → Value
  | .inl n => .int (Int32.ofNat n)
  | .inr (.inl n) => .long (Int64.ofNat n)
  | .inr (.inr 0) => .null
  | .inr (.inr (k + 1)) => .ref (b k)
/-- number k of the words of w bits in c (tables) -/
def wq (w c k : Nat) : Nat := Nat.mod (Nat.shiftRight c (Nat.mul w k)) (Nat.pow 2 w)
/-- number k of the words of w bits in c, behind 64 bits that stand for nothing (they only tell contents apart at a glance) -/
def wd (w c k : Nat) : Nat := Nat.mod (Nat.shiftRight c (Nat.add (Nat.mul w k) 64)) (Nat.pow 2 w)
def dmx (k v : Nat) : Nat := Nat.mod (Nat.mul v (Nat.add (Nat.mul k 11400714819323198485) 14029467366897019727)) 18446744073709551616
def wst (w c k v : Nat) : Nat := Nat.xor (Nat.xor c (Nat.shiftLeft (Nat.xor (wd w c k) v) (Nat.add (Nat.mul w k) 64))) (Nat.xor (dmx k (wd w c k)) (dmx k v))
theorem wd_tb (w c k i : Nat) : (wd w c k).testBit i = (decide (i < w) && c.testBit (w * k + 64 + i)) := by
  have h : wd w c k = (c >>> (w * k + 64)) % 2 ^ w := rfl
  rw [h, Nat.testBit_mod_two_pow, Nat.testBit_shiftRight]
theorem wd_lt (w c k : Nat) : wd w c k < 2 ^ w := Nat.mod_lt _ (Nat.two_pow_pos w)
theorem dmx_lt (k v : Nat) : dmx k v < 2 ^ 64 := Nat.mod_lt _ (by decide)
theorem wd_wst {w c k v : Nat} (j : Nat) (hv : v < 2 ^ w) : wd w (wst w c k v) j = if j = k then v else wd w c j := by
  obtain ⟨m, hm, hs⟩ : ∃ m, m < 2 ^ 64 ∧ wst w c k v = (c ^^^ ((wd w c k ^^^ v) <<< (w * k + 64))) ^^^ m := ⟨_, Nat.xor_lt_two_pow (dmx_lt k (wd w c k)) (dmx_lt k v), rfl⟩
  have hx : wd w c k ^^^ v < 2 ^ w := Nat.xor_lt_two_pow (wd_lt w c k) hv
  apply Nat.eq_of_testBit_eq
  intro i
  have hmi : m.testBit (w * j + 64 + i) = false := Nat.testBit_lt_two_pow (Nat.lt_of_lt_of_le hm (Nat.pow_le_pow_right (by decide) (by omega)))
  rw [wd_tb, hs, Nat.testBit_xor, hmi, Bool.xor_false, Nat.testBit_xor, Nat.testBit_shiftLeft]
  by_cases hi : i < w
  · by_cases hj : j = k
    · subst hj
      rw [if_pos rfl, show w * j + 64 + i - (w * j + 64) = i by omega, Nat.testBit_xor, wd_tb]
      have h1 : w * j + 64 + i ≥ w * j + 64 := by omega
      simp [hi, h1]
    · rw [if_neg hj, wd_tb]
      by_cases hk : w * j + 64 + i ≥ w * k + 64
      · have hjk : k + 1 ≤ j := by
          rcases Nat.lt_or_ge k j with q | q
          · exact q
          · exfalso
            have q2 : j + 1 ≤ k := by omega
            have q3 : w * (j + 1) ≤ w * k := Nat.mul_le_mul_left w q2
            rw [Nat.mul_add] at q3
            omega
        have q3 : w * (k + 1) ≤ w * j := Nat.mul_le_mul_left w hjk
        rw [Nat.mul_add] at q3
        have h2 : (wd w c k ^^^ v).testBit (w * j + 64 + i - (w * k + 64)) = false := Nat.testBit_lt_two_pow (Nat.lt_of_lt_of_le hx (Nat.pow_le_pow_right (by decide) (by omega)))
        simp [hi, h2]
      · simp [hi, hk]
  · have h0 : (decide (i < w)) = false := by simp [hi]
    rw [h0, Bool.false_and]
    by_cases hj : j = k
    · rw [if_pos hj]
      exact (Nat.testBit_lt_two_pow (Nat.lt_of_lt_of_le hv (Nat.pow_le_pow_right (by decide) (by omega)))).symm
    · rw [if_neg hj, wd_tb, h0, Bool.false_and]
theorem wd_0 (w k : Nat) : wd w 0 k = 0 := by
  have h : wd w 0 k = (0 >>> (w * k + 64)) % 2 ^ w := rfl
  rw [h, Nat.zero_shiftRight, Nat.zero_mod]
-- strict steps: a number is reckoned out before it goes on
noncomputable def fo {α : Type} (n : Nat) (k : Nat → α) : α := Nat.rec (motive := fun _ => α) (k 0) (fun m _ => k (Nat.succ m)) n
theorem fo_eq {α : Type} (n : Nat) (k : Nat → α) : fo n k = k n := by cases n <;> rfl
noncomputable def nth {α : Type} (l : List α) : Nat → Option α := List.rec (motive := fun _ => Nat → Option α) (fun _ => none) (fun a _ ih n => Nat.rec (motive := fun _ => Option α) (some a) (fun m _ => ih m) n) l
theorem nth_eq {α : Type} (l : List α) (n : Nat) : nth l n = l[n]? := by
  induction l generalizing n with
  | nil => rfl
  | cons a t ih => cases n with
    | zero => rfl
    | succ m => rw [List.getElem?_cons_succ, ← ih m]; rfl
noncomputable def setc {α β : Type} (l : List α) : Nat → α → (List α → β) → β → β := List.rec (motive := fun _ => Nat → α → (List α → β) → β → β) (fun _ _ _ z => z) (fun a t ih n c k z => Nat.rec (motive := fun _ => β) (k (c :: t)) (fun m _ => ih m c (fun u => k (a :: u)) z) n) l
theorem setc_eq {α β : Type} (l : List α) (n : Nat) (c : α) (k : List α → β) (z : β) : setc l n c k z = if n < l.length then k (l.set n c) else z := by
  induction l generalizing n k with
  | nil => rfl
  | cons a t ih => cases n with
    | zero => rfl
    | succ m =>
      show setc t m c (fun u => k (a :: u)) z = _
      rw [ih]
      simp only [List.length_cons, Nat.add_lt_add_iff_right, List.set_cons_succ]
noncomputable def appc {α β : Type} (l : List α) : α → (List α → β) → β := List.rec (motive := fun _ => α → (List α → β) → β) (fun c k => k [c]) (fun a _ ih c k => ih c (fun u => k (a :: u))) l
theorem appc_eq {α β : Type} (l : List α) (c : α) (k : List α → β) : appc l c k = k (l ++ [c]) := by
  induction l generalizing k with
  | nil => rfl
  | cons a t ih =>
    show appc t c (fun u => k (a :: u)) = _
    rw [ih]
    rfl
/-- the cell k -/
noncomputable def hat (h : dH) (k : Nat) : Option dC := match nth h.2.2 (Nat.div k 16) with
  | none => none
  | some ch => nth ch (Nat.mod k 16)
def hwf (h : dH) : Prop := h.2.2.length = (h.1 + 15) / 16 ∧ ∀ (i : Nat) (ch : List dC), h.2.2[i]? = some ch → ch.length = min 16 (h.1 - 16 * i)
theorem hat_eq (h : dH) (k : Nat) : hat h k = (h.2.2[k / 16]?).bind (fun ch => ch[k % 16]?) := by
  unfold hat
  rw [nth_eq]
  show (match h.2.2[k / 16]? with | none => none | some ch => nth ch (Nat.mod k 16)) = _
  cases h.2.2[k / 16]? with
  | none => rfl
  | some ch => exact nth_eq ch _
theorem hat_lt {h : dH} (hw : hwf h) {k : Nat} {c : dC} (e : hat h k = some c) : k < h.1 := by
  rw [hat_eq] at e
  cases hc : h.2.2[k / 16]? with
  | none => rw [hc] at e; cases e
  | some ch =>
    rw [hc] at e
    have h1 := hw.2 _ _ hc
    have h2 : k % 16 < ch.length := (List.getElem?_eq_some_iff.mp e).1
    omega
noncomputable def hset {β : Type} (h : dH) (k : Nat) (c : dC) (f : dH → β) (z : β) : β := match h with
  | (n, s, cs) => match nth cs (Nat.div k 16) with
    | none => z
    | some ch => setc ch (Nat.mod k 16) c (fun ch' => setc cs (Nat.div k 16) ch' (fun cs' => f (n, s, cs')) z) z
theorem hset_spec {β : Type} {h : dH} {k : Nat} {c0 c : dC} (f : dH → β) (z : β) (hw : hwf h) (e : hat h k = some c0) : ∃ h' : dH, hset h k c f z = f h' ∧ h'.1 = h.1 ∧ h'.2.1 = h.2.1 ∧ hwf h' ∧ ∀ j, hat h' j = if j = k then some c else hat h j := by
  obtain ⟨n, s, cs⟩ := h
  rw [hat_eq] at e
  dsimp only at e
  cases hc : cs[k / 16]? with
  | none => rw [hc] at e; cases e
  | some ch =>
    rw [hc] at e
    have h2 : k % 16 < ch.length := (List.getElem?_eq_some_iff.mp e).1
    have h3 : k / 16 < cs.length := (List.getElem?_eq_some_iff.mp hc).1
    refine ⟨(n, s, cs.set (k / 16) (ch.set (k % 16) c)), ?_, rfl, rfl, ?_, fun j => ?_⟩
    · unfold hset
      dsimp only
      rw [nth_eq, show cs[Nat.div k 16]? = some ch from hc]
      dsimp only
      rw [setc_eq, if_pos (show Nat.mod k 16 < ch.length from h2), setc_eq, if_pos (show Nat.div k 16 < cs.length from h3)]
      rfl
    · refine ⟨by simpa using hw.1, fun i d hd => ?_⟩
      dsimp only at hd ⊢
      rw [List.getElem?_set] at hd
      split at hd
      · rename_i hi
        subst hi
        cases hd
        rw [List.length_set]
        exact hw.2 _ _ hc
      · exact hw.2 _ _ hd
    · rw [hat_eq, hat_eq]
      dsimp only
      rw [List.getElem?_set]
      by_cases hj : k / 16 = j / 16
      · rw [if_pos hj, if_pos h3, ← hj, hc]
        show (ch.set (k % 16) c)[j % 16]? = if j = k then some c else ch[j % 16]?
        rw [List.getElem?_set]
        by_cases hm : k % 16 = j % 16
        · rw [if_pos hm, if_pos (by omega), if_pos (by omega)]
        · rw [if_neg hm, if_neg (by omega)]
      · rw [if_neg hj, if_neg (by omega)]
noncomputable def hpush {β : Type} (h : dH) (c : dC) (sz : Nat) (f : dH → β) (z : β) : β := match h with
  | (n, s, cs) => fo (Nat.add s sz) fun s' => match Nat.mod n 16 with
    | 0 => appc cs [c] (fun cs' => f (Nat.succ n, s', cs'))
    | _ => match nth cs (Nat.div n 16) with
      | none => z
      | some ch => appc ch c (fun ch' => setc cs (Nat.div n 16) ch' (fun cs' => f (Nat.succ n, s', cs')) z)
theorem hpush_spec {β : Type} {h : dH} {c : dC} {sz : Nat} (f : dH → β) (z : β) (hw : hwf h) : ∃ h' : dH, hpush h c sz f z = f h' ∧ h'.1 = h.1 + 1 ∧ h'.2.1 = h.2.1 + sz ∧ hwf h' ∧ ∀ j, hat h' j = if j = h.1 then some c else hat h j := by
  obtain ⟨n, s, cs⟩ := h
  obtain ⟨hw1, hw2⟩ := hw
  dsimp only at hw1 hw2
  have hex : hpush (n, s, cs) c sz f z = (match Nat.mod n 16 with
    | 0 => appc cs [c] (fun cs' => f (Nat.succ n, Nat.add s sz, cs'))
    | _ => match nth cs (Nat.div n 16) with
      | none => z
      | some ch => appc ch c (fun ch' => setc cs (Nat.div n 16) ch' (fun cs' => f (Nat.succ n, Nat.add s sz, cs')) z)) := by
    unfold hpush
    dsimp only
    rw [fo_eq]
  by_cases hn : n % 16 = 0
  · refine ⟨(n + 1, s + sz, cs ++ [[c]]), ?_, rfl, rfl, ⟨by simp; omega, fun i d hd => ?_⟩, fun j => ?_⟩
    · rw [hex, show Nat.mod n 16 = 0 from hn]
      show appc cs [c] _ = _
      rw [appc_eq]
      rfl
    · dsimp only at hd ⊢
      by_cases hi : i < cs.length
      · rw [List.getElem?_append_left hi] at hd
        rw [hw2 _ _ hd]; omega
      · rw [List.getElem?_append_right (by omega)] at hd
        have h0 : i - cs.length < 1 := (List.getElem?_eq_some_iff.mp hd).1
        rw [show i - cs.length = 0 by omega] at hd
        cases hd
        show 1 = _
        omega
    · rw [hat_eq, hat_eq]
      dsimp only
      by_cases hi : j / 16 < cs.length
      · rw [List.getElem?_append_left hi, if_neg (by omega)]
      · rw [List.getElem?_append_right (by omega)]
        rw [show cs[j / 16]? = none from List.getElem?_eq_none (by omega)]
        by_cases hj : j / 16 = cs.length
        · rw [show j / 16 - cs.length = 0 by omega]
          show [c][j % 16]? = _
          by_cases hjn : j = n
          · rw [if_pos hjn, show j % 16 = 0 by omega]; try rfl
          · rw [if_neg hjn]
            exact List.getElem?_eq_none (by simp; omega)
        · rw [show ([[c]] : List (List dC))[j / 16 - cs.length]? = none from List.getElem?_eq_none (by simp; omega), if_neg (by omega)]
  · have hlt : n / 16 < cs.length := by omega
    obtain ⟨ch, hc⟩ : ∃ ch, cs[n / 16]? = some ch := ⟨_, List.getElem?_eq_getElem hlt⟩
    have hl := hw2 _ _ hc
    refine ⟨(n + 1, s + sz, cs.set (n / 16) (ch ++ [c])), ?_, rfl, rfl, ⟨by simp; omega, fun i d hd => ?_⟩, fun j => ?_⟩
    · rw [hex]
      obtain ⟨r, hr⟩ : ∃ r, Nat.mod n 16 = r + 1 := ⟨n % 16 - 1, by show n % 16 = _; omega⟩
      rw [hr]
      show (match nth cs (Nat.div n 16) with | none => z | some ch => _) = _
      rw [nth_eq, show cs[Nat.div n 16]? = some ch from hc]
      dsimp only
      rw [appc_eq, setc_eq, if_pos (show Nat.div n 16 < cs.length from hlt)]
      rfl
    · dsimp only at hd ⊢
      rw [List.getElem?_set] at hd
      split at hd
      · rename_i hi
        subst hi
        cases hd
        rw [List.length_append, hl]
        simp
        omega
      · rw [hw2 _ _ hd]
        have h0 := (List.getElem?_eq_some_iff.mp hd).1
        omega
    · rw [hat_eq, hat_eq]
      dsimp only
      rw [List.getElem?_set]
      by_cases hj : n / 16 = j / 16
      · rw [if_pos hj, if_pos hlt, ← hj, hc]
        show (ch ++ [c])[j % 16]? = if j = n then some c else ch[j % 16]?
        by_cases hm : j % 16 < ch.length
        · rw [List.getElem?_append_left hm, if_neg (by omega)]
        · rw [List.getElem?_append_right (by omega), show ch[j % 16]? = none from List.getElem?_eq_none (by omega)]
          by_cases hjn : j = n
          · rw [if_pos hjn, show j % 16 - ch.length = 0 by omega]; rfl
          · rw [if_neg hjn]
            exact List.getElem?_eq_none (by simp; omega)
      · rw [if_neg hj, if_neg (by omega)]
end
section
/-! ===== bytes of one content put into another ===== -/
def dch (c p n : Nat) : Nat := Nat.mod (Nat.shiftRight c (Nat.add (Nat.mul 8 p) 64)) (Nat.pow 2 (Nat.mul 8 n))
def dcp (cs ct sp dp n : Nat) : Nat := Nat.xor (Nat.xor ct (Nat.shiftLeft (Nat.xor (dch cs sp n) (dch ct dp n)) (Nat.add (Nat.mul 8 dp) 64))) (dmx (Nat.add dp n) (Nat.xor (dch cs sp n) (dch ct dp n)))
theorem dch_tb (c p n i : Nat) : (dch c p n).testBit i = (decide (i < 8 * n) && c.testBit (8 * p + 64 + i)) := by
  have h : dch c p n = (c >>> (8 * p + 64)) % 2 ^ (8 * n) := rfl
  rw [h, Nat.testBit_mod_two_pow, Nat.testBit_shiftRight]
theorem wd_dcp (cs ct sp dp n j : Nat) : wd 8 (dcp cs ct sp dp n) j = if dp ≤ j ∧ j < dp + n then wd 8 cs (sp + (j - dp)) else wd 8 ct j := by
  obtain ⟨m, hm, hs⟩ : ∃ m, m < 2 ^ 64 ∧ dcp cs ct sp dp n = (ct ^^^ ((dch cs sp n ^^^ dch ct dp n) <<< (8 * dp + 64))) ^^^ m := ⟨_, dmx_lt _ _, rfl⟩
  apply Nat.eq_of_testBit_eq
  intro i
  have hmi : m.testBit (8 * j + 64 + i) = false := Nat.testBit_lt_two_pow (Nat.lt_of_lt_of_le hm (Nat.pow_le_pow_right (by decide) (by omega)))
  rw [wd_tb, hs, Nat.testBit_xor, hmi, Bool.xor_false, Nat.testBit_xor, Nat.testBit_shiftLeft]
  by_cases hi : i < 8
  · by_cases hj : dp ≤ j ∧ j < dp + n
    · rw [if_pos hj, Nat.testBit_xor, dch_tb, dch_tb, wd_tb]
      have h1 : 8 * j + 64 + i ≥ 8 * dp + 64 := by omega
      have h2 : 8 * j + 64 + i - (8 * dp + 64) < 8 * n := by omega
      rw [show 8 * dp + 64 + (8 * j + 64 + i - (8 * dp + 64)) = 8 * j + 64 + i by omega, show 8 * sp + 64 + (8 * j + 64 + i - (8 * dp + 64)) = 8 * (sp + (j - dp)) + 64 + i by omega]
      simp only [hi, h1, h2, decide_true, Bool.true_and, ge_iff_le]
      cases ct.testBit (8 * j + 64 + i) <;> cases cs.testBit (8 * (sp + (j - dp)) + 64 + i) <;> rfl
    · rw [if_neg hj, wd_tb]
      by_cases hk : 8 * j + 64 + i ≥ 8 * dp + 64
      · have h2 : ¬ 8 * j + 64 + i - (8 * dp + 64) < 8 * n := by omega
        rw [Nat.testBit_xor, dch_tb, dch_tb]
        simp [hi, h2]
      · simp [hi, hk]
  · split <;> simp [wd_tb, hi]
end
section
/-! ===== names (the printed ones of this claim), and tables of words out of them ===== -/
def RX0 : String := "ItemJudge$Checker"
def TX0 : u_T := fun k => match k with
  | 0 => ("ItemJudge$Checker", "rules", "LItemJudge$Rules;", false)
  | 1 => ("ItemJudge$Checker", "tokens", "LItemJudge$Tokens;", false)
  | 2 => ("ItemJudge$Checker", "tree", "LItemJudge$Tree;", false)
  | 3 => ("ItemJudge$Checker", "blamed", "I", false)
  | _ => ("ItemJudge$Checker", "fault", "I", false)
def tyX0 : Nat → FieldType := fun k => match k with
  | 0 => .object "ItemJudge$Rules"
  | 1 => .object "ItemJudge$Tokens"
  | 2 => .object "ItemJudge$Tree"
  | 3 => .int
  | _ => .int
abbrev wsX00 : List Cond := u_ws RX0 TX0 5
theorem nmX0 : ∀ a, a < 5 → ∀ b, b < 5 → a ≠ b → (TX0 a).2.1 ≠ (TX0 b).2.1 := by decide +kernel
theorem tyX0_ok : ∀ k, k < 5 → parseFieldDescriptor (TX0 k).2.2.1 = some (tyX0 k) := by decide +kernel
abbrev cX0_init : ByteArray := prog_2_method_1_code
def yX0_init : MethodName := ⟨RX0, "<init>", "(LItemJudge$Rules;)V"⟩
abbrev cX0_blamedToken : ByteArray := prog_2_method_2_code
def yX0_blamedToken : MethodName := ⟨RX0, "blamedToken", "()I"⟩
abbrev cX0_firstFault : ByteArray := prog_2_method_3_code
def yX0_firstFault : MethodName := ⟨RX0, "firstFault", "(LItemJudge$Rules;)I"⟩
abbrev cX0_bind : ByteArray := prog_2_method_4_code
def yX0_bind : MethodName := ⟨RX0, "bind", "(LItemJudge$Rules;)V"⟩
abbrev cX0_blame : ByteArray := prog_2_method_5_code
def yX0_blame : MethodName := ⟨RX0, "blame", "(II)V"⟩
abbrev cX0_collect : ByteArray := prog_2_method_6_code
def yX0_collect : MethodName := ⟨RX0, "collect", "(I)V"⟩
abbrev cX0_sameParams : ByteArray := prog_2_method_7_code
def yX0_sameParams : MethodName := ⟨RX0, "sameParams", "(II)Z"⟩
abbrev cX0_checkParams : ByteArray := prog_2_method_8_code
def yX0_checkParams : MethodName := ⟨RX0, "checkParams", "(I)V"⟩
abbrev cX0_bindNode : ByteArray := prog_2_method_9_code
def yX0_bindNode : MethodName := ⟨RX0, "bindNode", "(I)V"⟩
abbrev cX0_tellsGroup : ByteArray := prog_2_method_10_code
def yX0_tellsGroup : MethodName := ⟨RX0, "tellsGroup", "(I)Z"⟩
abbrev cX0_link : ByteArray := prog_2_method_11_code
def yX0_link : MethodName := ⟨RX0, "link", "(I)V"⟩
abbrev cX0_checkFloats : ByteArray := prog_2_method_12_code
def yX0_checkFloats : MethodName := ⟨RX0, "checkFloats", "()V"⟩
abbrev cX0_checkNode : ByteArray := prog_2_method_13_code
def yX0_checkNode : MethodName := ⟨RX0, "checkNode", "(I)V"⟩
abbrev cX0_checkName : ByteArray := prog_2_method_14_code
def yX0_checkName : MethodName := ⟨RX0, "checkName", "(II)V"⟩
abbrev cX0_canUnwrap : ByteArray := prog_2_method_15_code
def yX0_canUnwrap : MethodName := ⟨RX0, "canUnwrap", "(II)Z"⟩
abbrev cX0_needNumber : ByteArray := prog_2_method_16_code
def yX0_needNumber : MethodName := ⟨RX0, "needNumber", "(I)V"⟩
abbrev cX0_checkControl : ByteArray := prog_2_method_17_code
def yX0_checkControl : MethodName := ⟨RX0, "checkControl", "(II)V"⟩
abbrev cX0_nameEntries : ByteArray := prog_2_method_18_code
def yX0_nameEntries : MethodName := ⟨RX0, "nameEntries", "()V"⟩
abbrev cX0_keepBoxes : ByteArray := prog_2_method_19_code
def yX0_keepBoxes : MethodName := ⟨RX0, "keepBoxes", "()V"⟩
def RX1 : String := "ItemJudge$Instances"
def TX1 : u_T := fun k => match k with
  | 0 => ("ItemJudge$Instances", "tree", "LItemJudge$Tree;", true)
  | 1 => ("ItemJudge$Instances", "calls", "[I", true)
  | 2 => ("ItemJudge$Instances", "madeOf", "[I", true)
  | 3 => ("ItemJudge$Instances", "argument", "[I", true)
  | 4 => ("ItemJudge$Instances", "argumentIn", "[I", true)
  | 5 => ("ItemJudge$Instances", "newArgument", "[I", true)
  | 6 => ("ItemJudge$Instances", "newIn", "[I", true)
  | 7 => ("ItemJudge$Instances", "count", "I", false)
  | 8 => ("ItemJudge$Instances", "box", "I", false)
  | 9 => ("ItemJudge$Instances", "boxIn", "I", false)
  | 10 => ("ItemJudge$Instances", "head", "I", false)
  | 11 => ("ItemJudge$Instances", "headIn", "I", false)
  | _ => ("ItemJudge$Instances", "spot", "I", false)
def tyX1 : Nat → FieldType := fun k => match k with
  | 0 => .object "ItemJudge$Tree"
  | 1 => .array .int
  | 2 => .array .int
  | 3 => .array .int
  | 4 => .array .int
  | 5 => .array .int
  | 6 => .array .int
  | 7 => .int
  | 8 => .int
  | 9 => .int
  | 10 => .int
  | 11 => .int
  | _ => .int
abbrev wsX10 : List Cond := u_ws RX1 TX1 13
theorem nmX1 : ∀ a, a < 13 → ∀ b, b < 13 → a ≠ b → (TX1 a).2.1 ≠ (TX1 b).2.1 := by decide +kernel
theorem tyX1_ok : ∀ k, k < 13 → parseFieldDescriptor (TX1 k).2.2.1 = some (tyX1 k) := by decide +kernel
abbrev cX1_init : ByteArray := prog_3_method_1_code
def yX1_init : MethodName := ⟨RX1, "<init>", "(LItemJudge$Tree;)V"⟩
abbrev cX1_ruleOf : ByteArray := prog_3_method_2_code
def yX1_ruleOf : MethodName := ⟨RX1, "ruleOf", "(I)I"⟩
abbrev cX1_argumentOf : ByteArray := prog_3_method_3_code
def yX1_argumentOf : MethodName := ⟨RX1, "argumentOf", "(II)I"⟩
abbrev cX1_argumentPlace : ByteArray := prog_3_method_4_code
def yX1_argumentPlace : MethodName := ⟨RX1, "argumentPlace", "(II)I"⟩
abbrev cX1_lead : ByteArray := prog_3_method_5_code
def yX1_lead : MethodName := ⟨RX1, "lead", "(II)I"⟩
abbrev cX1_unwrap : ByteArray := prog_3_method_6_code
def yX1_unwrap : MethodName := ⟨RX1, "unwrap", "(LItemJudge$Rules;II)V"⟩
abbrev cX1_follow : ByteArray := prog_3_method_7_code
def yX1_follow : MethodName := ⟨RX1, "follow", "(LItemJudge$Rules;II)V"⟩
abbrev cX1_ledTo : ByteArray := prog_3_method_8_code
def yX1_ledTo : MethodName := ⟨RX1, "ledTo", "(I)I"⟩
abbrev cX1_fill : ByteArray := prog_3_method_9_code
def yX1_fill : MethodName := ⟨RX1, "fill", "(LItemJudge$Rules;)Z"⟩
abbrev cX1_numberCalls : ByteArray := prog_3_method_10_code
def yX1_numberCalls : MethodName := ⟨RX1, "numberCalls", "(LItemJudge$Rules;)V"⟩
abbrev cX1_callAll : ByteArray := prog_3_method_11_code
def yX1_callAll : MethodName := ⟨RX1, "callAll", "(LItemJudge$Rules;II)Z"⟩
abbrev cX1_callStatement : ByteArray := prog_3_method_12_code
def yX1_callStatement : MethodName := ⟨RX1, "callStatement", "(LItemJudge$Rules;II)Z"⟩
abbrev cX1_called : ByteArray := prog_3_method_13_code
def yX1_called : MethodName := ⟨RX1, "called", "(LItemJudge$Rules;II)I"⟩
abbrev cX1_bindArgument : ByteArray := prog_3_method_14_code
def yX1_bindArgument : MethodName := ⟨RX1, "bindArgument", "(LItemJudge$Rules;III)V"⟩
abbrev cX1_hasParams : ByteArray := prog_3_method_15_code
def yX1_hasParams : MethodName := ⟨RX1, "hasParams", "(I)Z"⟩
abbrev cX1_holdsParams : ByteArray := prog_3_method_16_code
def yX1_holdsParams : MethodName := ⟨RX1, "holdsParams", "(I)Z"⟩
abbrev cX1_sameArguments : ByteArray := prog_3_method_17_code
def yX1_sameArguments : MethodName := ⟨RX1, "sameArguments", "(II)Z"⟩
def RX2 : String := "ItemJudge$Items"
def TX2 : u_T := fun k => match k with
  | 0 => ("ItemJudge$Items", "data", "[B", true)
  | 1 => ("ItemJudge$Items", "major", "[I", true)
  | 2 => ("ItemJudge$Items", "width", "[I", true)
  | 3 => ("ItemJudge$Items", "start", "[I", true)
  | 4 => ("ItemJudge$Items", "behind", "[I", true)
  | 5 => ("ItemJudge$Items", "parent", "[I", true)
  | 6 => ("ItemJudge$Items", "after", "[I", true)
  | 7 => ("ItemJudge$Items", "depth", "[I", true)
  | 8 => ("ItemJudge$Items", "level", "[I", true)
  | 9 => ("ItemJudge$Items", "content", "[I", true)
  | 10 => ("ItemJudge$Items", "inside", "[I", true)
  | 11 => ("ItemJudge$Items", "number", "[J", true)
  | 12 => ("ItemJudge$Items", "top", "I", false)
  | 13 => ("ItemJudge$Items", "topJoined", "I", false)
  | 14 => ("ItemJudge$Items", "count", "I", false)
  | 15 => ("ItemJudge$Items", "limit", "I", false)
  | 16 => ("ItemJudge$Items", "region", "I", false)
  | 17 => ("ItemJudge$Items", "stop", "I", false)
  | 18 => ("ItemJudge$Items", "joined", "I", false)
  | _ => ("ItemJudge$Items", "fault", "I", false)
def tyX2 : Nat → FieldType := fun k => match k with
  | 0 => .array .byte
  | 1 => .array .int
  | 2 => .array .int
  | 3 => .array .int
  | 4 => .array .int
  | 5 => .array .int
  | 6 => .array .int
  | 7 => .array .int
  | 8 => .array .int
  | 9 => .array .int
  | 10 => .array .int
  | 11 => .array .long
  | 12 => .int
  | 13 => .int
  | 14 => .int
  | 15 => .int
  | 16 => .int
  | 17 => .int
  | 18 => .int
  | _ => .int
abbrev wsX20 : List Cond := u_ws RX2 TX2 20
theorem nmX2 : ∀ a, a < 20 → ∀ b, b < 20 → a ≠ b → (TX2 a).2.1 ≠ (TX2 b).2.1 := by decide +kernel
theorem tyX2_ok : ∀ k, k < 20 → parseFieldDescriptor (TX2 k).2.2.1 = some (tyX2 k) := by decide +kernel
abbrev cX2_init : ByteArray := prog_4_method_1_code
def yX2_init : MethodName := ⟨RX2, "<init>", "()V"⟩
abbrev cX2_isTop : ByteArray := prog_4_method_2_code
def yX2_isTop : MethodName := ⟨RX2, "isTop", "(I)Z"⟩
abbrev cX2_size : ByteArray := prog_4_method_3_code
def yX2_size : MethodName := ⟨RX2, "size", "()I"⟩
abbrev cX2_faultPlace : ByteArray := prog_4_method_4_code
def yX2_faultPlace : MethodName := ⟨RX2, "faultPlace", "()I"⟩
abbrev cX2_majorOf : ByteArray := prog_4_method_5_code
def yX2_majorOf : MethodName := ⟨RX2, "majorOf", "(I)I"⟩
abbrev cX2_numberOf : ByteArray := prog_4_method_6_code
def yX2_numberOf : MethodName := ⟨RX2, "numberOf", "(I)J"⟩
abbrev cX2_widthOf : ByteArray := prog_4_method_7_code
def yX2_widthOf : MethodName := ⟨RX2, "widthOf", "(I)I"⟩
abbrev cX2_afterOf : ByteArray := prog_4_method_8_code
def yX2_afterOf : MethodName := ⟨RX2, "afterOf", "(I)I"⟩
abbrev cX2_startOf : ByteArray := prog_4_method_9_code
def yX2_startOf : MethodName := ⟨RX2, "startOf", "(I)I"⟩
abbrev cX2_behindOf : ByteArray := prog_4_method_10_code
def yX2_behindOf : MethodName := ⟨RX2, "behindOf", "(I)I"⟩
abbrev cX2_byteOf : ByteArray := prog_4_method_11_code
def yX2_byteOf : MethodName := ⟨RX2, "byteOf", "(IJ)I"⟩
abbrev cX2_dataAt : ByteArray := prog_4_method_12_code
def yX2_dataAt : MethodName := ⟨RX2, "dataAt", "(I)I"⟩
abbrev cX2_told : ByteArray := prog_4_method_13_code
def yX2_told : MethodName := ⟨RX2, "told", "(II)J"⟩
abbrev cX2_take : ByteArray := prog_4_method_14_code
def yX2_take : MethodName := ⟨RX2, "take", "([BI)Z"⟩
abbrev cX2_readWhole : ByteArray := prog_4_method_15_code
def yX2_readWhole : MethodName := ⟨RX2, "readWhole", "([BIII)Z"⟩
abbrev cX2_open : ByteArray := prog_4_method_16_code
def yX2_open : MethodName := ⟨RX2, "open", "(III)V"⟩
abbrev cX2_within : ByteArray := prog_4_method_17_code
def yX2_within : MethodName := ⟨RX2, "within", "(I)I"⟩
abbrev cX2_bad : ByteArray := prog_4_method_18_code
def yX2_bad : MethodName := ⟨RX2, "bad", "(I)I"⟩
abbrev cX2_readItem : ByteArray := prog_4_method_19_code
def yX2_readItem : MethodName := ⟨RX2, "readItem", "(III)I"⟩
abbrev cX2_readHead : ByteArray := prog_4_method_20_code
def yX2_readHead : MethodName := ⟨RX2, "readHead", "(II)I"⟩
abbrev cX2_readString : ByteArray := prog_4_method_21_code
def yX2_readString : MethodName := ⟨RX2, "readString", "(III)I"⟩
abbrev cX2_behindBytes : ByteArray := prog_4_method_22_code
def yX2_behindBytes : MethodName := ⟨RX2, "behindBytes", "(IJ)I"⟩
abbrev cX2_readPartHead : ByteArray := prog_4_method_23_code
def yX2_readPartHead : MethodName := ⟨RX2, "readPartHead", "(I)I"⟩
abbrev cX2_partSize : ByteArray := prog_4_method_24_code
def yX2_partSize : MethodName := ⟨RX2, "partSize", "(I)J"⟩
abbrev cX2_partStart : ByteArray := prog_4_method_25_code
def yX2_partStart : MethodName := ⟨RX2, "partStart", "(I)I"⟩
abbrev cX2_readList : ByteArray := prog_4_method_26_code
def yX2_readList : MethodName := ⟨RX2, "readList", "(IIII)I"⟩
def RX3 : String := "ItemJudge$Judge"
def TX3 : u_T := fun k => match k with
  | 0 => ("ItemJudge$Judge", "rules", "LItemJudge$Rules;", false)
  | 1 => ("ItemJudge$Judge", "tree", "LItemJudge$Tree;", false)
  | 2 => ("ItemJudge$Judge", "instances", "LItemJudge$Instances;", false)
  | 3 => ("ItemJudge$Judge", "items", "LItemJudge$Items;", true)
  | 4 => ("ItemJudge$Judge", "memo", "LItemJudge$Memo;", true)
  | 5 => ("ItemJudge$Judge", "leaves", "LItemJudge$Leaves;", true)
  | 6 => ("ItemJudge$Judge", "frames", "[I", true)
  | 7 => ("ItemJudge$Judge", "top", "I", false)
  | 8 => ("ItemJudge$Judge", "goNode", "I", false)
  | 9 => ("ItemJudge$Judge", "goIn", "I", false)
  | 10 => ("ItemJudge$Judge", "goItem", "I", false)
  | 11 => ("ItemJudge$Judge", "group", "I", false)
  | 12 => ("ItemJudge$Judge", "groupIn", "I", false)
  | 13 => ("ItemJudge$Judge", "fits", "[I", true)
  | 14 => ("ItemJudge$Judge", "fitted", "I", false)
  | 15 => ("ItemJudge$Judge", "wayKnown", "[J", true)
  | _ => ("ItemJudge$Judge", "wayEnds", "[J", true)
def tyX3 : Nat → FieldType := fun k => match k with
  | 0 => .object "ItemJudge$Rules"
  | 1 => .object "ItemJudge$Tree"
  | 2 => .object "ItemJudge$Instances"
  | 3 => .object "ItemJudge$Items"
  | 4 => .object "ItemJudge$Memo"
  | 5 => .object "ItemJudge$Leaves"
  | 6 => .array .int
  | 7 => .int
  | 8 => .int
  | 9 => .int
  | 10 => .int
  | 11 => .int
  | 12 => .int
  | 13 => .array .int
  | 14 => .int
  | 15 => .array .long
  | _ => .array .long
abbrev wsX30 : List Cond := u_ws RX3 TX3 17
theorem nmX3 : ∀ a, a < 17 → ∀ b, b < 17 → a ≠ b → (TX3 a).2.1 ≠ (TX3 b).2.1 := by decide +kernel
theorem tyX3_ok : ∀ k, k < 17 → parseFieldDescriptor (TX3 k).2.2.1 = some (tyX3 k) := by decide +kernel
abbrev cX3_init : ByteArray := prog_5_method_1_code
def yX3_init : MethodName := ⟨RX3, "<init>", "(LItemJudge$Rules;LItemJudge$Items;LItemJudge$Memo;)V"⟩
abbrev cX3_obey : ByteArray := prog_5_method_2_code
def yX3_obey : MethodName := ⟨RX3, "obey", "(LItemJudge$Rules;)V"⟩
abbrev cX3_says : ByteArray := prog_5_method_3_code
def yX3_says : MethodName := ⟨RX3, "says", "(II)Z"⟩
abbrev cX3_goTo : ByteArray := prog_5_method_4_code
def yX3_goTo : MethodName := ⟨RX3, "goTo", "(III)I"⟩
abbrev cX3_look : ByteArray := prog_5_method_5_code
def yX3_look : MethodName := ⟨RX3, "look", "(II)I"⟩
abbrev cX3_set : ByteArray := prog_5_method_6_code
def yX3_set : MethodName := ⟨RX3, "set", "(III)V"⟩
abbrev cX3_push : ByteArray := prog_5_method_7_code
def yX3_push : MethodName := ⟨RX3, "push", "(IIII)I"⟩
abbrev cX3_enter : ByteArray := prog_5_method_8_code
def yX3_enter : MethodName := ⟨RX3, "enter", "(III)I"⟩
abbrev cX3_enterNamed : ByteArray := prog_5_method_9_code
def yX3_enterNamed : MethodName := ⟨RX3, "enterNamed", "(III)I"⟩
abbrev cX3_leave : ByteArray := prog_5_method_10_code
def yX3_leave : MethodName := ⟨RX3, "leave", "(II)I"⟩
abbrev cX3_kept : ByteArray := prog_5_method_11_code
def yX3_kept : MethodName := ⟨RX3, "kept", "(III)I"⟩
abbrev cX3_check : ByteArray := prog_5_method_12_code
def yX3_check : MethodName := ⟨RX3, "check", "(III)I"⟩
abbrev cX3_enterArray : ByteArray := prog_5_method_13_code
def yX3_enterArray : MethodName := ⟨RX3, "enterArray", "(III)I"⟩
abbrev cX3_pushGroup : ByteArray := prog_5_method_14_code
def yX3_pushGroup : MethodName := ⟨RX3, "pushGroup", "(IIIII)V"⟩
abbrev cX3_beginChoice : ByteArray := prog_5_method_15_code
def yX3_beginChoice : MethodName := ⟨RX3, "beginChoice", "(II)V"⟩
abbrev cX3_beginEntry : ByteArray := prog_5_method_16_code
def yX3_beginEntry : MethodName := ⟨RX3, "beginEntry", "(II)V"⟩
abbrev cX3_findGroup : ByteArray := prog_5_method_17_code
def yX3_findGroup : MethodName := ⟨RX3, "findGroup", "(II)V"⟩
abbrev cX3_goOn : ByteArray := prog_5_method_18_code
def yX3_goOn : MethodName := ⟨RX3, "goOn", "()I"⟩
abbrev cX3_known : ByteArray := prog_5_method_19_code
def yX3_known : MethodName := ⟨RX3, "known", "(II)I"⟩
abbrev cX3_ended : ByteArray := prog_5_method_20_code
def yX3_ended : MethodName := ⟨RX3, "ended", "(II)I"⟩
abbrev cX3_gained : ByteArray := prog_5_method_21_code
def yX3_gained : MethodName := ⟨RX3, "gained", "(II)I"⟩
abbrev cX3_take : ByteArray := prog_5_method_22_code
def yX3_take : MethodName := ⟨RX3, "take", "(III)V"⟩
abbrev cX3_endEntry : ByteArray := prog_5_method_23_code
def yX3_endEntry : MethodName := ⟨RX3, "endEntry", "(II)V"⟩
abbrev cX3_enterMap : ByteArray := prog_5_method_24_code
def yX3_enterMap : MethodName := ⟨RX3, "enterMap", "(III)I"⟩
abbrev cX3_goFit : ByteArray := prog_5_method_25_code
def yX3_goFit : MethodName := ⟨RX3, "goFit", "()I"⟩
abbrev cX3_asksMore : ByteArray := prog_5_method_26_code
def yX3_asksMore : MethodName := ⟨RX3, "asksMore", "(II)Z"⟩
abbrev cX3_ask : ByteArray := prog_5_method_27_code
def yX3_ask : MethodName := ⟨RX3, "ask", "(II)I"⟩
abbrev cX3_answered : ByteArray := prog_5_method_28_code
def yX3_answered : MethodName := ⟨RX3, "answered", "(II)I"⟩
abbrev cX3_isGiven : ByteArray := prog_5_method_29_code
def yX3_isGiven : MethodName := ⟨RX3, "isGiven", "(II)Z"⟩
abbrev cX3_ways : ByteArray := prog_5_method_30_code
def yX3_ways : MethodName := ⟨RX3, "ways", "(IIII)J"⟩
abbrev cX3_throughGroup : ByteArray := prog_5_method_31_code
def yX3_throughGroup : MethodName := ⟨RX3, "throughGroup", "(IIJI)J"⟩
abbrev cX3_waysWithin : ByteArray := prog_5_method_32_code
def yX3_waysWithin : MethodName := ⟨RX3, "waysWithin", "(IIII)J"⟩
abbrev cX3_choicesOf : ByteArray := prog_5_method_33_code
def yX3_choicesOf : MethodName := ⟨RX3, "choicesOf", "(I)I"⟩
abbrev cX3_giveTo : ByteArray := prog_5_method_34_code
def yX3_giveTo : MethodName := ⟨RX3, "giveTo", "(IIJ)J"⟩
def RX4 : String := "ItemJudge$Leaves"
def TX4 : u_T := fun k => match k with
  | 0 => ("ItemJudge$Leaves", "rules", "LItemJudge$Rules;", false)
  | 1 => ("ItemJudge$Leaves", "tokens", "LItemJudge$Tokens;", false)
  | 2 => ("ItemJudge$Leaves", "tree", "LItemJudge$Tree;", false)
  | 3 => ("ItemJudge$Leaves", "instances", "LItemJudge$Instances;", false)
  | 4 => ("ItemJudge$Leaves", "items", "LItemJudge$Items;", true)
  | 5 => ("ItemJudge$Leaves", "firstMask", "[J", true)
  | 6 => ("ItemJudge$Leaves", "firstStamp", "[I", true)
  | 7 => ("ItemJudge$Leaves", "lateMask", "[J", true)
  | 8 => ("ItemJudge$Leaves", "lateKey", "[J", true)
  | _ => ("ItemJudge$Leaves", "stamp", "I", false)
def tyX4 : Nat → FieldType := fun k => match k with
  | 0 => .object "ItemJudge$Rules"
  | 1 => .object "ItemJudge$Tokens"
  | 2 => .object "ItemJudge$Tree"
  | 3 => .object "ItemJudge$Instances"
  | 4 => .object "ItemJudge$Items"
  | 5 => .array .long
  | 6 => .array .int
  | 7 => .array .long
  | 8 => .array .long
  | _ => .int
abbrev wsX40 : List Cond := u_ws RX4 TX4 10
theorem nmX4 : ∀ a, a < 10 → ∀ b, b < 10 → a ≠ b → (TX4 a).2.1 ≠ (TX4 b).2.1 := by decide +kernel
theorem tyX4_ok : ∀ k, k < 10 → parseFieldDescriptor (TX4 k).2.2.1 = some (tyX4 k) := by decide +kernel
abbrev cX4_init : ByteArray := prog_6_method_1_code
def yX4_init : MethodName := ⟨RX4, "<init>", "(LItemJudge$Rules;LItemJudge$Items;)V"⟩
abbrev cX4_obey : ByteArray := prog_6_method_2_code
def yX4_obey : MethodName := ⟨RX4, "obey", "(LItemJudge$Rules;)V"⟩
abbrev cX4_isSo : ByteArray := prog_6_method_3_code
def yX4_isSo : MethodName := ⟨RX4, "isSo", "(II)Z"⟩
abbrev cX4_isTag : ByteArray := prog_6_method_4_code
def yX4_isTag : MethodName := ⟨RX4, "isTag", "(II)Z"⟩
abbrev cX4_compares : ByteArray := prog_6_method_5_code
def yX4_compares : MethodName := ⟨RX4, "compares", "(III)Z"⟩
abbrev cX4_isNumber : ByteArray := prog_6_method_6_code
def yX4_isNumber : MethodName := ⟨RX4, "isNumber", "(I)Z"⟩
abbrev cX4_inRange : ByteArray := prog_6_method_7_code
def yX4_inRange : MethodName := ⟨RX4, "inRange", "(II)Z"⟩
abbrev cX4_compare : ByteArray := prog_6_method_8_code
def yX4_compare : MethodName := ⟨RX4, "compare", "(II)I"⟩
abbrev cX4_hasBytes : ByteArray := prog_6_method_9_code
def yX4_hasBytes : MethodName := ⟨RX4, "hasBytes", "(II)Z"⟩
abbrev cX4_isSimple : ByteArray := prog_6_method_10_code
def yX4_isSimple : MethodName := ⟨RX4, "isSimple", "(II)Z"⟩
abbrev cX4_hasSize : ByteArray := prog_6_method_11_code
def yX4_hasSize : MethodName := ⟨RX4, "hasSize", "(III)Z"⟩
abbrev cX4_hasBits : ByteArray := prog_6_method_12_code
def yX4_hasBits : MethodName := ⟨RX4, "hasBits", "(III)Z"⟩
abbrev cX4_mask : ByteArray := prog_6_method_13_code
def yX4_mask : MethodName := ⟨RX4, "mask", "(IIII)J"⟩
abbrev cX4_maskOf : ByteArray := prog_6_method_14_code
def yX4_maskOf : MethodName := ⟨RX4, "maskOf", "(IIII)J"⟩
abbrev cX4_maskNamed : ByteArray := prog_6_method_15_code
def yX4_maskNamed : MethodName := ⟨RX4, "maskNamed", "(IIII)J"⟩
abbrev cX4_maskControl : ByteArray := prog_6_method_16_code
def yX4_maskControl : MethodName := ⟨RX4, "maskControl", "(IIII)J"⟩
abbrev cX4_sized : ByteArray := prog_6_method_17_code
def yX4_sized : MethodName := ⟨RX4, "sized", "(JI)J"⟩
abbrev cX4_withBits : ByteArray := prog_6_method_18_code
def yX4_withBits : MethodName := ⟨RX4, "withBits", "(JI)J"⟩
abbrev cX4_maskLeaf : ByteArray := prog_6_method_19_code
def yX4_maskLeaf : MethodName := ⟨RX4, "maskLeaf", "(II)J"⟩
abbrev cX4_numberOf : ByteArray := prog_6_method_20_code
def yX4_numberOf : MethodName := ⟨RX4, "numberOf", "(I)J"⟩
abbrev cX4_range : ByteArray := prog_6_method_21_code
def yX4_range : MethodName := ⟨RX4, "range", "(JJI)J"⟩
def RX5 : String := "ItemJudge$Limits"
def TX5 : u_T := fun k => match k with
  | 0 => ("ItemJudge$Limits", "rules", "LItemJudge$Rules;", false)
  | 1 => ("ItemJudge$Limits", "tree", "LItemJudge$Tree;", false)
  | 2 => ("ItemJudge$Limits", "instances", "LItemJudge$Instances;", false)
  | 3 => ("ItemJudge$Limits", "seen", "[I", true)
  | 4 => ("ItemJudge$Limits", "queue", "[I", true)
  | 5 => ("ItemJudge$Limits", "queued", "I", false)
  | 6 => ("ItemJudge$Limits", "round", "I", false)
  | 7 => ("ItemJudge$Limits", "used", "I", false)
  | 8 => ("ItemJudge$Limits", "depths", "[I", true)
  | 9 => ("ItemJudge$Limits", "inside", "[I", true)
  | 10 => ("ItemJudge$Limits", "argumentDepths", "[I", true)
  | _ => ("ItemJudge$Limits", "changed", "Z", false)
def tyX5 : Nat → FieldType := fun k => match k with
  | 0 => .object "ItemJudge$Rules"
  | 1 => .object "ItemJudge$Tree"
  | 2 => .object "ItemJudge$Instances"
  | 3 => .array .int
  | 4 => .array .int
  | 5 => .int
  | 6 => .int
  | 7 => .int
  | 8 => .array .int
  | 9 => .array .int
  | 10 => .array .int
  | _ => .boolean
abbrev wsX50 : List Cond := u_ws RX5 TX5 12
theorem nmX5 : ∀ a, a < 12 → ∀ b, b < 12 → a ≠ b → (TX5 a).2.1 ≠ (TX5 b).2.1 := by decide +kernel
theorem tyX5_ok : ∀ k, k < 12 → parseFieldDescriptor (TX5 k).2.2.1 = some (tyX5 k) := by decide +kernel
abbrev cX5_init : ByteArray := prog_7_method_1_code
def yX5_init : MethodName := ⟨RX5, "<init>", "(LItemJudge$Rules;)V"⟩
abbrev cX5_firstLoop : ByteArray := prog_7_method_2_code
def yX5_firstLoop : MethodName := ⟨RX5, "firstLoop", "(LItemJudge$Rules;)I"⟩
abbrev cX5_meetsItself : ByteArray := prog_7_method_3_code
def yX5_meetsItself : MethodName := ⟨RX5, "meetsItself", "(I)Z"⟩
abbrev cX5_ownBox : ByteArray := prog_7_method_4_code
def yX5_ownBox : MethodName := ⟨RX5, "ownBox", "(I)I"⟩
abbrev cX5_context : ByteArray := prog_7_method_5_code
def yX5_context : MethodName := ⟨RX5, "context", "(I)I"⟩
abbrev cX5_reach : ByteArray := prog_7_method_6_code
def yX5_reach : MethodName := ⟨RX5, "reach", "(IZ)V"⟩
abbrev cX5_see : ByteArray := prog_7_method_7_code
def yX5_see : MethodName := ⟨RX5, "see", "(I)V"⟩
abbrev cX5_leadOn : ByteArray := prog_7_method_8_code
def yX5_leadOn : MethodName := ⟨RX5, "leadOn", "(I)V"⟩
abbrev cX5_leadOnIn : ByteArray := prog_7_method_9_code
def yX5_leadOnIn : MethodName := ⟨RX5, "leadOnIn", "(II)V"⟩
abbrev cX5_groupsTooLarge : ByteArray := prog_7_method_10_code
def yX5_groupsTooLarge : MethodName := ⟨RX5, "groupsTooLarge", "()Z"⟩
abbrev cX5_countEntry : ByteArray := prog_7_method_11_code
def yX5_countEntry : MethodName := ⟨RX5, "countEntry", "(I)I"⟩
abbrev cX5_countWithin : ByteArray := prog_7_method_12_code
def yX5_countWithin : MethodName := ⟨RX5, "countWithin", "(I)I"⟩
abbrev cX5_weigh : ByteArray := prog_7_method_13_code
def yX5_weigh : MethodName := ⟨RX5, "weigh", "()V"⟩
abbrev cX5_markTied : ByteArray := prog_7_method_14_code
def yX5_markTied : MethodName := ⟨RX5, "markTied", "()V"⟩
abbrev cX5_tiesOf : ByteArray := prog_7_method_15_code
def yX5_tiesOf : MethodName := ⟨RX5, "tiesOf", "(I)I"⟩
abbrev cX5_placeEntries : ByteArray := prog_7_method_16_code
def yX5_placeEntries : MethodName := ⟨RX5, "placeEntries", "(I)I"⟩
abbrev cX5_pathsTooLong : ByteArray := prog_7_method_17_code
def yX5_pathsTooLong : MethodName := ⟨RX5, "pathsTooLong", "()Z"⟩
abbrev cX5_raise : ByteArray := prog_7_method_18_code
def yX5_raise : MethodName := ⟨RX5, "raise", "([III)V"⟩
abbrev cX5_measure : ByteArray := prog_7_method_19_code
def yX5_measure : MethodName := ⟨RX5, "measure", "(II)I"⟩
abbrev cX5_measureArguments : ByteArray := prog_7_method_20_code
def yX5_measureArguments : MethodName := ⟨RX5, "measureArguments", "(I)V"⟩
abbrev cX5_pathTo : ByteArray := prog_7_method_21_code
def yX5_pathTo : MethodName := ⟨RX5, "pathTo", "(II)I"⟩
abbrev cX5_behindName : ByteArray := prog_7_method_22_code
def yX5_behindName : MethodName := ⟨RX5, "behindName", "(III)I"⟩
def RX6 : String := "ItemJudge$Memo"
def TX6 : u_T := fun k => match k with
  | 0 => ("ItemJudge$Memo", "answers", "[J", false)
  | 1 => ("ItemJudge$Memo", "kept", "I", false)
  | _ => ("ItemJudge$Memo", "stamp", "J", false)
def tyX6 : Nat → FieldType := fun k => match k with
  | 0 => .array .long
  | 1 => .int
  | _ => .long
abbrev wsX60 : List Cond := u_ws RX6 TX6 3
theorem nmX6 : ∀ a, a < 3 → ∀ b, b < 3 → a ≠ b → (TX6 a).2.1 ≠ (TX6 b).2.1 := by decide +kernel
theorem tyX6_ok : ∀ k, k < 3 → parseFieldDescriptor (TX6 k).2.2.1 = some (tyX6 k) := by decide +kernel
abbrev cX6_init : ByteArray := prog_8_method_1_code
def yX6_init : MethodName := ⟨RX6, "<init>", "()V"⟩
abbrev cX6_renew : ByteArray := prog_8_method_2_code
def yX6_renew : MethodName := ⟨RX6, "renew", "()V"⟩
abbrev cX6_key : ByteArray := prog_8_method_3_code
def yX6_key : MethodName := ⟨RX6, "key", "(IIII)J"⟩
abbrev cX6_find : ByteArray := prog_8_method_4_code
def yX6_find : MethodName := ⟨RX6, "find", "(J)I"⟩
abbrev cX6_keep : ByteArray := prog_8_method_5_code
def yX6_keep : MethodName := ⟨RX6, "keep", "(JI)V"⟩
abbrev cX6_settle : ByteArray := prog_8_method_6_code
def yX6_settle : MethodName := ⟨RX6, "settle", "(J)V"⟩
abbrev cX6_grow : ByteArray := prog_8_method_7_code
def yX6_grow : MethodName := ⟨RX6, "grow", "()V"⟩
abbrev cX6_slot : ByteArray := prog_8_method_8_code
def yX6_slot : MethodName := ⟨RX6, "slot", "(J)I"⟩
def RX7 : String := "ItemJudge$Parser"
def TX7 : u_T := fun k => match k with
  | 0 => ("ItemJudge$Parser", "rules", "LItemJudge$Rules;", false)
  | 1 => ("ItemJudge$Parser", "tokens", "LItemJudge$Tokens;", false)
  | 2 => ("ItemJudge$Parser", "tree", "LItemJudge$Tree;", false)
  | 3 => ("ItemJudge$Parser", "p", "I", false)
  | 4 => ("ItemJudge$Parser", "failed", "I", false)
  | 5 => ("ItemJudge$Parser", "statement", "I", false)
  | 6 => ("ItemJudge$Parser", "guard", "I", false)
  | 7 => ("ItemJudge$Parser", "deep", "I", false)
  | 8 => ("ItemJudge$Parser", "whose", "I", false)
  | 9 => ("ItemJudge$Parser", "scanned", "I", false)
  | _ => ("ItemJudge$Parser", "onlyGroup", "[Z", true)
def tyX7 : Nat → FieldType := fun k => match k with
  | 0 => .object "ItemJudge$Rules"
  | 1 => .object "ItemJudge$Tokens"
  | 2 => .object "ItemJudge$Tree"
  | 3 => .int
  | 4 => .int
  | 5 => .int
  | 6 => .int
  | 7 => .int
  | 8 => .int
  | 9 => .int
  | _ => .array .boolean
abbrev wsX70 : List Cond := u_ws RX7 TX7 11
theorem nmX7 : ∀ a, a < 11 → ∀ b, b < 11 → a ≠ b → (TX7 a).2.1 ≠ (TX7 b).2.1 := by decide +kernel
theorem tyX7_ok : ∀ k, k < 11 → parseFieldDescriptor (TX7 k).2.2.1 = some (tyX7 k) := by decide +kernel
abbrev cX7_init : ByteArray := prog_9_method_1_code
def yX7_init : MethodName := ⟨RX7, "<init>", "(LItemJudge$Rules;)V"⟩
abbrev cX7_failedToken : ByteArray := prog_9_method_2_code
def yX7_failedToken : MethodName := ⟨RX7, "failedToken", "()I"⟩
abbrev cX7_readRules : ByteArray := prog_9_method_3_code
def yX7_readRules : MethodName := ⟨RX7, "readRules", "(LItemJudge$Rules;)Z"⟩
abbrev cX7_peek : ByteArray := prog_9_method_4_code
def yX7_peek : MethodName := ⟨RX7, "peek", "()I"⟩
abbrev cX7_fail : ByteArray := prog_9_method_5_code
def yX7_fail : MethodName := ⟨RX7, "fail", "()I"⟩
abbrev cX7_take : ByteArray := prog_9_method_6_code
def yX7_take : MethodName := ⟨RX7, "take", "(I)Z"⟩
abbrev cX7_grow : ByteArray := prog_9_method_7_code
def yX7_grow : MethodName := ⟨RX7, "grow", "(II)I"⟩
abbrev cX7_readStatement : ByteArray := prog_9_method_8_code
def yX7_readStatement : MethodName := ⟨RX7, "readStatement", "()Z"⟩
abbrev cX7_beginsBody : ByteArray := prog_9_method_9_code
def yX7_beginsBody : MethodName := ⟨RX7, "beginsBody", "(I)Z"⟩
abbrev cX7_behindParams : ByteArray := prog_9_method_10_code
def yX7_behindParams : MethodName := ⟨RX7, "behindParams", "(I)I"⟩
abbrev cX7_atStatementEnd : ByteArray := prog_9_method_11_code
def yX7_atStatementEnd : MethodName := ⟨RX7, "atStatementEnd", "()Z"⟩
abbrev cX7_readTypeBody : ByteArray := prog_9_method_12_code
def yX7_readTypeBody : MethodName := ⟨RX7, "readTypeBody", "(IZ)Z"⟩
abbrev cX7_goBack : ByteArray := prog_9_method_13_code
def yX7_goBack : MethodName := ⟨RX7, "goBack", "(IIIII)V"⟩
abbrev cX7_readType : ByteArray := prog_9_method_14_code
def yX7_readType : MethodName := ⟨RX7, "readType", "()I"⟩
abbrev cX7_readChoices : ByteArray := prog_9_method_15_code
def yX7_readChoices : MethodName := ⟨RX7, "readChoices", "(I)I"⟩
abbrev cX7_readType1 : ByteArray := prog_9_method_16_code
def yX7_readType1 : MethodName := ⟨RX7, "readType1", "()I"⟩
abbrev cX7_joined : ByteArray := prog_9_method_17_code
def yX7_joined : MethodName := ⟨RX7, "joined", "(IIII)I"⟩
abbrev cX7_controlNamed : ByteArray := prog_9_method_18_code
def yX7_controlNamed : MethodName := ⟨RX7, "controlNamed", "(I)I"⟩
abbrev cX7_readType2 : ByteArray := prog_9_method_19_code
def yX7_readType2 : MethodName := ⟨RX7, "readType2", "()I"⟩
abbrev cX7_readParen : ByteArray := prog_9_method_20_code
def yX7_readParen : MethodName := ⟨RX7, "readParen", "(I)I"⟩
abbrev cX7_readBox : ByteArray := prog_9_method_21_code
def yX7_readBox : MethodName := ⟨RX7, "readBox", "(II)I"⟩
abbrev cX7_readAndGroup : ByteArray := prog_9_method_22_code
def yX7_readAndGroup : MethodName := ⟨RX7, "readAndGroup", "(I)I"⟩
abbrev cX7_readHash : ByteArray := prog_9_method_23_code
def yX7_readHash : MethodName := ⟨RX7, "readHash", "(IJZ)I"⟩
abbrev cX7_readName : ByteArray := prog_9_method_24_code
def yX7_readName : MethodName := ⟨RX7, "readName", "(II)I"⟩
abbrev cX7_readArgument : ByteArray := prog_9_method_25_code
def yX7_readArgument : MethodName := ⟨RX7, "readArgument", "()I"⟩
abbrev cX7_readGroup : ByteArray := prog_9_method_26_code
def yX7_readGroup : MethodName := ⟨RX7, "readGroup", "()I"⟩
abbrev cX7_readEntries : ByteArray := prog_9_method_27_code
def yX7_readEntries : MethodName := ⟨RX7, "readEntries", "(I)Z"⟩
abbrev cX7_beginsEntry : ByteArray := prog_9_method_28_code
def yX7_beginsEntry : MethodName := ⟨RX7, "beginsEntry", "(I)Z"⟩
abbrev cX7_readEntry : ByteArray := prog_9_method_29_code
def yX7_readEntry : MethodName := ⟨RX7, "readEntry", "()I"⟩
abbrev cX7_isOnlyGroup : ByteArray := prog_9_method_30_code
def yX7_isOnlyGroup : MethodName := ⟨RX7, "isOnlyGroup", "(I)Z"⟩
abbrev cX7_noteOnlyGroup : ByteArray := prog_9_method_31_code
def yX7_noteOnlyGroup : MethodName := ⟨RX7, "noteOnlyGroup", "(I)V"⟩
abbrev cX7_readTyped : ByteArray := prog_9_method_32_code
def yX7_readTyped : MethodName := ⟨RX7, "readTyped", "(I)Z"⟩
abbrev cX7_readShortKey : ByteArray := prog_9_method_33_code
def yX7_readShortKey : MethodName := ⟨RX7, "readShortKey", "()I"⟩
def RX8 : String := "ItemJudge$Rules"
def TX8 : u_T := fun k => match k with
  | 0 => ("ItemJudge$Rules", "tokens", "LItemJudge$Tokens;", true)
  | 1 => ("ItemJudge$Rules", "tree", "LItemJudge$Tree;", true)
  | 2 => ("ItemJudge$Rules", "instances", "LItemJudge$Instances;", true)
  | 3 => ("ItemJudge$Rules", "head", "[I", true)
  | 4 => ("ItemJudge$Rules", "sign", "[I", true)
  | 5 => ("ItemJudge$Rules", "params", "[I", true)
  | 6 => ("ItemJudge$Rules", "choice", "[I", true)
  | 7 => ("ItemJudge$Rules", "typed", "[I", true)
  | 8 => ("ItemJudge$Rules", "owner", "[I", true)
  | 9 => ("ItemJudge$Rules", "opening", "[I", true)
  | 10 => ("ItemJudge$Rules", "told", "[I", true)
  | 11 => ("ItemJudge$Rules", "grouped", "[I", true)
  | 12 => ("ItemJudge$Rules", "chain", "[I", true)
  | 13 => ("ItemJudge$Rules", "only", "[I", true)
  | 14 => ("ItemJudge$Rules", "statements", "I", false)
  | 15 => ("ItemJudge$Rules", "count", "I", false)
  | 16 => ("ItemJudge$Rules", "ownToken", "I", false)
  | 17 => ("ItemJudge$Rules", "ownNode", "I", false)
  | 18 => ("ItemJudge$Rules", "ownStatement", "I", false)
  | _ => ("ItemJudge$Rules", "ownRule", "I", false)
def tyX8 : Nat → FieldType := fun k => match k with
  | 0 => .object "ItemJudge$Tokens"
  | 1 => .object "ItemJudge$Tree"
  | 2 => .object "ItemJudge$Instances"
  | 3 => .array .int
  | 4 => .array .int
  | 5 => .array .int
  | 6 => .array .int
  | 7 => .array .int
  | 8 => .array .int
  | 9 => .array .int
  | 10 => .array .int
  | 11 => .array .int
  | 12 => .array .int
  | 13 => .array .int
  | 14 => .int
  | 15 => .int
  | 16 => .int
  | 17 => .int
  | 18 => .int
  | _ => .int
abbrev wsX80 : List Cond := u_ws RX8 TX8 20
theorem nmX8 : ∀ a, a < 20 → ∀ b, b < 20 → a ≠ b → (TX8 a).2.1 ≠ (TX8 b).2.1 := by decide +kernel
theorem tyX8_ok : ∀ k, k < 20 → parseFieldDescriptor (TX8 k).2.2.1 = some (tyX8 k) := by decide +kernel
abbrev cX8_init : ByteArray := prog_10_method_1_code
def yX8_init : MethodName := ⟨RX8, "<init>", "()V"⟩
abbrev cX8_keepPrelude : ByteArray := prog_10_method_2_code
def yX8_keepPrelude : MethodName := ⟨RX8, "keepPrelude", "()V"⟩
abbrev cX8_begin : ByteArray := prog_10_method_3_code
def yX8_begin : MethodName := ⟨RX8, "begin", "()V"⟩
abbrev cX8_addStatement : ByteArray := prog_10_method_4_code
def yX8_addStatement : MethodName := ⟨RX8, "addStatement", "(III)I"⟩
abbrev cX8_addRule : ByteArray := prog_10_method_5_code
def yX8_addRule : MethodName := ⟨RX8, "addRule", "(I)I"⟩
abbrev cX8_ownRules : ByteArray := prog_10_method_6_code
def yX8_ownRules : MethodName := ⟨RX8, "ownRules", "()I"⟩
abbrev cX8_numbered : ByteArray := prog_10_method_7_code
def yX8_numbered : MethodName := ⟨RX8, "numbered", "(I)I"⟩
abbrev cX8_firstNode : ByteArray := prog_10_method_8_code
def yX8_firstNode : MethodName := ⟨RX8, "firstNode", "(I)I"⟩
abbrev cX8_endNode : ByteArray := prog_10_method_9_code
def yX8_endNode : MethodName := ⟨RX8, "endNode", "(I)I"⟩
abbrev cX8_headOf : ByteArray := prog_10_method_10_code
def yX8_headOf : MethodName := ⟨RX8, "headOf", "(I)I"⟩
abbrev cX8_nameByte : ByteArray := prog_10_method_11_code
def yX8_nameByte : MethodName := ⟨RX8, "nameByte", "(II)I"⟩
abbrev cX8_nameSize : ByteArray := prog_10_method_12_code
def yX8_nameSize : MethodName := ⟨RX8, "nameSize", "(I)I"⟩
abbrev cX8_paramsOf : ByteArray := prog_10_method_13_code
def yX8_paramsOf : MethodName := ⟨RX8, "paramsOf", "(I)I"⟩
abbrev cX8_isRule : ByteArray := prog_10_method_14_code
def yX8_isRule : MethodName := ⟨RX8, "isRule", "(I)Z"⟩
abbrev cX8_isOwn : ByteArray := prog_10_method_15_code
def yX8_isOwn : MethodName := ⟨RX8, "isOwn", "(I)Z"⟩
abbrev cX8_isGroup : ByteArray := prog_10_method_16_code
def yX8_isGroup : MethodName := ⟨RX8, "isGroup", "(I)Z"⟩
abbrev cX8_ruleOfNode : ByteArray := prog_10_method_17_code
def yX8_ruleOfNode : MethodName := ⟨RX8, "ruleOfNode", "(I)I"⟩
abbrev cX8_paramToken : ByteArray := prog_10_method_18_code
def yX8_paramToken : MethodName := ⟨RX8, "paramToken", "(II)I"⟩
abbrev cX8_ruleNamed : ByteArray := prog_10_method_19_code
def yX8_ruleNamed : MethodName := ⟨RX8, "ruleNamed", "(III)I"⟩
abbrev cX8_paramNamed : ByteArray := prog_10_method_20_code
def yX8_paramNamed : MethodName := ⟨RX8, "paramNamed", "(II)I"⟩
abbrev cX8_target : ByteArray := prog_10_method_21_code
def yX8_target : MethodName := ⟨RX8, "target", "(II)I"⟩
abbrev cX8_single : ByteArray := prog_10_method_22_code
def yX8_single : MethodName := ⟨RX8, "single", "(I)I"⟩
abbrev cX8_box : ByteArray := prog_10_method_23_code
def yX8_box : MethodName := ⟨RX8, "box", "(I)I"⟩
abbrev cX8_choices : ByteArray := prog_10_method_24_code
def yX8_choices : MethodName := ⟨RX8, "choices", "(I)I"⟩
abbrev cX8_choicesTold : ByteArray := prog_10_method_25_code
def yX8_choicesTold : MethodName := ⟨RX8, "choicesTold", "(I)I"⟩
abbrev cX8_least : ByteArray := prog_10_method_26_code
def yX8_least : MethodName := ⟨RX8, "least", "(I)I"⟩
abbrev cX8_most : ByteArray := prog_10_method_27_code
def yX8_most : MethodName := ⟨RX8, "most", "(I)I"⟩
def RX9 : String := "ItemJudge$Tokens"
def TX9 : u_T := fun k => match k with
  | 0 => ("ItemJudge$Tokens", "text", "[B", true)
  | 1 => ("ItemJudge$Tokens", "kind", "[I", true)
  | 2 => ("ItemJudge$Tokens", "start", "[I", true)
  | 3 => ("ItemJudge$Tokens", "bodyStart", "[I", true)
  | 4 => ("ItemJudge$Tokens", "bodySize", "[I", true)
  | 5 => ("ItemJudge$Tokens", "low", "[J", true)
  | 6 => ("ItemJudge$Tokens", "high", "[J", true)
  | 7 => ("ItemJudge$Tokens", "count", "I", false)
  | 8 => ("ItemJudge$Tokens", "stop", "I", false)
  | 9 => ("ItemJudge$Tokens", "open", "I", false)
  | 10 => ("ItemJudge$Tokens", "bodies", "I", false)
  | 11 => ("ItemJudge$Tokens", "newKind", "I", false)
  | 12 => ("ItemJudge$Tokens", "newStart", "I", false)
  | 13 => ("ItemJudge$Tokens", "newSize", "I", false)
  | 14 => ("ItemJudge$Tokens", "newLow", "J", false)
  | 15 => ("ItemJudge$Tokens", "newHigh", "J", false)
  | _ => ("ItemJudge$Tokens", "number", "J", false)
def tyX9 : Nat → FieldType := fun k => match k with
  | 0 => .array .byte
  | 1 => .array .int
  | 2 => .array .int
  | 3 => .array .int
  | 4 => .array .int
  | 5 => .array .long
  | 6 => .array .long
  | 7 => .int
  | 8 => .int
  | 9 => .int
  | 10 => .int
  | 11 => .int
  | 12 => .int
  | 13 => .int
  | 14 => .long
  | 15 => .long
  | _ => .long
abbrev wsX90 : List Cond := u_ws RX9 TX9 17
theorem nmX9 : ∀ a, a < 17 → ∀ b, b < 17 → a ≠ b → (TX9 a).2.1 ≠ (TX9 b).2.1 := by decide +kernel
theorem tyX9_ok : ∀ k, k < 17 → parseFieldDescriptor (TX9 k).2.2.1 = some (tyX9 k) := by decide +kernel
abbrev cX9_init : ByteArray := prog_11_method_1_code
def yX9_init : MethodName := ⟨RX9, "<init>", "()V"⟩
abbrev cX9_cutPrelude : ByteArray := prog_11_method_2_code
def yX9_cutPrelude : MethodName := ⟨RX9, "cutPrelude", "()V"⟩
abbrev cX9_cutOwn : ByteArray := prog_11_method_3_code
def yX9_cutOwn : MethodName := ⟨RX9, "cutOwn", "([BII)V"⟩
abbrev cX9_kindOf : ByteArray := prog_11_method_4_code
def yX9_kindOf : MethodName := ⟨RX9, "kindOf", "(I)I"⟩
abbrev cX9_placeOf : ByteArray := prog_11_method_5_code
def yX9_placeOf : MethodName := ⟨RX9, "placeOf", "(I)I"⟩
abbrev cX9_lastToken : ByteArray := prog_11_method_6_code
def yX9_lastToken : MethodName := ⟨RX9, "lastToken", "()I"⟩
abbrev cX9_bodyByte : ByteArray := prog_11_method_7_code
def yX9_bodyByte : MethodName := ⟨RX9, "bodyByte", "(II)I"⟩
abbrev cX9_sameBody : ByteArray := prog_11_method_8_code
def yX9_sameBody : MethodName := ⟨RX9, "sameBody", "(II)Z"⟩
abbrev cX9_isWord : ByteArray := prog_11_method_9_code
def yX9_isWord : MethodName := ⟨RX9, "isWord", "(ILjava/lang/String;)Z"⟩
abbrev cX9_load : ByteArray := prog_11_method_10_code
def yX9_load : MethodName := ⟨RX9, "load", "(Ljava/lang/String;I)I"⟩
abbrev cX9_cut : ByteArray := prog_11_method_11_code
def yX9_cut : MethodName := ⟨RX9, "cut", "(II)V"⟩
abbrev cX9_add : ByteArray := prog_11_method_12_code
def yX9_add : MethodName := ⟨RX9, "add", "(II)V"⟩
abbrev cX9_opensTooMuch : ByteArray := prog_11_method_13_code
def yX9_opensTooMuch : MethodName := ⟨RX9, "opensTooMuch", "()Z"⟩
abbrev cX9_look : ByteArray := prog_11_method_14_code
def yX9_look : MethodName := ⟨RX9, "look", "(I)I"⟩
abbrev cX9_behindBlanks : ByteArray := prog_11_method_15_code
def yX9_behindBlanks : MethodName := ⟨RX9, "behindBlanks", "(I)I"⟩
abbrev cX9_one : ByteArray := prog_11_method_16_code
def yX9_one : MethodName := ⟨RX9, "one", "(I)I"⟩
abbrev cX9_sign : ByteArray := prog_11_method_17_code
def yX9_sign : MethodName := ⟨RX9, "sign", "(II)I"⟩
abbrev cX9_dots : ByteArray := prog_11_method_18_code
def yX9_dots : MethodName := ⟨RX9, "dots", "(I)I"⟩
abbrev cX9_slashes : ByteArray := prog_11_method_19_code
def yX9_slashes : MethodName := ⟨RX9, "slashes", "(I)I"⟩
abbrev cX9_named : ByteArray := prog_11_method_20_code
def yX9_named : MethodName := ⟨RX9, "named", "(II)I"⟩
abbrev cX9_numberAt : ByteArray := prog_11_method_21_code
def yX9_numberAt : MethodName := ⟨RX9, "numberAt", "(IZ)I"⟩
abbrev cX9_occur : ByteArray := prog_11_method_22_code
def yX9_occur : MethodName := ⟨RX9, "occur", "(IJ)I"⟩
abbrev cX9_anOccur : ByteArray := prog_11_method_23_code
def yX9_anOccur : MethodName := ⟨RX9, "anOccur", "(IJJ)I"⟩
abbrev cX9_hash : ByteArray := prog_11_method_24_code
def yX9_hash : MethodName := ⟨RX9, "hash", "(I)I"⟩
abbrev cX9_behindUint : ByteArray := prog_11_method_25_code
def yX9_behindUint : MethodName := ⟨RX9, "behindUint", "(I)I"⟩
abbrev cX9_behindZero : ByteArray := prog_11_method_26_code
def yX9_behindZero : MethodName := ⟨RX9, "behindZero", "(I)I"⟩
abbrev cX9_behindDigits : ByteArray := prog_11_method_27_code
def yX9_behindDigits : MethodName := ⟨RX9, "behindDigits", "(II)I"⟩
abbrev cX9_mostBefore : ByteArray := prog_11_method_28_code
def yX9_mostBefore : MethodName := ⟨RX9, "mostBefore", "(II)J"⟩
abbrev cX9_behindFloat : ByteArray := prog_11_method_29_code
def yX9_behindFloat : MethodName := ⟨RX9, "behindFloat", "(I)I"⟩
abbrev cX9_behindPlain : ByteArray := prog_11_method_30_code
def yX9_behindPlain : MethodName := ⟨RX9, "behindPlain", "(I)I"⟩
abbrev cX9_quoted : ByteArray := prog_11_method_31_code
def yX9_quoted : MethodName := ⟨RX9, "quoted", "(III)I"⟩
abbrev cX9_hexBytes : ByteArray := prog_11_method_32_code
def yX9_hexBytes : MethodName := ⟨RX9, "hexBytes", "(I)I"⟩
abbrev cX9_closed : ByteArray := prog_11_method_33_code
def yX9_closed : MethodName := ⟨RX9, "closed", "(III)I"⟩
abbrev cX9_addBody : ByteArray := prog_11_method_34_code
def yX9_addBody : MethodName := ⟨RX9, "addBody", "(I)V"⟩
abbrev cX9_escaped : ByteArray := prog_11_method_35_code
def yX9_escaped : MethodName := ⟨RX9, "escaped", "(I)I"⟩
abbrev cX9_isDigit : ByteArray := prog_11_method_36_code
def yX9_isDigit : MethodName := ⟨RX9, "isDigit", "(I)Z"⟩
abbrev cX9_digit : ByteArray := prog_11_method_37_code
def yX9_digit : MethodName := ⟨RX9, "digit", "(I)I"⟩
abbrev cX9_sticks : ByteArray := prog_11_method_38_code
def yX9_sticks : MethodName := ⟨RX9, "sticks", "(I)Z"⟩
abbrev cX9_startsName : ByteArray := prog_11_method_39_code
def yX9_startsName : MethodName := ⟨RX9, "startsName", "(I)Z"⟩
abbrev cX9_goesOnName : ByteArray := prog_11_method_40_code
def yX9_goesOnName : MethodName := ⟨RX9, "goesOnName", "(I)Z"⟩
def RX10 : String := "ItemJudge$Tree"
def TX10 : u_T := fun k => match k with
  | 0 => ("ItemJudge$Tree", "kind", "[I", true)
  | 1 => ("ItemJudge$Tree", "token", "[I", true)
  | 2 => ("ItemJudge$Tree", "next", "[I", true)
  | 3 => ("ItemJudge$Tree", "first", "[I", true)
  | 4 => ("ItemJudge$Tree", "second", "[I", true)
  | 5 => ("ItemJudge$Tree", "third", "[I", true)
  | 6 => ("ItemJudge$Tree", "mark", "[I", true)
  | 7 => ("ItemJudge$Tree", "guard", "[I", true)
  | 8 => ("ItemJudge$Tree", "deep", "[I", true)
  | 9 => ("ItemJudge$Tree", "statement", "[I", true)
  | 10 => ("ItemJudge$Tree", "weight", "[I", true)
  | 11 => ("ItemJudge$Tree", "place", "[I", true)
  | 12 => ("ItemJudge$Tree", "tied", "[I", true)
  | _ => ("ItemJudge$Tree", "count", "I", false)
def tyX10 : Nat → FieldType := fun k => match k with
  | 0 => .array .int
  | 1 => .array .int
  | 2 => .array .int
  | 3 => .array .int
  | 4 => .array .int
  | 5 => .array .int
  | 6 => .array .int
  | 7 => .array .int
  | 8 => .array .int
  | 9 => .array .int
  | 10 => .array .int
  | 11 => .array .int
  | 12 => .array .int
  | _ => .int
abbrev wsX100 : List Cond := u_ws RX10 TX10 14
theorem nmX10 : ∀ a, a < 14 → ∀ b, b < 14 → a ≠ b → (TX10 a).2.1 ≠ (TX10 b).2.1 := by decide +kernel
theorem tyX10_ok : ∀ k, k < 14 → parseFieldDescriptor (TX10 k).2.2.1 = some (tyX10 k) := by decide +kernel
abbrev cX10_init : ByteArray := prog_12_method_1_code
def yX10_init : MethodName := ⟨RX10, "<init>", "()V"⟩
abbrev cX10_add : ByteArray := prog_12_method_2_code
def yX10_add : MethodName := ⟨RX10, "add", "(II)I"⟩
abbrev cX10_kindOf : ByteArray := prog_12_method_3_code
def yX10_kindOf : MethodName := ⟨RX10, "kindOf", "(I)I"⟩
abbrev cX10_nextOf : ByteArray := prog_12_method_4_code
def yX10_nextOf : MethodName := ⟨RX10, "nextOf", "(I)I"⟩
abbrev cX10_firstOf : ByteArray := prog_12_method_5_code
def yX10_firstOf : MethodName := ⟨RX10, "firstOf", "(I)I"⟩
abbrev cX10_secondOf : ByteArray := prog_12_method_6_code
def yX10_secondOf : MethodName := ⟨RX10, "secondOf", "(I)I"⟩
abbrev cX10_chainIn : ByteArray := prog_12_method_7_code
def yX10_chainIn : MethodName := ⟨RX10, "chainIn", "(II)I"⟩
abbrev cX10_aloneIn : ByteArray := prog_12_method_8_code
def yX10_aloneIn : MethodName := ⟨RX10, "aloneIn", "(II)I"⟩
abbrev cX10_isName : ByteArray := prog_12_method_9_code
def yX10_isName : MethodName := ⟨RX10, "isName", "(I)Z"⟩
abbrev cX10_isEntry : ByteArray := prog_12_method_10_code
def yX10_isEntry : MethodName := ⟨RX10, "isEntry", "(I)Z"⟩
abbrev cX10_nameToken : ByteArray := prog_12_method_11_code
def yX10_nameToken : MethodName := ⟨RX10, "nameToken", "(I)I"⟩
abbrev cX10_append : ByteArray := prog_12_method_12_code
def yX10_append : MethodName := ⟨RX10, "append", "(II)V"⟩
abbrev cX10_length : ByteArray := prog_12_method_13_code
def yX10_length : MethodName := ⟨RX10, "length", "(I)I"⟩
def RX11 : String := "ItemJudge$Writer"
def TX11 : u_T := fun k => match k with
  | 0 => ("ItemJudge$Writer", "items", "LItemJudge$Items;", true)
  | 1 => ("ItemJudge$Writer", "out", "[B", true)
  | 2 => ("ItemJudge$Writer", "outSize", "I", false)
  | 3 => ("ItemJudge$Writer", "draft", "[B", true)
  | 4 => ("ItemJudge$Writer", "sorted", "[B", true)
  | 5 => ("ItemJudge$Writer", "size", "I", false)
  | 6 => ("ItemJudge$Writer", "from", "[I", true)
  | 7 => ("ItemJudge$Writer", "to", "[I", true)
  | 8 => ("ItemJudge$Writer", "order", "[I", true)
  | _ => ("ItemJudge$Writer", "digits", "[I", true)
def tyX11 : Nat → FieldType := fun k => match k with
  | 0 => .object "ItemJudge$Items"
  | 1 => .array .byte
  | 2 => .int
  | 3 => .array .byte
  | 4 => .array .byte
  | 5 => .int
  | 6 => .array .int
  | 7 => .array .int
  | 8 => .array .int
  | _ => .array .int
abbrev wsX110 : List Cond := u_ws RX11 TX11 10
theorem nmX11 : ∀ a, a < 10 → ∀ b, b < 10 → a ≠ b → (TX11 a).2.1 ≠ (TX11 b).2.1 := by decide +kernel
theorem tyX11_ok : ∀ k, k < 10 → parseFieldDescriptor (TX11 k).2.2.1 = some (tyX11 k) := by decide +kernel
abbrev cX11_init : ByteArray := prog_13_method_1_code
def yX11_init : MethodName := ⟨RX11, "<init>", "(LItemJudge$Items;)V"⟩
abbrev cX11_kept : ByteArray := prog_13_method_2_code
def yX11_kept : MethodName := ⟨RX11, "kept", "(I)I"⟩
abbrev cX11_tell : ByteArray := prog_13_method_3_code
def yX11_tell : MethodName := ⟨RX11, "tell", "(I)I"⟩
abbrev cX11_pack : ByteArray := prog_13_method_4_code
def yX11_pack : MethodName := ⟨RX11, "pack", "(I)I"⟩
abbrev cX11_keepDraft : ByteArray := prog_13_method_5_code
def yX11_keepDraft : MethodName := ⟨RX11, "keepDraft", "()I"⟩
abbrev cX11_add : ByteArray := prog_13_method_6_code
def yX11_add : MethodName := ⟨RX11, "add", "(I)V"⟩
abbrev cX11_addWord : ByteArray := prog_13_method_7_code
def yX11_addWord : MethodName := ⟨RX11, "addWord", "(Ljava/lang/String;)V"⟩
abbrev cX11_addHex : ByteArray := prog_13_method_8_code
def yX11_addHex : MethodName := ⟨RX11, "addHex", "(JI)V"⟩
abbrev cX11_addNumber : ByteArray := prog_13_method_9_code
def yX11_addNumber : MethodName := ⟨RX11, "addNumber", "(J)V"⟩
abbrev cX11_tenth : ByteArray := prog_13_method_10_code
def yX11_tenth : MethodName := ⟨RX11, "tenth", "(J)J"⟩
abbrev cX11_addItem : ByteArray := prog_13_method_11_code
def yX11_addItem : MethodName := ⟨RX11, "addItem", "(II)V"⟩
abbrev cX11_addNegative : ByteArray := prog_13_method_12_code
def yX11_addNegative : MethodName := ⟨RX11, "addNegative", "(J)V"⟩
abbrev cX11_addSeven : ByteArray := prog_13_method_13_code
def yX11_addSeven : MethodName := ⟨RX11, "addSeven", "(JI)V"⟩
abbrev cX11_addList : ByteArray := prog_13_method_14_code
def yX11_addList : MethodName := ⟨RX11, "addList", "(IIII)V"⟩
abbrev cX11_addString : ByteArray := prog_13_method_15_code
def yX11_addString : MethodName := ⟨RX11, "addString", "(I)V"⟩
abbrev cX11_addBytes : ByteArray := prog_13_method_16_code
def yX11_addBytes : MethodName := ⟨RX11, "addBytes", "(IIJ)V"⟩
abbrev cX11_addSign : ByteArray := prog_13_method_17_code
def yX11_addSign : MethodName := ⟨RX11, "addSign", "(I)V"⟩
abbrev cX11_packItem : ByteArray := prog_13_method_18_code
def yX11_packItem : MethodName := ⟨RX11, "packItem", "(II)V"⟩
abbrev cX11_packFloat : ByteArray := prog_13_method_19_code
def yX11_packFloat : MethodName := ⟨RX11, "packFloat", "(JI)V"⟩
abbrev cX11_packHead : ByteArray := prog_13_method_20_code
def yX11_packHead : MethodName := ⟨RX11, "packHead", "(IJ)V"⟩
abbrev cX11_packNumber : ByteArray := prog_13_method_21_code
def yX11_packNumber : MethodName := ⟨RX11, "packNumber", "(JI)V"⟩
abbrev cX11_sortPairs : ByteArray := prog_13_method_22_code
def yX11_sortPairs : MethodName := ⟨RX11, "sortPairs", "(I)V"⟩
abbrev cX11_isBefore : ByteArray := prog_13_method_23_code
def yX11_isBefore : MethodName := ⟨RX11, "isBefore", "(II)Z"⟩
def RX12 : String := "ItemJudge"
def TX12 : u_T := fun k => match k with
  | 0 => ("ItemJudge", "tape", "[B", true)
  | 1 => ("ItemJudge", "taped", "I", false)
  | 2 => ("ItemJudge", "faultPlace", "I", false)
  | 3 => ("ItemJudge", "rules", "LItemJudge$Rules;", false)
  | 4 => ("ItemJudge", "spare", "LItemJudge$Rules;", false)
  | 5 => ("ItemJudge", "parser", "LItemJudge$Parser;", true)
  | 6 => ("ItemJudge", "checker", "LItemJudge$Checker;", true)
  | 7 => ("ItemJudge", "limits", "LItemJudge$Limits;", true)
  | 8 => ("ItemJudge", "items", "LItemJudge$Items;", true)
  | 9 => ("ItemJudge", "memo", "LItemJudge$Memo;", true)
  | 10 => ("ItemJudge", "referee", "LItemJudge$Judge;", true)
  | _ => ("ItemJudge", "writer", "LItemJudge$Writer;", true)
def tyX12 : Nat → FieldType := fun k => match k with
  | 0 => .array .byte
  | 1 => .int
  | 2 => .int
  | 3 => .object "ItemJudge$Rules"
  | 4 => .object "ItemJudge$Rules"
  | 5 => .object "ItemJudge$Parser"
  | 6 => .object "ItemJudge$Checker"
  | 7 => .object "ItemJudge$Limits"
  | 8 => .object "ItemJudge$Items"
  | 9 => .object "ItemJudge$Memo"
  | 10 => .object "ItemJudge$Judge"
  | _ => .object "ItemJudge$Writer"
abbrev wsX120 : List Cond := u_ws RX12 TX12 12
theorem nmX12 : ∀ a, a < 12 → ∀ b, b < 12 → a ≠ b → (TX12 a).2.1 ≠ (TX12 b).2.1 := by decide +kernel
theorem tyX12_ok : ∀ k, k < 12 → parseFieldDescriptor (TX12 k).2.2.1 = some (tyX12 k) := by decide +kernel
abbrev cX12_init : ByteArray := prog_1_method_1_code
def yX12_init : MethodName := ⟨RX12, "<init>", "()V"⟩
abbrev cX12_feed : ByteArray := prog_1_method_2_code
def yX12_feed : MethodName := ⟨RX12, "feed", "(IIIII)I"⟩
abbrev cX12_end : ByteArray := prog_1_method_3_code
def yX12_end : MethodName := ⟨RX12, "end", "(I)I"⟩
abbrev cX12_grammar : ByteArray := prog_1_method_4_code
def yX12_grammar : MethodName := ⟨RX12, "grammar", "()I"⟩
abbrev cX12_place : ByteArray := prog_1_method_5_code
def yX12_place : MethodName := ⟨RX12, "place", "()I"⟩
abbrev cX12_rule : ByteArray := prog_1_method_6_code
def yX12_rule : MethodName := ⟨RX12, "rule", "(II)I"⟩
abbrev cX12_item : ByteArray := prog_1_method_7_code
def yX12_item : MethodName := ⟨RX12, "item", "()I"⟩
abbrev cX12_node : ByteArray := prog_1_method_8_code
def yX12_node : MethodName := ⟨RX12, "node", "(II)J"⟩
abbrev cX12_judge : ByteArray := prog_1_method_9_code
def yX12_judge : MethodName := ⟨RX12, "judge", "(II)I"⟩
abbrev cX12_write : ByteArray := prog_1_method_10_code
def yX12_write : MethodName := ⟨RX12, "write", "(I)I"⟩
abbrev cX12_shorten : ByteArray := prog_1_method_11_code
def yX12_shorten : MethodName := ⟨RX12, "shorten", "(I)I"⟩
abbrev cX12_out : ByteArray := prog_1_method_12_code
def yX12_out : MethodName := ⟨RX12, "out", "(I)I"⟩
abbrev cX12_feedNumber : ByteArray := prog_1_method_13_code
def yX12_feedNumber : MethodName := ⟨RX12, "feedNumber", "(I)V"⟩
abbrev cX12_faulty : ByteArray := prog_1_method_14_code
def yX12_faulty : MethodName := ⟨RX12, "faulty", "(II)I"⟩
abbrev cX12_at : ByteArray := prog_1_method_15_code
def yX12_at : MethodName := ⟨RX12, "at", "([II)I"⟩
abbrev cX12_put : ByteArray := prog_1_method_16_code
def yX12_put : MethodName := ⟨RX12, "put", "([III)V"⟩
abbrev cX12_longAt : ByteArray := prog_1_method_17_code
def yX12_longAt : MethodName := ⟨RX12, "longAt", "([JI)J"⟩
abbrev cX12_putLong : ByteArray := prog_1_method_18_code
def yX12_putLong : MethodName := ⟨RX12, "putLong", "([JIJ)V"⟩
abbrev cX12_byteAt : ByteArray := prog_1_method_19_code
def yX12_byteAt : MethodName := ⟨RX12, "byteAt", "([BI)I"⟩
abbrev cX12_putByte : ByteArray := prog_1_method_20_code
def yX12_putByte : MethodName := ⟨RX12, "putByte", "([BII)V"⟩
abbrev cX12_copy : ByteArray := prog_1_method_21_code
def yX12_copy : MethodName := ⟨RX12, "copy", "([BI[BII)V"⟩
abbrev cX12_below : ByteArray := prog_1_method_22_code
def yX12_below : MethodName := ⟨RX12, "below", "(JJ)Z"⟩
def RX13 : String := "ItemJudgeModel"
def TX13 : u_T := fun k => match k with
  | 0 => ("ItemJudgeModel", "code", "I", false)
  | 1 => ("ItemJudgeModel", "stop", "Ljava/lang/IllegalStateException;", true)
  | 2 => ("ItemJudgeModel", "tape", "[B", true)
  | 3 => ("ItemJudgeModel", "size", "I", false)
  | 4 => ("ItemJudgeModel", "source", "[B", true)
  | 5 => ("ItemJudgeModel", "sourceSize", "I", false)
  | 6 => ("ItemJudgeModel", "tokens", "[I", true)
  | 7 => ("ItemJudgeModel", "places", "[I", true)
  | 8 => ("ItemJudgeModel", "tokenNames", "[B", true)
  | 9 => ("ItemJudgeModel", "tokenMinus", "[Z", true)
  | 10 => ("ItemJudgeModel", "tokenNumbers", "[J", true)
  | 11 => ("ItemJudgeModel", "tokenLeast", "[I", true)
  | 12 => ("ItemJudgeModel", "tokenMost", "[I", true)
  | 13 => ("ItemJudgeModel", "tokenAt", "[I", true)
  | 14 => ("ItemJudgeModel", "tokenSize", "[I", true)
  | 15 => ("ItemJudgeModel", "tokenCount", "I", false)
  | 16 => ("ItemJudgeModel", "mostTokens", "I", false)
  | 17 => ("ItemJudgeModel", "answer", "I", false)
  | 18 => ("ItemJudgeModel", "faultPlace", "I", false)
  | 19 => ("ItemJudgeModel", "uintValue", "J", false)
  | 20 => ("ItemJudgeModel", "uintPlain", "Z", false)
  | 21 => ("ItemJudgeModel", "texts", "[B", true)
  | 22 => ("ItemJudgeModel", "textCounts", "[I", true)
  | 23 => ("ItemJudgeModel", "bank", "I", false)
  | 24 => ("ItemJudgeModel", "typeEnds", "[I", true)
  | 25 => ("ItemJudgeModel", "oneEnds", "[I", true)
  | 26 => ("ItemJudgeModel", "groupEnds", "[I", true)
  | 27 => ("ItemJudgeModel", "deep", "[I", true)
  | 28 => ("ItemJudgeModel", "kinds", "[I", true)
  | 29 => ("ItemJudgeModel", "nodeTokens", "[I", true)
  | 30 => ("ItemJudgeModel", "nodeA", "[I", true)
  | 31 => ("ItemJudgeModel", "nodeB", "[I", true)
  | 32 => ("ItemJudgeModel", "nodeNext", "[I", true)
  | 33 => ("ItemJudgeModel", "nodeOps", "[I", true)
  | 34 => ("ItemJudgeModel", "nodeNumbers", "[J", true)
  | 35 => ("ItemJudgeModel", "nodeMinus", "[Z", true)
  | 36 => ("ItemJudgeModel", "nodeLeast", "[I", true)
  | 37 => ("ItemJudgeModel", "nodeMost", "[I", true)
  | 38 => ("ItemJudgeModel", "nodeAt", "[I", true)
  | 39 => ("ItemJudgeModel", "nodeSize", "[I", true)
  | 40 => ("ItemJudgeModel", "nodeRefs", "[I", true)
  | 41 => ("ItemJudgeModel", "nodeCounts", "[I", true)
  | 42 => ("ItemJudgeModel", "pos", "I", false)
  | 43 => ("ItemJudgeModel", "opens", "I", false)
  | 44 => ("ItemJudgeModel", "defs", "I", false)
  | 45 => ("ItemJudgeModel", "defTokens", "[I", true)
  | 46 => ("ItemJudgeModel", "defOps", "[I", true)
  | 47 => ("ItemJudgeModel", "defNodes", "[I", true)
  | 48 => ("ItemJudgeModel", "defIsType", "[Z", true)
  | 49 => ("ItemJudgeModel", "defParams", "[I", true)
  | 50 => ("ItemJudgeModel", "defParamAt", "[I", true)
  | 51 => ("ItemJudgeModel", "paramTokens", "[I", true)
  | 52 => ("ItemJudgeModel", "paramCount", "I", false)
  | 53 => ("ItemJudgeModel", "ruleCounts", "[I", true)
  | 54 => ("ItemJudgeModel", "ruleNames", "[B", true)
  | 55 => ("ItemJudgeModel", "ruleParams", "[I", true)
  | 56 => ("ItemJudgeModel", "isGroup", "[Z", true)
  | 57 => ("ItemJudgeModel", "ruleFirst", "[I", true)
  | 58 => ("ItemJudgeModel", "ruleLast", "[I", true)
  | 59 => ("ItemJudgeModel", "keptNodes", "[I", true)
  | 60 => ("ItemJudgeModel", "keptTypes", "[Z", true)
  | 61 => ("ItemJudgeModel", "keptNext", "[I", true)
  | 62 => ("ItemJudgeModel", "defRules", "[I", true)
  | 63 => ("ItemJudgeModel", "ruleDefs", "[I", true)
  | 64 => ("ItemJudgeModel", "firstToken", "I", false)
  | 65 => ("ItemJudgeModel", "firstNumber", "I", false)
  | 66 => ("ItemJudgeModel", "leads", "[Z", true)
  | 67 => ("ItemJudgeModel", "later", "[I", true)
  | 68 => ("ItemJudgeModel", "laterMany", "I", false)
  | 69 => ("ItemJudgeModel", "seen", "[Z", true)
  | 70 => ("ItemJudgeModel", "seenRules", "[Z", true)
  | 71 => ("ItemJudgeModel", "instanceCounts", "[I", true)
  | 72 => ("ItemJudgeModel", "instanceRules", "[I", true)
  | 73 => ("ItemJudgeModel", "instanceArgs", "[I", true)
  | 74 => ("ItemJudgeModel", "instanceEnvs", "[I", true)
  | 75 => ("ItemJudgeModel", "argNode", "I", false)
  | 76 => ("ItemJudgeModel", "argEnv", "I", false)
  | 77 => ("ItemJudgeModel", "knownEntries", "[I", true)
  | 78 => ("ItemJudgeModel", "knownPaths", "[I", true)
  | 79 => ("ItemJudgeModel", "argPaths", "[I", true)
  | 80 => ("ItemJudgeModel", "groupEntries", "[I", true)
  | 81 => ("ItemJudgeModel", "takenOff", "I", false)
  | 82 => ("ItemJudgeModel", "takenEnv", "I", false)
  | 83 => ("ItemJudgeModel", "pathsIn", "[I", true)
  | 84 => ("ItemJudgeModel", "majors", "[I", true)
  | 85 => ("ItemJudgeModel", "numbers", "[J", true)
  | 86 => ("ItemJudgeModel", "wides", "[I", true)
  | 87 => ("ItemJudgeModel", "starts", "[I", true)
  | 88 => ("ItemJudgeModel", "ends", "[I", true)
  | 89 => ("ItemJudgeModel", "parents", "[I", true)
  | 90 => ("ItemJudgeModel", "firsts", "[I", true)
  | 91 => ("ItemJudgeModel", "nexts", "[I", true)
  | 92 => ("ItemJudgeModel", "contentAt", "[I", true)
  | 93 => ("ItemJudgeModel", "depths", "[I", true)
  | 94 => ("ItemJudgeModel", "insides", "[B", true)
  | 95 => ("ItemJudgeModel", "lies", "[B", true)
  | 96 => ("ItemJudgeModel", "liesNow", "I", false)
  | 97 => ("ItemJudgeModel", "insideRows", "[I", true)
  | 98 => ("ItemJudgeModel", "store", "[B", true)
  | 99 => ("ItemJudgeModel", "itemCount", "I", false)
  | 100 => ("ItemJudgeModel", "itemBank", "I", false)
  | 101 => ("ItemJudgeModel", "poolItems", "I", false)
  | 102 => ("ItemJudgeModel", "poolParts", "I", false)
  | 103 => ("ItemJudgeModel", "at", "I", false)
  | 104 => ("ItemJudgeModel", "sourceEnd", "I", false)
  | 105 => ("ItemJudgeModel", "itemBase", "I", false)
  | 106 => ("ItemJudgeModel", "itemsRead", "I", false)
  | 107 => ("ItemJudgeModel", "partsAt", "I", false)
  | 108 => ("ItemJudgeModel", "known", "[B", true)
  | 109 => ("ItemJudgeModel", "takenKeys", "[J", true)
  | 110 => ("ItemJudgeModel", "takenEnds", "[I", true)
  | 111 => ("ItemJudgeModel", "takenCount", "I", false)
  | 112 => ("ItemJudgeModel", "takenKey", "J", false)
  | 113 => ("ItemJudgeModel", "alone", "I", false)
  | 114 => ("ItemJudgeModel", "rowNodes", "[I", true)
  | 115 => ("ItemJudgeModel", "rowEnvs", "[I", true)
  | 116 => ("ItemJudgeModel", "rowKeys", "[I", true)
  | 117 => ("ItemJudgeModel", "rowPairs", "[I", true)
  | 118 => ("ItemJudgeModel", "rows", "I", false)
  | 119 => ("ItemJudgeModel", "rowBase", "I", false)
  | 120 => ("ItemJudgeModel", "sets", "[J", true)
  | 121 => ("ItemJudgeModel", "setTop", "I", false)
  | 122 => ("ItemJudgeModel", "ways", "[J", true)
  | 123 => ("ItemJudgeModel", "wayKeys", "[J", true)
  | 124 => ("ItemJudgeModel", "waySets", "[I", true)
  | 125 => ("ItemJudgeModel", "wayHeads", "[I", true)
  | 126 => ("ItemJudgeModel", "wayCount", "I", false)
  | 127 => ("ItemJudgeModel", "active", "I", false)
  | 128 => ("ItemJudgeModel", "out", "[B", true)
  | 129 => ("ItemJudgeModel", "outSize", "I", false)
  | 130 => ("ItemJudgeModel", "draft", "[B", true)
  | 131 => ("ItemJudgeModel", "drafted", "I", false)
  | 132 => ("ItemJudgeModel", "pairAt", "[I", true)
  | 133 => ("ItemJudgeModel", "keyEnd", "[I", true)
  | 134 => ("ItemJudgeModel", "pairTop", "I", false)
  | _ => ("ItemJudgeModel", "turn", "[B", true)
def tyX13 : Nat → FieldType := fun k => match k with
  | 0 => .int
  | 1 => .object "java/lang/IllegalStateException"
  | 2 => .array .byte
  | 3 => .int
  | 4 => .array .byte
  | 5 => .int
  | 6 => .array .int
  | 7 => .array .int
  | 8 => .array .byte
  | 9 => .array .boolean
  | 10 => .array .long
  | 11 => .array .int
  | 12 => .array .int
  | 13 => .array .int
  | 14 => .array .int
  | 15 => .int
  | 16 => .int
  | 17 => .int
  | 18 => .int
  | 19 => .long
  | 20 => .boolean
  | 21 => .array .byte
  | 22 => .array .int
  | 23 => .int
  | 24 => .array .int
  | 25 => .array .int
  | 26 => .array .int
  | 27 => .array .int
  | 28 => .array .int
  | 29 => .array .int
  | 30 => .array .int
  | 31 => .array .int
  | 32 => .array .int
  | 33 => .array .int
  | 34 => .array .long
  | 35 => .array .boolean
  | 36 => .array .int
  | 37 => .array .int
  | 38 => .array .int
  | 39 => .array .int
  | 40 => .array .int
  | 41 => .array .int
  | 42 => .int
  | 43 => .int
  | 44 => .int
  | 45 => .array .int
  | 46 => .array .int
  | 47 => .array .int
  | 48 => .array .boolean
  | 49 => .array .int
  | 50 => .array .int
  | 51 => .array .int
  | 52 => .int
  | 53 => .array .int
  | 54 => .array .byte
  | 55 => .array .int
  | 56 => .array .boolean
  | 57 => .array .int
  | 58 => .array .int
  | 59 => .array .int
  | 60 => .array .boolean
  | 61 => .array .int
  | 62 => .array .int
  | 63 => .array .int
  | 64 => .int
  | 65 => .int
  | 66 => .array .boolean
  | 67 => .array .int
  | 68 => .int
  | 69 => .array .boolean
  | 70 => .array .boolean
  | 71 => .array .int
  | 72 => .array .int
  | 73 => .array .int
  | 74 => .array .int
  | 75 => .int
  | 76 => .int
  | 77 => .array .int
  | 78 => .array .int
  | 79 => .array .int
  | 80 => .array .int
  | 81 => .int
  | 82 => .int
  | 83 => .array .int
  | 84 => .array .int
  | 85 => .array .long
  | 86 => .array .int
  | 87 => .array .int
  | 88 => .array .int
  | 89 => .array .int
  | 90 => .array .int
  | 91 => .array .int
  | 92 => .array .int
  | 93 => .array .int
  | 94 => .array .byte
  | 95 => .array .byte
  | 96 => .int
  | 97 => .array .int
  | 98 => .array .byte
  | 99 => .int
  | 100 => .int
  | 101 => .int
  | 102 => .int
  | 103 => .int
  | 104 => .int
  | 105 => .int
  | 106 => .int
  | 107 => .int
  | 108 => .array .byte
  | 109 => .array .long
  | 110 => .array .int
  | 111 => .int
  | 112 => .long
  | 113 => .int
  | 114 => .array .int
  | 115 => .array .int
  | 116 => .array .int
  | 117 => .array .int
  | 118 => .int
  | 119 => .int
  | 120 => .array .long
  | 121 => .int
  | 122 => .array .long
  | 123 => .array .long
  | 124 => .array .int
  | 125 => .array .int
  | 126 => .int
  | 127 => .int
  | 128 => .array .byte
  | 129 => .int
  | 130 => .array .byte
  | 131 => .int
  | 132 => .array .int
  | 133 => .array .int
  | 134 => .int
  | _ => .array .byte
abbrev wsX130 : List Cond := u_ws RX13 TX13 136
theorem nmX13 : ∀ a, a < 136 → ∀ b, b < 136 → a ≠ b → (TX13 a).2.1 ≠ (TX13 b).2.1 := by decide +kernel
theorem tyX13_ok : ∀ k, k < 136 → parseFieldDescriptor (TX13 k).2.2.1 = some (tyX13 k) := by decide +kernel
abbrev cX13_init : ByteArray := prog_15_method_2_code
def yX13_init : MethodName := ⟨RX13, "<init>", "()V"⟩
abbrev cX13_feed : ByteArray := prog_15_method_3_code
def yX13_feed : MethodName := ⟨RX13, "feed", "(IIIII)I"⟩
abbrev cX13_end : ByteArray := prog_15_method_4_code
def yX13_end : MethodName := ⟨RX13, "end", "(I)I"⟩
abbrev cX13_fail : ByteArray := prog_15_method_5_code
def yX13_fail : MethodName := ⟨RX13, "fail", "(II)V"⟩
abbrev cX13_byteAt : ByteArray := prog_15_method_6_code
def yX13_byteAt : MethodName := ⟨RX13, "byteAt", "(I)I"⟩
abbrev cX13_isFigure : ByteArray := prog_15_method_7_code
def yX13_isFigure : MethodName := ⟨RX13, "isFigure", "(I)Z"⟩
abbrev cX13_isLetter : ByteArray := prog_15_method_8_code
def yX13_isLetter : MethodName := ⟨RX13, "isLetter", "(I)Z"⟩
abbrev cX13_isNameStart : ByteArray := prog_15_method_9_code
def yX13_isNameStart : MethodName := ⟨RX13, "isNameStart", "(I)Z"⟩
abbrev cX13_isNameByte : ByteArray := prog_15_method_10_code
def yX13_isNameByte : MethodName := ⟨RX13, "isNameByte", "(I)Z"⟩
abbrev cX13_hexOf : ByteArray := prog_15_method_11_code
def yX13_hexOf : MethodName := ⟨RX13, "hexOf", "(I)I"⟩
abbrev cX13_skip : ByteArray := prog_15_method_12_code
def yX13_skip : MethodName := ⟨RX13, "skip", "(I)I"⟩
abbrev cX13_blanks : ByteArray := prog_15_method_13_code
def yX13_blanks : MethodName := ⟨RX13, "blanks", "(I)I"⟩
abbrev cX13_scan : ByteArray := prog_15_method_14_code
def yX13_scan : MethodName := ⟨RX13, "scan", "()V"⟩
abbrev cX13_tokenHere : ByteArray := prog_15_method_15_code
def yX13_tokenHere : MethodName := ⟨RX13, "tokenHere", "(I)I"⟩
abbrev cX13_nameHere : ByteArray := prog_15_method_16_code
def yX13_nameHere : MethodName := ⟨RX13, "nameHere", "(II)I"⟩
abbrev cX13_uintHere : ByteArray := prog_15_method_17_code
def yX13_uintHere : MethodName := ⟨RX13, "uintHere", "(I)I"⟩
abbrev cX13_isUnder : ByteArray := prog_15_method_18_code
def yX13_isUnder : MethodName := ⟨RX13, "isUnder", "(JJ)Z"⟩
abbrev cX13_quotient : ByteArray := prog_15_method_19_code
def yX13_quotient : MethodName := ⟨RX13, "quotient", "(JJ)J"⟩
abbrev cX13_floatHere : ByteArray := prog_15_method_20_code
def yX13_floatHere : MethodName := ⟨RX13, "floatHere", "(I)I"⟩
abbrev cX13_numberHere : ByteArray := prog_15_method_21_code
def yX13_numberHere : MethodName := ⟨RX13, "numberHere", "(III)I"⟩
abbrev cX13_bound : ByteArray := prog_15_method_22_code
def yX13_bound : MethodName := ⟨RX13, "bound", "(J)I"⟩
abbrev cX13_occurFrom : ByteArray := prog_15_method_23_code
def yX13_occurFrom : MethodName := ⟨RX13, "occurFrom", "(IIJI)I"⟩
abbrev cX13_occurHere : ByteArray := prog_15_method_24_code
def yX13_occurHere : MethodName := ⟨RX13, "occurHere", "(III)I"⟩
abbrev cX13_keepByte : ByteArray := prog_15_method_25_code
def yX13_keepByte : MethodName := ⟨RX13, "keepByte", "(I)V"⟩
abbrev cX13_escaped : ByteArray := prog_15_method_26_code
def yX13_escaped : MethodName := ⟨RX13, "escaped", "(I)I"⟩
abbrev cX13_textHere : ByteArray := prog_15_method_27_code
def yX13_textHere : MethodName := ⟨RX13, "textHere", "(III)I"⟩
abbrev cX13_hexBytes : ByteArray := prog_15_method_28_code
def yX13_hexBytes : MethodName := ⟨RX13, "hexBytes", "(II)I"⟩
abbrev cX13_hashHere : ByteArray := prog_15_method_29_code
def yX13_hashHere : MethodName := ⟨RX13, "hashHere", "(II)I"⟩
abbrev cX13_signHere : ByteArray := prog_15_method_30_code
def yX13_signHere : MethodName := ⟨RX13, "signHere", "(III)I"⟩
abbrev cX13_forgetEnds : ByteArray := prog_15_method_31_code
def yX13_forgetEnds : MethodName := ⟨RX13, "forgetEnds", "()V"⟩
abbrev cX13_isAt : ByteArray := prog_15_method_32_code
def yX13_isAt : MethodName := ⟨RX13, "isAt", "(II)Z"⟩
abbrev cX13_typeEnd : ByteArray := prog_15_method_33_code
def yX13_typeEnd : MethodName := ⟨RX13, "typeEnd", "(II)I"⟩
abbrev cX13_oneEnd : ByteArray := prog_15_method_34_code
def yX13_oneEnd : MethodName := ⟨RX13, "oneEnd", "(II)I"⟩
abbrev cX13_nameEnd : ByteArray := prog_15_method_35_code
def yX13_nameEnd : MethodName := ⟨RX13, "nameEnd", "(II)I"⟩
abbrev cX13_bracketsEnd : ByteArray := prog_15_method_36_code
def yX13_bracketsEnd : MethodName := ⟨RX13, "bracketsEnd", "(IIIZ)I"⟩
abbrev cX13_twoEnd : ByteArray := prog_15_method_37_code
def yX13_twoEnd : MethodName := ⟨RX13, "twoEnd", "(II)I"⟩
abbrev cX13_groupEnd : ByteArray := prog_15_method_38_code
def yX13_groupEnd : MethodName := ⟨RX13, "groupEnd", "(II)I"⟩
abbrev cX13_isValueToken : ByteArray := prog_15_method_39_code
def yX13_isValueToken : MethodName := ⟨RX13, "isValueToken", "(I)Z"⟩
abbrev cX13_behindKey : ByteArray := prog_15_method_40_code
def yX13_behindKey : MethodName := ⟨RX13, "behindKey", "(II)I"⟩
abbrev cX13_keyedEnd : ByteArray := prog_15_method_41_code
def yX13_keyedEnd : MethodName := ⟨RX13, "keyedEnd", "(II)I"⟩
abbrev cX13_entryEnd : ByteArray := prog_15_method_42_code
def yX13_entryEnd : MethodName := ⟨RX13, "entryEnd", "(II)I"⟩
abbrev cX13_newNode : ByteArray := prog_15_method_43_code
def yX13_newNode : MethodName := ⟨RX13, "newNode", "(II)I"⟩
abbrev cX13_is : ByteArray := prog_15_method_44_code
def yX13_is : MethodName := ⟨RX13, "is", "(I)Z"⟩
abbrev cX13_misplaced : ByteArray := prog_15_method_45_code
def yX13_misplaced : MethodName := ⟨RX13, "misplaced", "()V"⟩
abbrev cX13_take : ByteArray := prog_15_method_46_code
def yX13_take : MethodName := ⟨RX13, "take", "(I)V"⟩
abbrev cX13_takeOpen : ByteArray := prog_15_method_47_code
def yX13_takeOpen : MethodName := ⟨RX13, "takeOpen", "(I)V"⟩
abbrev cX13_takeClose : ByteArray := prog_15_method_48_code
def yX13_takeClose : MethodName := ⟨RX13, "takeClose", "(I)V"⟩
abbrev cX13_eat : ByteArray := prog_15_method_49_code
def yX13_eat : MethodName := ⟨RX13, "eat", "(I)Z"⟩
abbrev cX13_type : ByteArray := prog_15_method_50_code
def yX13_type : MethodName := ⟨RX13, "type", "()I"⟩
abbrev cX13_one : ByteArray := prog_15_method_51_code
def yX13_one : MethodName := ⟨RX13, "one", "()I"⟩
abbrev cX13_value : ByteArray := prog_15_method_52_code
def yX13_value : MethodName := ⟨RX13, "value", "()I"⟩
abbrev cX13_named : ByteArray := prog_15_method_53_code
def yX13_named : MethodName := ⟨RX13, "named", "(I)I"⟩
abbrev cX13_two : ByteArray := prog_15_method_54_code
def yX13_two : MethodName := ⟨RX13, "two", "()I"⟩
abbrev cX13_inBrackets : ByteArray := prog_15_method_55_code
def yX13_inBrackets : MethodName := ⟨RX13, "inBrackets", "(III)I"⟩
abbrev cX13_hash : ByteArray := prog_15_method_56_code
def yX13_hash : MethodName := ⟨RX13, "hash", "(I)I"⟩
abbrev cX13_beginsEntry : ByteArray := prog_15_method_57_code
def yX13_beginsEntry : MethodName := ⟨RX13, "beginsEntry", "()Z"⟩
abbrev cX13_group : ByteArray := prog_15_method_58_code
def yX13_group : MethodName := ⟨RX13, "group", "()I"⟩
abbrev cX13_choice : ByteArray := prog_15_method_59_code
def yX13_choice : MethodName := ⟨RX13, "choice", "()I"⟩
abbrev cX13_entry : ByteArray := prog_15_method_60_code
def yX13_entry : MethodName := ⟨RX13, "entry", "()I"⟩
abbrev cX13_keyText : ByteArray := prog_15_method_61_code
def yX13_keyText : MethodName := ⟨RX13, "keyText", "(I)V"⟩
abbrev cX13_beginsRule : ByteArray := prog_15_method_62_code
def yX13_beginsRule : MethodName := ⟨RX13, "beginsRule", "(I)Z"⟩
abbrev cX13_readRules : ByteArray := prog_15_method_63_code
def yX13_readRules : MethodName := ⟨RX13, "readRules", "()V"⟩
abbrev cX13_findRule : ByteArray := prog_15_method_64_code
def yX13_findRule : MethodName := ⟨RX13, "findRule", "(II)I"⟩
abbrev cX13_isSameName : ByteArray := prog_15_method_65_code
def yX13_isSameName : MethodName := ⟨RX13, "isSameName", "(II)Z"⟩
abbrev cX13_note : ByteArray := prog_15_method_66_code
def yX13_note : MethodName := ⟨RX13, "note", "(II)V"⟩
abbrev cX13_collectRules : ByteArray := prog_15_method_67_code
def yX13_collectRules : MethodName := ⟨RX13, "collectRules", "(Z)V"⟩
abbrev cX13_checkAgain : ByteArray := prog_15_method_68_code
def yX13_checkAgain : MethodName := ⟨RX13, "checkAgain", "(II)V"⟩
abbrev cX13_checkParams : ByteArray := prog_15_method_69_code
def yX13_checkParams : MethodName := ⟨RX13, "checkParams", "(I)V"⟩
abbrev cX13_refOf : ByteArray := prog_15_method_70_code
def yX13_refOf : MethodName := ⟨RX13, "refOf", "(II)I"⟩
abbrev cX13_findRefs : ByteArray := prog_15_method_71_code
def yX13_findRefs : MethodName := ⟨RX13, "findRefs", "()V"⟩
abbrev cX13_bareName : ByteArray := prog_15_method_72_code
def yX13_bareName : MethodName := ⟨RX13, "bareName", "(I)I"⟩
abbrev cX13_bareTwo : ByteArray := prog_15_method_73_code
def yX13_bareTwo : MethodName := ⟨RX13, "bareTwo", "(I)I"⟩
abbrev cX13_isGroupRef : ByteArray := prog_15_method_74_code
def yX13_isGroupRef : MethodName := ⟨RX13, "isGroupRef", "(I)Z"⟩
abbrev cX13_tellsGroup : ByteArray := prog_15_method_75_code
def yX13_tellsGroup : MethodName := ⟨RX13, "tellsGroup", "(I)Z"⟩
abbrev cX13_findKinds : ByteArray := prog_15_method_76_code
def yX13_findKinds : MethodName := ⟨RX13, "findKinds", "()V"⟩
abbrev cX13_controlOf : ByteArray := prog_15_method_77_code
def yX13_controlOf : MethodName := ⟨RX13, "controlOf", "(I)I"⟩
abbrev cX13_checkType : ByteArray := prog_15_method_78_code
def yX13_checkType : MethodName := ⟨RX13, "checkType", "(III)V"⟩
abbrev cX13_checkOne : ByteArray := prog_15_method_79_code
def yX13_checkOne : MethodName := ⟨RX13, "checkOne", "(III)V"⟩
abbrev cX13_beginOf : ByteArray := prog_15_method_80_code
def yX13_beginOf : MethodName := ⟨RX13, "beginOf", "(I)I"⟩
abbrev cX13_paramsOf : ByteArray := prog_15_method_81_code
def yX13_paramsOf : MethodName := ⟨RX13, "paramsOf", "(I)I"⟩
abbrev cX13_checkName : ByteArray := prog_15_method_82_code
def yX13_checkName : MethodName := ⟨RX13, "checkName", "(I)V"⟩
abbrev cX13_nameToken : ByteArray := prog_15_method_83_code
def yX13_nameToken : MethodName := ⟨RX13, "nameToken", "(I)I"⟩
abbrev cX13_checkTwo : ByteArray := prog_15_method_84_code
def yX13_checkTwo : MethodName := ⟨RX13, "checkTwo", "(III)V"⟩
abbrev cX13_unwrapKind : ByteArray := prog_15_method_85_code
def yX13_unwrapKind : MethodName := ⟨RX13, "unwrapKind", "(I)I"⟩
abbrev cX13_checkGroup : ByteArray := prog_15_method_86_code
def yX13_checkGroup : MethodName := ⟨RX13, "checkGroup", "(I)V"⟩
abbrev cX13_checkEntry : ByteArray := prog_15_method_87_code
def yX13_checkEntry : MethodName := ⟨RX13, "checkEntry", "(I)V"⟩
abbrev cX13_checkAll : ByteArray := prog_15_method_88_code
def yX13_checkAll : MethodName := ⟨RX13, "checkAll", "()V"⟩
abbrev cX13_leadsFrom : ByteArray := prog_15_method_89_code
def yX13_leadsFrom : MethodName := ⟨RX13, "leadsFrom", "(II)V"⟩
abbrev cX13_comesLater : ByteArray := prog_15_method_90_code
def yX13_comesLater : MethodName := ⟨RX13, "comesLater", "(I)V"⟩
abbrev cX13_leadsBehind : ByteArray := prog_15_method_91_code
def yX13_leadsBehind : MethodName := ⟨RX13, "leadsBehind", "(II)V"⟩
abbrev cX13_findRings : ByteArray := prog_15_method_92_code
def yX13_findRings : MethodName := ⟨RX13, "findRings", "()V"⟩
abbrev cX13_rowBehind : ByteArray := prog_15_method_93_code
def yX13_rowBehind : MethodName := ⟨RX13, "rowBehind", "(I)I"⟩
abbrev cX13_contentBehind : ByteArray := prog_15_method_94_code
def yX13_contentBehind : MethodName := ⟨RX13, "contentBehind", "(I)I"⟩
abbrev cX13_isInItself : ByteArray := prog_15_method_95_code
def yX13_isInItself : MethodName := ⟨RX13, "isInItself", "(I)Z"⟩
abbrev cX13_leadsTo : ByteArray := prog_15_method_96_code
def yX13_leadsTo : MethodName := ⟨RX13, "leadsTo", "(II)Z"⟩
abbrev cX13_nameLeadsTo : ByteArray := prog_15_method_97_code
def yX13_nameLeadsTo : MethodName := ⟨RX13, "nameLeadsTo", "(II)Z"⟩
abbrev cX13_hasParam : ByteArray := prog_15_method_98_code
def yX13_hasParam : MethodName := ⟨RX13, "hasParam", "(I)Z"⟩
abbrev cX13_hasBeside : ByteArray := prog_15_method_99_code
def yX13_hasBeside : MethodName := ⟨RX13, "hasBeside", "(IZ)Z"⟩
abbrev cX13_argument : ByteArray := prog_15_method_100_code
def yX13_argument : MethodName := ⟨RX13, "argument", "(II)V"⟩
abbrev cX13_instanceOf : ByteArray := prog_15_method_101_code
def yX13_instanceOf : MethodName := ⟨RX13, "instanceOf", "(II)I"⟩
abbrev cX13_use : ByteArray := prog_15_method_102_code
def yX13_use : MethodName := ⟨RX13, "use", "(II)V"⟩
abbrev cX13_useRule : ByteArray := prog_15_method_103_code
def yX13_useRule : MethodName := ⟨RX13, "useRule", "(II)V"⟩
abbrev cX13_findInstances : ByteArray := prog_15_method_104_code
def yX13_findInstances : MethodName := ⟨RX13, "findInstances", "()V"⟩
abbrev cX13_whole : ByteArray := prog_15_method_105_code
def yX13_whole : MethodName := ⟨RX13, "whole", "(II)I"⟩
abbrev cX13_ruleOfWhole : ByteArray := prog_15_method_106_code
def yX13_ruleOfWhole : MethodName := ⟨RX13, "ruleOfWhole", "(I)I"⟩
abbrev cX13_envOfWhole : ByteArray := prog_15_method_107_code
def yX13_envOfWhole : MethodName := ⟨RX13, "envOfWhole", "(I)I"⟩
abbrev cX13_capped : ByteArray := prog_15_method_108_code
def yX13_capped : MethodName := ⟨RX13, "capped", "(I)I"⟩
abbrev cX13_entriesOfRule : ByteArray := prog_15_method_109_code
def yX13_entriesOfRule : MethodName := ⟨RX13, "entriesOfRule", "(I)I"⟩
abbrev cX13_entriesOfName : ByteArray := prog_15_method_110_code
def yX13_entriesOfName : MethodName := ⟨RX13, "entriesOfName", "(I)I"⟩
abbrev cX13_entriesOfGroup : ByteArray := prog_15_method_111_code
def yX13_entriesOfGroup : MethodName := ⟨RX13, "entriesOfGroup", "(I)I"⟩
abbrev cX13_entriesOfEntry : ByteArray := prog_15_method_112_code
def yX13_entriesOfEntry : MethodName := ⟨RX13, "entriesOfEntry", "(I)I"⟩
abbrev cX13_unwrap : ByteArray := prog_15_method_113_code
def yX13_unwrap : MethodName := ⟨RX13, "unwrap", "(II)V"⟩
abbrev cX13_tooMuch : ByteArray := prog_15_method_114_code
def yX13_tooMuch : MethodName := ⟨RX13, "tooMuch", "()V"⟩
abbrev cX13_most : ByteArray := prog_15_method_115_code
def yX13_most : MethodName := ⟨RX13, "most", "(II)I"⟩
abbrev cX13_pathOfWhole : ByteArray := prog_15_method_116_code
def yX13_pathOfWhole : MethodName := ⟨RX13, "pathOfWhole", "(I)I"⟩
abbrev cX13_pathOfName : ByteArray := prog_15_method_117_code
def yX13_pathOfName : MethodName := ⟨RX13, "pathOfName", "(II)I"⟩
abbrev cX13_isBegunAnew : ByteArray := prog_15_method_118_code
def yX13_isBegunAnew : MethodName := ⟨RX13, "isBegunAnew", "(I)Z"⟩
abbrev cX13_measureInside : ByteArray := prog_15_method_119_code
def yX13_measureInside : MethodName := ⟨RX13, "measureInside", "(II)V"⟩
abbrev cX13_pathBehind : ByteArray := prog_15_method_120_code
def yX13_pathBehind : MethodName := ⟨RX13, "pathBehind", "(II)I"⟩
abbrev cX13_pathOf : ByteArray := prog_15_method_121_code
def yX13_pathOf : MethodName := ⟨RX13, "pathOf", "(II)I"⟩
abbrev cX13_measure : ByteArray := prog_15_method_122_code
def yX13_measure : MethodName := ⟨RX13, "measure", "()V"⟩
abbrev cX13_measureWhole : ByteArray := prog_15_method_123_code
def yX13_measureWhole : MethodName := ⟨RX13, "measureWhole", "(I)V"⟩
abbrev cX13_byteOf : ByteArray := prog_15_method_124_code
def yX13_byteOf : MethodName := ⟨RX13, "byteOf", "(I)I"⟩
abbrev cX13_numberOf : ByteArray := prog_15_method_125_code
def yX13_numberOf : MethodName := ⟨RX13, "numberOf", "(II)J"⟩
abbrev cX13_wideOf : ByteArray := prog_15_method_126_code
def yX13_wideOf : MethodName := ⟨RX13, "wideOf", "(I)I"⟩
abbrev cX13_readItem : ByteArray := prog_15_method_127_code
def yX13_readItem : MethodName := ⟨RX13, "readItem", "(II)I"⟩
abbrev cX13_readBytes : ByteArray := prog_15_method_128_code
def yX13_readBytes : MethodName := ⟨RX13, "readBytes", "(IIZJ)V"⟩
abbrev cX13_skipBytes : ByteArray := prog_15_method_129_code
def yX13_skipBytes : MethodName := ⟨RX13, "skipBytes", "(J)V"⟩
abbrev cX13_readRow : ByteArray := prog_15_method_130_code
def yX13_readRow : MethodName := ⟨RX13, "readRow", "(IIIZJI)V"⟩
abbrev cX13_item : ByteArray := prog_15_method_131_code
def yX13_item : MethodName := ⟨RX13, "item", "()I"⟩
abbrev cX13_node : ByteArray := prog_15_method_132_code
def yX13_node : MethodName := ⟨RX13, "node", "(II)J"⟩
abbrev cX13_forgetKnown : ByteArray := prog_15_method_133_code
def yX13_forgetKnown : MethodName := ⟨RX13, "forgetKnown", "()V"⟩
abbrev cX13_takenAt : ByteArray := prog_15_method_134_code
def yX13_takenAt : MethodName := ⟨RX13, "takenAt", "(III)I"⟩
abbrev cX13_keepTaken : ByteArray := prog_15_method_135_code
def yX13_keepTaken : MethodName := ⟨RX13, "keepTaken", "(IIII)V"⟩
abbrev cX13_isType : ByteArray := prog_15_method_136_code
def yX13_isType : MethodName := ⟨RX13, "isType", "(III)Z"⟩
abbrev cX13_isOne : ByteArray := prog_15_method_137_code
def yX13_isOne : MethodName := ⟨RX13, "isOne", "(III)Z"⟩
abbrev cX13_compareToNode : ByteArray := prog_15_method_138_code
def yX13_compareToNode : MethodName := ⟨RX13, "compareToNode", "(II)I"⟩
abbrev cX13_isSameBytes : ByteArray := prog_15_method_139_code
def yX13_isSameBytes : MethodName := ⟨RX13, "isSameBytes", "(II)Z"⟩
abbrev cX13_isTwo : ByteArray := prog_15_method_140_code
def yX13_isTwo : MethodName := ⟨RX13, "isTwo", "(III)Z"⟩
abbrev cX13_isSeven : ByteArray := prog_15_method_141_code
def yX13_isSeven : MethodName := ⟨RX13, "isSeven", "(IJ)Z"⟩
abbrev cX13_isName : ByteArray := prog_15_method_142_code
def yX13_isName : MethodName := ⟨RX13, "isName", "(III)Z"⟩
abbrev cX13_knownAt : ByteArray := prog_15_method_143_code
def yX13_knownAt : MethodName := ⟨RX13, "knownAt", "(II)I"⟩
abbrev cX13_ownPlace : ByteArray := prog_15_method_144_code
def yX13_ownPlace : MethodName := ⟨RX13, "ownPlace", "(I)I"⟩
abbrev cX13_isRule : ByteArray := prog_15_method_145_code
def yX13_isRule : MethodName := ⟨RX13, "isRule", "(III)Z"⟩
abbrev cX13_isPrelude : ByteArray := prog_15_method_146_code
def yX13_isPrelude : MethodName := ⟨RX13, "isPrelude", "(II)Z"⟩
abbrev cX13_isUnwrapped : ByteArray := prog_15_method_147_code
def yX13_isUnwrapped : MethodName := ⟨RX13, "isUnwrapped", "(III)Z"⟩
abbrev cX13_isIn : ByteArray := prog_15_method_148_code
def yX13_isIn : MethodName := ⟨RX13, "isIn", "(IIII)Z"⟩
abbrev cX13_isOneOf : ByteArray := prog_15_method_149_code
def yX13_isOneOf : MethodName := ⟨RX13, "isOneOf", "(III)Z"⟩
abbrev cX13_isOneIn : ByteArray := prog_15_method_150_code
def yX13_isOneIn : MethodName := ⟨RX13, "isOneIn", "(III)Z"⟩
abbrev cX13_isOneOfEntry : ByteArray := prog_15_method_151_code
def yX13_isOneOfEntry : MethodName := ⟨RX13, "isOneOfEntry", "(III)Z"⟩
abbrev cX13_isOneOfRule : ByteArray := prog_15_method_152_code
def yX13_isOneOfRule : MethodName := ⟨RX13, "isOneOfRule", "(III)Z"⟩
abbrev cX13_groupSort : ByteArray := prog_15_method_153_code
def yX13_groupSort : MethodName := ⟨RX13, "groupSort", "(I)I"⟩
abbrev cX13_numberItem : ByteArray := prog_15_method_154_code
def yX13_numberItem : MethodName := ⟨RX13, "numberItem", "(J)I"⟩
abbrev cX13_isNumberAs : ByteArray := prog_15_method_155_code
def yX13_isNumberAs : MethodName := ⟨RX13, "isNumberAs", "(JII)Z"⟩
abbrev cX13_isControlled : ByteArray := prog_15_method_156_code
def yX13_isControlled : MethodName := ⟨RX13, "isControlled", "(IIII)Z"⟩
abbrev cX13_isSmall : ByteArray := prog_15_method_157_code
def yX13_isSmall : MethodName := ⟨RX13, "isSmall", "(III)Z"⟩
abbrev cX13_areBits : ByteArray := prog_15_method_158_code
def yX13_areBits : MethodName := ⟨RX13, "areBits", "(III)Z"⟩
abbrev cX13_isInside : ByteArray := prog_15_method_159_code
def yX13_isInside : MethodName := ⟨RX13, "isInside", "(IIIZ)Z"⟩
abbrev cX13_readInside : ByteArray := prog_15_method_160_code
def yX13_readInside : MethodName := ⟨RX13, "readInside", "(I)Z"⟩
abbrev cX13_isRow : ByteArray := prog_15_method_161_code
def yX13_isRow : MethodName := ⟨RX13, "isRow", "(III)Z"⟩
abbrev cX13_takeGroup : ByteArray := prog_15_method_162_code
def yX13_takeGroup : MethodName := ⟨RX13, "takeGroup", "(III)I"⟩
abbrev cX13_takeChoices : ByteArray := prog_15_method_163_code
def yX13_takeChoices : MethodName := ⟨RX13, "takeChoices", "(III)I"⟩
abbrev cX13_takeEntry : ByteArray := prog_15_method_164_code
def yX13_takeEntry : MethodName := ⟨RX13, "takeEntry", "(III)I"⟩
abbrev cX13_takeOnce : ByteArray := prog_15_method_165_code
def yX13_takeOnce : MethodName := ⟨RX13, "takeOnce", "(III)I"⟩
abbrev cX13_takeRule : ByteArray := prog_15_method_166_code
def yX13_takeRule : MethodName := ⟨RX13, "takeRule", "(III)I"⟩
abbrev cX13_takeTold : ByteArray := prog_15_method_167_code
def yX13_takeTold : MethodName := ⟨RX13, "takeTold", "(III)I"⟩
abbrev cX13_findRow : ByteArray := prog_15_method_168_code
def yX13_findRow : MethodName := ⟨RX13, "findRow", "(II)I"⟩
abbrev cX13_collectGroup : ByteArray := prog_15_method_169_code
def yX13_collectGroup : MethodName := ⟨RX13, "collectGroup", "(II)V"⟩
abbrev cX13_collectEntry : ByteArray := prog_15_method_170_code
def yX13_collectEntry : MethodName := ⟨RX13, "collectEntry", "(II)V"⟩
abbrev cX13_collectName : ByteArray := prog_15_method_171_code
def yX13_collectName : MethodName := ⟨RX13, "collectName", "(II)V"⟩
abbrev cX13_isKey : ByteArray := prog_15_method_172_code
def yX13_isKey : MethodName := ⟨RX13, "isKey", "(III)Z"⟩
abbrev cX13_isMap : ByteArray := prog_15_method_173_code
def yX13_isMap : MethodName := ⟨RX13, "isMap", "(III)Z"⟩
abbrev cX13_newSet : ByteArray := prog_15_method_174_code
def yX13_newSet : MethodName := ⟨RX13, "newSet", "()I"⟩
abbrev cX13_add : ByteArray := prog_15_method_175_code
def yX13_add : MethodName := ⟨RX13, "add", "(II)V"⟩
abbrev cX13_has : ByteArray := prog_15_method_176_code
def yX13_has : MethodName := ⟨RX13, "has", "(II)Z"⟩
abbrev cX13_isEmpty : ByteArray := prog_15_method_177_code
def yX13_isEmpty : MethodName := ⟨RX13, "isEmpty", "(I)Z"⟩
abbrev cX13_nextState : ByteArray := prog_15_method_178_code
def yX13_nextState : MethodName := ⟨RX13, "nextState", "(II)I"⟩
abbrev cX13_join : ByteArray := prog_15_method_179_code
def yX13_join : MethodName := ⟨RX13, "join", "(II)V"⟩
abbrev cX13_turnOver : ByteArray := prog_15_method_180_code
def yX13_turnOver : MethodName := ⟨RX13, "turnOver", "(II)V"⟩
abbrev cX13_forgetWays : ByteArray := prog_15_method_181_code
def yX13_forgetWays : MethodName := ⟨RX13, "forgetWays", "()V"⟩
abbrev cX13_wayAt : ByteArray := prog_15_method_182_code
def yX13_wayAt : MethodName := ⟨RX13, "wayAt", "(J)I"⟩
abbrev cX13_wayKey : ByteArray := prog_15_method_183_code
def yX13_wayKey : MethodName := ⟨RX13, "wayKey", "(III)J"⟩
abbrev cX13_joinKnown : ByteArray := prog_15_method_184_code
def yX13_joinKnown : MethodName := ⟨RX13, "joinKnown", "(JI)Z"⟩
abbrev cX13_keepWay : ByteArray := prog_15_method_185_code
def yX13_keepWay : MethodName := ⟨RX13, "keepWay", "(JI)V"⟩
abbrev cX13_canGive : ByteArray := prog_15_method_186_code
def yX13_canGive : MethodName := ⟨RX13, "canGive", "(III)Z"⟩
abbrev cX13_throughGroup : ByteArray := prog_15_method_187_code
def yX13_throughGroup : MethodName := ⟨RX13, "throughGroup", "(IIII)V"⟩
abbrev cX13_throughList : ByteArray := prog_15_method_188_code
def yX13_throughList : MethodName := ⟨RX13, "throughList", "(IIII)V"⟩
abbrev cX13_throughName : ByteArray := prog_15_method_189_code
def yX13_throughName : MethodName := ⟨RX13, "throughName", "(IIII)V"⟩
abbrev cX13_throughRule : ByteArray := prog_15_method_190_code
def yX13_throughRule : MethodName := ⟨RX13, "throughRule", "(IIII)V"⟩
abbrev cX13_throughEntry : ByteArray := prog_15_method_191_code
def yX13_throughEntry : MethodName := ⟨RX13, "throughEntry", "(IIII)V"⟩
abbrev cX13_throughPairs : ByteArray := prog_15_method_192_code
def yX13_throughPairs : MethodName := ⟨RX13, "throughPairs", "(IIII)V"⟩
abbrev cX13_throughTimes : ByteArray := prog_15_method_193_code
def yX13_throughTimes : MethodName := ⟨RX13, "throughTimes", "(IIIII)V"⟩
abbrev cX13_part : ByteArray := prog_15_method_194_code
def yX13_part : MethodName := ⟨RX13, "part", "(IIII)V"⟩
abbrev cX13_throughOnce : ByteArray := prog_15_method_195_code
def yX13_throughOnce : MethodName := ⟨RX13, "throughOnce", "(IIIII)V"⟩
abbrev cX13_layPrelude : ByteArray := prog_15_method_196_code
def yX13_layPrelude : MethodName := ⟨RX13, "layPrelude", "()V"⟩
abbrev cX13_mean : ByteArray := prog_15_method_197_code
def yX13_mean : MethodName := ⟨RX13, "mean", "(Z)V"⟩
abbrev cX13_grammar : ByteArray := prog_15_method_198_code
def yX13_grammar : MethodName := ⟨RX13, "grammar", "()I"⟩
abbrev cX13_place : ByteArray := prog_15_method_199_code
def yX13_place : MethodName := ⟨RX13, "place", "()I"⟩
abbrev cX13_choicesOf : ByteArray := prog_15_method_200_code
def yX13_choicesOf : MethodName := ⟨RX13, "choicesOf", "(I)I"⟩
abbrev cX13_rule : ByteArray := prog_15_method_201_code
def yX13_rule : MethodName := ⟨RX13, "rule", "(II)I"⟩
abbrev cX13_judge : ByteArray := prog_15_method_202_code
def yX13_judge : MethodName := ⟨RX13, "judge", "(II)I"⟩
abbrev cX13_say : ByteArray := prog_15_method_203_code
def yX13_say : MethodName := ⟨RX13, "say", "(I)V"⟩
abbrev cX13_sayAll : ByteArray := prog_15_method_204_code
def yX13_sayAll : MethodName := ⟨RX13, "sayAll", "(Ljava/lang/String;)V"⟩
abbrev cX13_sayNumber : ByteArray := prog_15_method_205_code
def yX13_sayNumber : MethodName := ⟨RX13, "sayNumber", "(J)V"⟩
abbrev cX13_sayHex : ByteArray := prog_15_method_206_code
def yX13_sayHex : MethodName := ⟨RX13, "sayHex", "(JI)V"⟩
abbrev cX13_sayBytes : ByteArray := prog_15_method_207_code
def yX13_sayBytes : MethodName := ⟨RX13, "sayBytes", "(III)V"⟩
abbrev cX13_sayParts : ByteArray := prog_15_method_208_code
def yX13_sayParts : MethodName := ⟨RX13, "sayParts", "(I)V"⟩
abbrev cX13_sayRow : ByteArray := prog_15_method_209_code
def yX13_sayRow : MethodName := ⟨RX13, "sayRow", "(I)V"⟩
abbrev cX13_sayItem : ByteArray := prog_15_method_210_code
def yX13_sayItem : MethodName := ⟨RX13, "sayItem", "(I)V"⟩
abbrev cX13_saySimple : ByteArray := prog_15_method_211_code
def yX13_saySimple : MethodName := ⟨RX13, "saySimple", "(I)V"⟩
abbrev cX13_keepDraft : ByteArray := prog_15_method_212_code
def yX13_keepDraft : MethodName := ⟨RX13, "keepDraft", "()I"⟩
abbrev cX13_write : ByteArray := prog_15_method_213_code
def yX13_write : MethodName := ⟨RX13, "write", "(I)I"⟩
abbrev cX13_head : ByteArray := prog_15_method_214_code
def yX13_head : MethodName := ⟨RX13, "head", "(IJ)V"⟩
abbrev cX13_shortItem : ByteArray := prog_15_method_215_code
def yX13_shortItem : MethodName := ⟨RX13, "shortItem", "(I)V"⟩
abbrev cX13_shortMap : ByteArray := prog_15_method_216_code
def yX13_shortMap : MethodName := ⟨RX13, "shortMap", "(I)V"⟩
abbrev cX13_isKeyUnder : ByteArray := prog_15_method_217_code
def yX13_isKeyUnder : MethodName := ⟨RX13, "isKeyUnder", "(II)Z"⟩
abbrev cX13_shorten : ByteArray := prog_15_method_218_code
def yX13_shorten : MethodName := ⟨RX13, "shorten", "(I)I"⟩
abbrev cX13_out : ByteArray := prog_15_method_219_code
def yX13_out : MethodName := ⟨RX13, "out", "(I)I"⟩
def cR : Nat → String := fun o => match o with
  | 0 => RX0
  | 1 => RX1
  | 2 => RX2
  | 3 => RX3
  | 4 => RX4
  | 5 => RX5
  | 6 => RX6
  | 7 => RX7
  | 8 => RX8
  | 9 => RX9
  | 10 => RX10
  | 11 => RX11
  | 12 => RX12
  | _ => RX13
def cT : Nat → u_T := fun o => match o with
  | 0 => TX0
  | 1 => TX1
  | 2 => TX2
  | 3 => TX3
  | 4 => TX4
  | 5 => TX5
  | 6 => TX6
  | 7 => TX7
  | 8 => TX8
  | 9 => TX9
  | 10 => TX10
  | 11 => TX11
  | 12 => TX12
  | _ => TX13
def cY : Nat → Nat → FieldType := fun o => match o with
  | 0 => tyX0
  | 1 => tyX1
  | 2 => tyX2
  | 3 => tyX3
  | 4 => tyX4
  | 5 => tyX5
  | 6 => tyX6
  | 7 => tyX7
  | 8 => tyX8
  | 9 => tyX9
  | 10 => tyX10
  | 11 => tyX11
  | 12 => tyX12
  | _ => tyX13
def cN : Nat → Nat := fun o => match o with
  | 0 => 5
  | 1 => 13
  | 2 => 20
  | 3 => 17
  | 4 => 10
  | 5 => 12
  | 6 => 3
  | 7 => 11
  | 8 => 20
  | 9 => 17
  | 10 => 14
  | 11 => 10
  | 12 => 12
  | _ => 136
abbrev diCl : List vw_C := [(RX0, TX0, 5), (RX1, TX1, 13), (RX2, TX2, 20), (RX3, TX3, 17), (RX4, TX4, 10), (RX5, TX5, 12), (RX6, TX6, 3), (RX7, TX7, 11), (RX8, TX8, 20), (RX9, TX9, 17), (RX10, TX10, 14), (RX11, TX11, 10), (RX12, TX12, 12), (RX13, TX13, 136)]
def tcode : FieldType → Nat
  | .int => 0
  | .long => 1
  | .boolean => 2
  | .object _ => 3
  | .array _ => 3
  | _ => 4
def dFT : Nat → List (Nat × Nat × Nat) := fun o => match o with
  | 0 => [(9, 0, 0), (15, 8, 0), (21, 0, 1), (22, 8, 1), (26, 0, 2), (27, 0, 3), (38, 8, 17), (41, 10, 13), (50, 0, 4), (59, 8, 18), (62, 8, 14), (71, 8, 19), (74, 8, 15), (75, 8, 11), (79, 8, 9), (97, 8, 3), (116, 8, 8), (119, 8, 4), (122, 8, 10), (132, 8, 5), (144, 10, 9), (150, 10, 4), (171, 8, 7), (174, 8, 6), (177, 10, 6), (183, 8, 12), (189, 8, 16), (192, 9, 7), (200, 10, 5), (221, 10, 1), (224, 10, 0), (227, 10, 3), (230, 8, 13)]
  | 1 => [(11, 1, 0), (15, 1, 1), (19, 1, 2), (22, 1, 3), (25, 1, 4), (28, 1, 5), (31, 1, 6), (38, 10, 5), (43, 1, 9), (51, 8, 13), (60, 1, 8), (69, 1, 10), (72, 1, 11), (75, 1, 12), (82, 8, 17), (88, 8, 19), (104, 8, 12), (114, 1, 7), (117, 8, 15), (128, 10, 13), (136, 8, 18), (139, 8, 14), (142, 8, 8)]
  | 2 => [(11, 2, 0), (15, 2, 1), (19, 2, 2), (22, 2, 3), (25, 2, 4), (28, 2, 5), (31, 2, 6), (34, 2, 7), (37, 2, 8), (40, 2, 9), (43, 2, 10), (46, 2, 11), (50, 2, 13), (54, 2, 12), (57, 2, 19), (103, 2, 18), (110, 2, 14), (125, 2, 17), (131, 2, 16), (140, 2, 15)]
  | 3 => [(11, 3, 0), (17, 8, 1), (23, 3, 1), (24, 8, 2), (28, 3, 2), (29, 3, 3), (33, 3, 4), (42, 3, 5), (46, 3, 6), (50, 3, 13), (53, 3, 15), (57, 3, 16), (64, 3, 7), (68, 3, 14), (71, 8, 12), (84, 3, 8), (87, 3, 9), (90, 3, 10), (158, 1, 10), (161, 1, 11), (164, 8, 17), (199, 10, 5), (233, 3, 11), (236, 3, 12), (271, 10, 10), (274, 10, 11), (317, 10, 6)]
  | 4 => [(9, 4, 4), (17, 4, 5), (21, 4, 6), (25, 4, 7), (28, 4, 8), (31, 4, 0), (35, 8, 0), (41, 4, 1), (42, 8, 1), (46, 4, 2), (47, 8, 2), (51, 4, 3), (52, 4, 9), (56, 10, 1), (89, 9, 6), (101, 9, 4), (108, 9, 5), (117, 10, 5), (172, 1, 10), (175, 1, 11), (178, 1, 12)]
  | 5 => [(9, 5, 0), (15, 8, 1), (21, 5, 1), (22, 8, 2), (26, 5, 2), (27, 5, 3), (31, 5, 4), (34, 5, 8), (37, 5, 9), (40, 5, 10), (43, 10, 13), (49, 5, 7), (56, 5, 6), (59, 8, 19), (62, 8, 15), (75, 8, 17), (94, 10, 6), (97, 10, 7), (103, 5, 5), (110, 10, 9), (113, 8, 18), (116, 8, 14), (119, 8, 8), (147, 5, 11), (154, 10, 5), (157, 8, 11), (172, 10, 10), (178, 8, 12), (184, 10, 12), (196, 10, 11), (199, 1, 7), (226, 10, 8), (240, 1, 8), (242, 1, 9)]
  | 6 => [(9, 6, 0), (13, 6, 2), (17, 6, 1)]
  | 7 => [(9, 7, 0), (15, 8, 0), (21, 7, 1), (22, 8, 1), (26, 7, 2), (27, 7, 10), (31, 7, 4), (35, 8, 16), (38, 7, 3), (61, 10, 7), (65, 7, 6), (71, 10, 8), (74, 7, 7), (76, 10, 9), (79, 7, 5), (91, 7, 9), (101, 7, 8), (107, 8, 6), (114, 8, 7), (120, 10, 3), (123, 10, 13), (132, 10, 5), (145, 10, 2), (158, 10, 4), (194, 9, 6), (202, 9, 4), (248, 10, 0), (251, 10, 6)]
  | 8 => [(12, 8, 0), (21, 8, 1), (30, 8, 2), (34, 8, 3), (38, 8, 4), (41, 8, 5), (44, 8, 6), (47, 8, 7), (50, 8, 8), (53, 8, 9), (56, 8, 10), (59, 8, 11), (62, 8, 12), (65, 8, 13), (68, 9, 7), (72, 8, 16), (75, 10, 13), (76, 8, 17), (79, 8, 14), (82, 8, 18), (85, 8, 15), (86, 8, 19), (105, 9, 4), (112, 10, 9), (153, 10, 1), (156, 9, 5), (164, 9, 6)]
  | 9 => [(9, 9, 0), (15, 9, 1), (19, 9, 2), (22, 9, 3), (25, 9, 4), (28, 9, 5), (32, 9, 6), (51, 9, 7), (63, 9, 10), (88, 9, 8), (91, 9, 9), (108, 9, 11), (115, 9, 12), (118, 9, 13), (121, 9, 14), (129, 9, 15), (152, 9, 16)]
  | 10 => [(9, 10, 0), (15, 10, 1), (18, 10, 2), (21, 10, 3), (24, 10, 4), (27, 10, 5), (30, 10, 6), (33, 10, 7), (36, 10, 8), (39, 10, 9), (42, 10, 10), (45, 10, 11), (48, 10, 12), (51, 10, 13)]
  | 11 => [(9, 11, 0), (15, 11, 1), (19, 11, 2), (23, 11, 3), (26, 11, 4), (29, 11, 6), (33, 11, 7), (36, 11, 8), (39, 11, 9), (46, 11, 5)]
  | 12 => [(9, 12, 0), (13, 12, 1), (17, 12, 2), (23, 12, 3), (27, 12, 4), (35, 12, 5), (42, 12, 6), (49, 12, 7), (56, 12, 8), (63, 12, 9), (72, 12, 10), (81, 12, 11), (85, 8, 0), (111, 8, 16), (136, 8, 2), (180, 8, 11)]
  | _ => [(1, 13, 0), (20, 13, 1), (23, 13, 2), (27, 13, 4), (30, 13, 6), (34, 13, 7), (37, 13, 8), (40, 13, 9), (44, 13, 10), (48, 13, 11), (51, 13, 12), (54, 13, 13), (57, 13, 14), (60, 13, 18), (63, 13, 21), (66, 13, 22), (69, 13, 24), (72, 13, 25), (75, 13, 26), (78, 13, 27), (81, 13, 28), (84, 13, 29), (87, 13, 30), (90, 13, 31), (93, 13, 32), (96, 13, 33), (99, 13, 34), (102, 13, 35), (105, 13, 36), (108, 13, 37), (111, 13, 38), (114, 13, 39), (117, 13, 40), (120, 13, 41), (123, 13, 45), (126, 13, 46), (129, 13, 47), (132, 13, 48), (135, 13, 49), (138, 13, 50), (141, 13, 51), (144, 13, 53), (147, 13, 54), (150, 13, 55), (153, 13, 56), (156, 13, 57), (159, 13, 58), (162, 13, 59), (165, 13, 60), (168, 13, 61), (171, 13, 62), (174, 13, 63), (177, 13, 66), (180, 13, 67), (183, 13, 69), (186, 13, 70), (189, 13, 71), (192, 13, 72), (195, 13, 73), (198, 13, 74), (201, 13, 77), (204, 13, 78), (207, 13, 79), (210, 13, 80), (214, 13, 83), (218, 13, 84), (221, 13, 85), (224, 13, 86), (227, 13, 87), (230, 13, 88), (233, 13, 89), (236, 13, 90), (239, 13, 91), (242, 13, 92), (245, 13, 93), (248, 13, 94), (251, 13, 95), (254, 13, 97), (258, 13, 98), (261, 13, 101), (264, 13, 102), (268, 13, 108), (272, 13, 109), (275, 13, 110), (278, 13, 114), (281, 13, 115), (284, 13, 116), (287, 13, 117), (290, 13, 120), (294, 13, 122), (298, 13, 123), (301, 13, 124), (305, 13, 125), (308, 13, 128), (311, 13, 130), (314, 13, 132), (317, 13, 133), (320, 13, 135), (326, 13, 3), (329, 13, 17), (332, 13, 5), (349, 13, 15), (355, 13, 16), (387, 13, 20), (391, 13, 19), (431, 13, 23), (486, 13, 42), (499, 13, 43), (555, 13, 44), (558, 13, 52), (567, 13, 65), (570, 13, 64), (652, 13, 68), (680, 13, 75), (683, 13, 76), (716, 13, 81), (719, 13, 82), (758, 13, 104), (764, 13, 103), (767, 13, 106), (770, 13, 105), (773, 13, 96), (800, 13, 107), (805, 13, 100), (808, 13, 99), (814, 13, 111), (825, 13, 112), (912, 13, 113), (955, 13, 119), (958, 13, 118), (979, 13, 121), (982, 13, 126), (1061, 13, 127), (1094, 13, 131), (1160, 13, 129), (1176, 13, 134)]
def dMT : Nat → List (Nat × Nat × Nat) := fun o => match o with
  | 0 => [(31, 3, 1), (35, 11, 1), (46, 12, 1), (53, 17, 1), (56, 18, 1), (65, 5, 1), (68, 8, 1), (82, 297, 3), (86, 9, 1), (90, 298, 3), (94, 10, 1), (100, 198, 1), (104, 4, 1), (108, 184, 1), (112, 185, 1), (125, 6, 1), (129, 7, 1), (135, 197, 1), (139, 214, 1), (147, 255, 1), (153, 257, 1), (156, 200, 1), (159, 249, 1), (162, 252, 1), (165, 251, 1), (168, 201, 1), (180, 193, 1), (186, 258, 1), (193, 210, 1), (194, 13, 1), (197, 15, 1), (203, 16, 1), (206, 259, 1), (209, 192, 1), (212, 195, 1), (215, 202, 1), (218, 14, 1)]
  | 1 => [(34, 297, 3), (47, 23, 1), (56, 252, 1), (63, 249, 1), (66, 251, 1), (78, 24, 1), (85, 196, 1), (91, 26, 1), (94, 21, 1), (97, 22, 1), (100, 193, 1), (107, 194, 1), (110, 28, 1), (118, 192, 1), (121, 29, 1), (125, 20, 1), (129, 255, 1), (132, 298, 3), (145, 30, 1), (148, 188, 1), (151, 187, 1), (154, 31, 1), (158, 33, 1), (161, 32, 1), (165, 250, 1), (168, 35, 1), (172, 34, 1)]
  | 2 => [(60, 297, 3), (64, 299, 3), (68, 41, 1), (72, 301, 3), (76, 37, 1), (82, 40, 1), (86, 42, 1), (89, 44, 1), (92, 45, 1), (95, 46, 1), (99, 298, 3), (106, 50, 1), (113, 303, 3), (117, 51, 1), (121, 54, 1), (128, 53, 1), (143, 300, 3), (147, 55, 1), (150, 56, 1), (153, 61, 1), (161, 304, 3), (165, 57, 1), (168, 58, 1), (171, 59, 1)]
  | 3 => [(39, 96, 2), (60, 97, 1), (74, 297, 3), (78, 65, 1), (93, 69, 1), (96, 73, 1), (99, 79, 1), (103, 86, 1), (106, 71, 1), (110, 67, 1), (114, 253, 1), (119, 250, 1), (123, 68, 1), (127, 249, 1), (130, 70, 1), (133, 251, 1), (136, 99, 1), (140, 254, 1), (143, 74, 1), (146, 85, 1), (149, 98, 1), (152, 25, 1), (167, 141, 0), (171, 142, 1), (175, 66, 1), (178, 82, 1), (181, 89, 1), (184, 72, 1), (187, 43, 1), (192, 90, 1), (195, 143, 1), (202, 252, 1), (205, 106, 1), (209, 107, 1), (212, 40, 1), (215, 52, 1), (218, 41, 1), (222, 100, 1), (225, 75, 1), (229, 76, 1), (240, 81, 1), (243, 206, 1), (246, 205, 1), (249, 84, 1), (252, 80, 1), (255, 83, 1), (258, 78, 1), (266, 77, 1), (277, 87, 1), (280, 88, 1), (283, 298, 3), (289, 300, 3), (293, 91, 1), (296, 95, 1), (300, 92, 1), (307, 93, 1), (310, 299, 3), (314, 94, 1)]
  | 4 => [(61, 297, 3), (65, 40, 1), (71, 249, 1), (74, 101, 1), (78, 103, 1), (82, 104, 1), (86, 102, 1), (94, 299, 3), (98, 105, 1), (104, 41, 1), (111, 252, 1), (114, 251, 1), (120, 304, 3), (124, 46, 1), (128, 213, 1), (131, 42, 1), (144, 108, 1), (152, 109, 1), (155, 250, 1), (158, 110, 1), (161, 111, 1), (164, 114, 1), (168, 25, 1), (181, 300, 3), (185, 298, 3), (193, 115, 1), (194, 112, 0), (198, 113, 0), (201, 116, 0)]
  | 5 => [(52, 298, 3), (63, 122, 1), (67, 297, 3), (71, 189, 1), (78, 249, 1), (81, 257, 1), (84, 119, 1), (88, 120, 1), (91, 121, 1), (100, 196, 1), (106, 124, 1), (122, 125, 1), (126, 188, 1), (129, 187, 1), (132, 255, 1), (135, 252, 1), (138, 194, 1), (141, 123, 1), (144, 127, 1), (151, 256, 1), (160, 128, 1), (163, 251, 1), (175, 132, 1), (181, 130, 1), (187, 131, 1), (190, 134, 1), (193, 250, 1), (202, 136, 1), (205, 20, 1), (208, 135, 1), (211, 192, 1), (214, 202, 1), (217, 137, 1), (220, 21, 1), (223, 22, 1), (229, 138, 1), (233, 23, 1), (236, 24, 1)]
  | 6 => [(23, 300, 3), (29, 146, 1), (33, 299, 3), (40, 145, 1), (43, 144, 1)]
  | 7 => [(41, 150, 1), (45, 154, 1), (49, 210, 1), (55, 248, 1), (67, 298, 3), (81, 152, 1), (85, 156, 1), (88, 155, 0), (94, 151, 1), (97, 183, 1), (104, 153, 1), (110, 158, 1), (117, 175, 1), (126, 160, 1), (129, 157, 1), (135, 159, 1), (139, 162, 1), (142, 161, 1), (148, 165, 1), (151, 163, 1), (155, 164, 1), (163, 215, 1), (191, 170, 1), (198, 299, 3), (205, 297, 3), (209, 169, 1), (213, 167, 1), (216, 166, 1), (219, 168, 1), (222, 172, 1), (229, 171, 1), (232, 173, 1), (235, 174, 0), (238, 178, 1), (241, 176, 1), (244, 177, 1), (254, 179, 1)]
  | 8 => [(11, 207, 2), (20, 247, 2), (27, 19, 2), (89, 298, 3), (93, 297, 3), (97, 189, 1), (101, 213, 1), (108, 193, 1), (115, 214, 1), (119, 197, 1), (122, 199, 1), (125, 198, 1), (129, 250, 1), (132, 249, 1), (135, 251, 1), (138, 195, 1), (141, 201, 1), (144, 252, 1), (147, 259, 1), (150, 204, 1), (160, 299, 3)]
  | 9 => [(37, 216, 1), (55, 217, 1), (59, 303, 3), (66, 297, 3), (70, 301, 3), (84, 302, 3), (94, 221, 1), (98, 218, 1), (101, 222, 1), (104, 219, 1), (111, 298, 3), (125, 300, 3), (132, 220, 1), (135, 238, 1), (138, 245, 0), (142, 226, 1), (146, 242, 0), (149, 231, 1), (155, 228, 1), (159, 227, 1), (163, 237, 1), (167, 230, 1), (172, 229, 1), (176, 224, 1), (179, 225, 1), (182, 223, 1), (185, 246, 0), (188, 235, 1), (193, 304, 3), (199, 233, 1), (202, 232, 1), (205, 244, 0), (208, 243, 0), (211, 234, 0), (223, 236, 1), (226, 239, 1), (229, 241, 0), (232, 240, 1)]
  | 10 => [(55, 297, 3), (59, 250, 1), (63, 298, 3)]
  | 11 => [(42, 301, 3), (49, 270, 1), (53, 264, 1), (57, 277, 1), (60, 303, 3), (73, 265, 1), (79, 269, 0), (83, 298, 3), (87, 297, 3), (93, 41, 1), (99, 40, 1), (103, 268, 1), (107, 271, 1), (110, 274, 1), (113, 273, 1), (117, 42, 1), (120, 272, 1), (128, 266, 1), (138, 267, 1), (161, 43, 1), (168, 44, 1), (171, 60, 1), (174, 59, 1), (177, 275, 1), (183, 45, 1), (190, 47, 1), (193, 276, 1), (198, 278, 1), (201, 279, 1), (205, 46, 1), (209, 281, 1), (212, 280, 1), (217, 304, 3), (221, 282, 1)]
  | 12 => [(22, 180, 2), (32, 147, 2), (41, 0, 2), (48, 117, 2), (55, 36, 2), (62, 139, 2), (69, 62, 2), (78, 260, 2), (89, 208, 1), (94, 149, 1), (98, 3, 1), (101, 181, 1), (104, 295, 1), (108, 182, 1), (114, 209, 1), (118, 148, 1), (122, 296, 1), (126, 2, 1), (130, 1, 1), (133, 118, 1), (140, 27, 1), (145, 126, 1), (149, 133, 1), (152, 212, 1), (155, 129, 1), (158, 63, 1), (161, 140, 1), (164, 185, 1), (167, 186, 1), (171, 190, 1), (174, 191, 1), (177, 192, 1), (184, 297, 0), (188, 203, 1), (191, 49, 1), (195, 38, 1), (198, 39, 1), (200, 48, 1), (204, 37, 1), (208, 64, 1), (212, 262, 1), (215, 263, 1), (218, 261, 1), (221, 302, 0), (224, 211, 1)]
  | _ => [(323, 499, 1), (335, 311, 0), (339, 312, 0), (342, 310, 0), (345, 309, 1), (352, 315, 1), (358, 318, 1), (361, 331, 1), (365, 319, 1), (368, 324, 1), (372, 327, 1), (375, 330, 1), (378, 332, 1), (381, 333, 1), (384, 313, 0), (395, 314, 0), (400, 322, 0), (404, 321, 0), (414, 323, 1), (417, 320, 1), (420, 326, 1), (426, 325, 0), (434, 329, 0), (437, 328, 1), (441, 316, 1), (451, 337, 1), (454, 335, 1), (458, 340, 1), (461, 341, 1), (464, 336, 1), (467, 338, 1), (470, 339, 1), (474, 345, 1), (477, 342, 1), (480, 343, 1), (483, 344, 1), (489, 308, 1), (493, 347, 1), (496, 348, 1), (502, 349, 1), (505, 346, 1), (508, 354, 1), (512, 352, 1), (515, 357, 1), (518, 350, 1), (521, 351, 1), (524, 355, 1), (527, 356, 1), (530, 353, 1), (533, 358, 1), (536, 359, 1), (539, 361, 1), (542, 362, 1), (545, 360, 1), (549, 363, 1), (552, 364, 1), (561, 334, 1), (564, 365, 1), (573, 367, 1), (576, 369, 1), (579, 371, 1), (582, 372, 1), (585, 368, 1), (588, 373, 1), (591, 376, 1), (594, 375, 1), (597, 377, 1), (600, 378, 1), (612, 382, 1), (616, 387, 1), (619, 383, 1), (622, 380, 1), (625, 386, 1), (628, 384, 1), (631, 385, 1), (634, 381, 1), (637, 389, 1), (640, 388, 1), (643, 390, 1), (646, 392, 1), (649, 394, 1), (655, 393, 1), (658, 398, 1), (661, 397, 1), (664, 399, 1), (667, 421, 1), (670, 400, 1), (673, 402, 1), (677, 401, 1), (686, 403, 1), (689, 404, 1), (692, 405, 1), (695, 406, 1), (698, 413, 1), (701, 415, 1), (704, 411, 0), (707, 412, 1), (710, 414, 1), (713, 396, 1), (722, 409, 1), (725, 410, 0), (728, 424, 1), (731, 418, 1), (734, 408, 1), (737, 419, 1), (740, 422, 1), (743, 417, 1), (746, 416, 1), (749, 420, 1), (752, 423, 1), (755, 426, 1), (761, 427, 1), (776, 429, 0), (779, 428, 1), (783, 431, 1), (787, 433, 1), (791, 430, 1), (796, 432, 1), (811, 436, 1), (828, 437, 1), (831, 440, 1), (835, 443, 1), (838, 459, 1), (842, 441, 1), (845, 442, 1), (848, 445, 1), (851, 439, 1), (854, 476, 1), (857, 464, 1), (860, 450, 1), (863, 452, 1), (866, 455, 1), (869, 444, 1), (883, 449, 1), (886, 448, 1), (890, 446, 1), (893, 447, 1), (896, 438, 1), (900, 451, 1), (903, 453, 1), (906, 454, 1), (909, 456, 1), (915, 457, 1), (918, 458, 1), (922, 460, 1), (925, 461, 1), (928, 462, 1), (934, 463, 1), (937, 465, 1), (940, 466, 1), (943, 467, 1), (946, 468, 1), (949, 469, 1), (952, 470, 1), (961, 473, 1), (964, 472, 1), (967, 474, 1), (970, 471, 1), (973, 475, 1), (976, 489, 1), (988, 485, 1), (991, 484, 1), (994, 477, 1), (997, 490, 1), (1000, 479, 1), (1003, 494, 1), (1006, 486, 0), (1010, 487, 1), (1014, 491, 1), (1017, 488, 1), (1021, 482, 1), (1024, 478, 1), (1027, 481, 1), (1030, 483, 1), (1033, 493, 1), (1036, 492, 1), (1039, 498, 1), (1043, 496, 1), (1046, 495, 1), (1049, 480, 1), (1052, 497, 1), (1057, 500, 1), (1064, 317, 1), (1067, 366, 1), (1070, 370, 1), (1073, 374, 1), (1076, 379, 1), (1079, 391, 1), (1082, 395, 1), (1085, 407, 1), (1088, 425, 1), (1091, 503, 1), (1097, 506, 1), (1102, 508, 1), (1111, 507, 1), (1114, 509, 1), (1123, 510, 1), (1130, 513, 1), (1135, 511, 1), (1138, 512, 1), (1141, 514, 1), (1163, 515, 1), (1166, 517, 1), (1170, 519, 1), (1173, 518, 1), (1179, 520, 1)]
def dOT : Nat → List Nat := fun o => match o with
  | 0 => [3]
  | 1 => [5]
  | 2 => [5]
  | 3 => [5]
  | 4 => [3]
  | 5 => [3]
  | 6 => [1]
  | 7 => [3]
  | 8 => [3]
  | 9 => [3]
  | 10 => [3]
  | 11 => [3]
  | 12 => [3]
  | _ => [7]
def dCT : Nat → List (Nat × Nat) := fun o => match o with
  | 0 => []
  | 1 => []
  | 2 => []
  | 3 => [(37, 4)]
  | 4 => []
  | 5 => []
  | 6 => []
  | 7 => []
  | 8 => [(9, 9), (18, 10), (25, 1)]
  | 9 => []
  | 10 => []
  | 11 => []
  | 12 => [(20, 8), (30, 7), (39, 0), (46, 5), (53, 2), (60, 6), (67, 3), (76, 11)]
  | _ => []
def dKT : Nat → List (Nat × Nat) := fun o => match o with
  | 0 => []
  | 1 => []
  | 2 => []
  | 3 => [(239, 1000000)]
  | 4 => []
  | 5 => []
  | 6 => [(39, 524288)]
  | 7 => []
  | 8 => []
  | 9 => []
  | 10 => []
  | 11 => []
  | 12 => []
  | _ => [(213, 132000), (217, 33000), (257, 45000), (267, 34340), (271, 262144), (293, 2097152), (297, 65536), (304, 32768), (430, 1000000), (817, 131072), (824, 262143), (889, 40000), (985, 65535)]
def dJT : Nat → List (Nat × Nat) := fun o => match o with
  | 0 => []
  | 1 => []
  | 2 => [(80, 18446744073709551615), (157, 32), (159, 100)]
  | 3 => [(82, 1125899906842624), (269, 6), (287, 2)]
  | 4 => [(134, 24), (136, 31), (138, 25), (140, 26), (142, 27), (148, 511), (150, 18446744073709551615), (189, 512), (191, 2048), (205, 1099511627776), (207, 64), (215, 63)]
  | 5 => []
  | 6 => [(21, 131071), (37, 16383), (47, 11400714819323198485)]
  | 7 => [(225, 7), (227, 6)]
  | 8 => []
  | 9 => [(170, 1000000), (191, 1000), (197, 18446744073709551615), (215, 1152921504606846975), (217, 9223372036854775807), (219, 1844674407370955161), (221, 1844674407370955160)]
  | 10 => []
  | 11 => [(77, 10), (91, 5), (124, 18446744073709551615), (141, 20), (145, 21), (149, 22), (153, 23), (215, 24)]
  | 12 => [(233, 9223372036854775808)]
  | _ => [(398, 18446744073709551615), (408, 9223372036854775808), (410, 2), (412, 10), (424, 1000), (794, 32), (803, 100), (818, 66), (820, 70000), (822, 11400714819323198485), (873, 25), (875, 26), (877, 27), (879, 24), (881, 31), (932, 8), (986, 4096), (1100, 9), (1105, 15)]
def dNT : List (Nat × Nat × Nat) := [(0, 82, 297), (0, 90, 298), (1, 34, 297), (1, 132, 298), (2, 60, 297), (2, 64, 299), (2, 72, 301), (2, 99, 298), (2, 113, 303), (2, 143, 300), (2, 161, 304), (3, 74, 297), (3, 283, 298), (3, 289, 300), (3, 310, 299), (4, 61, 297), (4, 94, 299), (4, 120, 304), (4, 181, 300), (4, 185, 298), (5, 52, 298), (5, 67, 297), (6, 23, 300), (6, 33, 299), (7, 67, 298), (7, 198, 299), (7, 205, 297), (8, 89, 298), (8, 93, 297), (8, 160, 299), (9, 59, 303), (9, 66, 297), (9, 70, 301), (9, 84, 302), (9, 111, 298), (9, 125, 300), (9, 193, 304), (10, 55, 297), (10, 63, 298), (11, 42, 301), (11, 60, 303), (11, 83, 298), (11, 87, 297), (11, 217, 304)]
abbrev dMI : Type := Nat × MethodName × ByteArray × Nat × Option FieldType
def dMi_0 : List dMI := [(0, yX0_init, cX0_init, 2, none), (0, yX0_blamedToken, cX0_blamedToken, 1, (some .int)), (0, yX0_firstFault, cX0_firstFault, 3, (some .int)), (0, yX0_bind, cX0_bind, 3, none), (0, yX0_blame, cX0_blame, 4, none), (0, yX0_collect, cX0_collect, 5, none), (0, yX0_sameParams, cX0_sameParams, 5, (some .boolean)), (0, yX0_checkParams, cX0_checkParams, 6, none), (0, yX0_bindNode, cX0_bindNode, 5, none), (0, yX0_tellsGroup, cX0_tellsGroup, 6, (some .boolean)), (0, yX0_link, cX0_link, 6, none), (0, yX0_checkFloats, cX0_checkFloats, 2, none), (0, yX0_checkNode, cX0_checkNode, 3, none), (0, yX0_checkName, cX0_checkName, 5, none), (0, yX0_canUnwrap, cX0_canUnwrap, 4, (some .boolean)), (0, yX0_needNumber, cX0_needNumber, 2, none), (0, yX0_checkControl, cX0_checkControl, 5, none), (0, yX0_nameEntries, cX0_nameEntries, 7, none), (0, yX0_keepBoxes, cX0_keepBoxes, 2, none), (1, yX1_init, cX1_init, 2, none), (1, yX1_ruleOf, cX1_ruleOf, 2, (some .int)), (1, yX1_argumentOf, cX1_argumentOf, 3, (some .int)), (1, yX1_argumentPlace, cX1_argumentPlace, 3, (some .int)), (1, yX1_lead, cX1_lead, 5, (some .int)), (1, yX1_unwrap, cX1_unwrap, 6, none)]
def dMi_1 : List dMI := [(1, yX1_follow, cX1_follow, 6, none), (1, yX1_ledTo, cX1_ledTo, 2, (some .int)), (1, yX1_fill, cX1_fill, 3, (some .boolean)), (1, yX1_numberCalls, cX1_numberCalls, 4, none), (1, yX1_callAll, cX1_callAll, 6, (some .boolean)), (1, yX1_callStatement, cX1_callStatement, 8, (some .boolean)), (1, yX1_called, cX1_called, 7, (some .int)), (1, yX1_bindArgument, cX1_bindArgument, 8, none), (1, yX1_hasParams, cX1_hasParams, 4, (some .boolean)), (1, yX1_holdsParams, cX1_holdsParams, 3, (some .boolean)), (1, yX1_sameArguments, cX1_sameArguments, 4, (some .boolean)), (2, yX2_init, cX2_init, 1, none), (2, yX2_isTop, cX2_isTop, 2, (some .boolean)), (2, yX2_size, cX2_size, 1, (some .int)), (2, yX2_faultPlace, cX2_faultPlace, 1, (some .int)), (2, yX2_majorOf, cX2_majorOf, 2, (some .int)), (2, yX2_numberOf, cX2_numberOf, 2, (some .long)), (2, yX2_widthOf, cX2_widthOf, 2, (some .int)), (2, yX2_afterOf, cX2_afterOf, 2, (some .int)), (2, yX2_startOf, cX2_startOf, 2, (some .int)), (2, yX2_behindOf, cX2_behindOf, 2, (some .int)), (2, yX2_byteOf, cX2_byteOf, 4, (some .int)), (2, yX2_dataAt, cX2_dataAt, 2, (some .int)), (2, yX2_told, cX2_told, 4, (some .long)), (2, yX2_take, cX2_take, 4, (some .boolean))]
def dMi_2 : List dMI := [(2, yX2_readWhole, cX2_readWhole, 6, (some .boolean)), (2, yX2_open, cX2_open, 4, none), (2, yX2_within, cX2_within, 6, (some .int)), (2, yX2_bad, cX2_bad, 2, (some .int)), (2, yX2_readItem, cX2_readItem, 7, (some .int)), (2, yX2_readHead, cX2_readHead, 9, (some .int)), (2, yX2_readString, cX2_readString, 8, (some .int)), (2, yX2_behindBytes, cX2_behindBytes, 4, (some .int)), (2, yX2_readPartHead, cX2_readPartHead, 4, (some .int)), (2, yX2_partSize, cX2_partSize, 7, (some .long)), (2, yX2_partStart, cX2_partStart, 3, (some .int)), (2, yX2_readList, cX2_readList, 10, (some .int)), (3, yX3_init, cX3_init, 4, none), (3, yX3_obey, cX3_obey, 2, none), (3, yX3_says, cX3_says, 6, (some .boolean)), (3, yX3_goTo, cX3_goTo, 4, (some .int)), (3, yX3_look, cX3_look, 3, (some .int)), (3, yX3_set, cX3_set, 5, none), (3, yX3_push, cX3_push, 6, (some .int)), (3, yX3_enter, cX3_enter, 5, (some .int)), (3, yX3_enterNamed, cX3_enterNamed, 7, (some .int)), (3, yX3_leave, cX3_leave, 7, (some .int)), (3, yX3_kept, cX3_kept, 4, (some .int)), (3, yX3_check, cX3_check, 10, (some .int)), (3, yX3_enterArray, cX3_enterArray, 6, (some .int))]
def dMi_3 : List dMI := [(3, yX3_pushGroup, cX3_pushGroup, 7, none), (3, yX3_beginChoice, cX3_beginChoice, 3, none), (3, yX3_beginEntry, cX3_beginEntry, 3, none), (3, yX3_findGroup, cX3_findGroup, 3, none), (3, yX3_goOn, cX3_goOn, 5, (some .int)), (3, yX3_known, cX3_known, 6, (some .int)), (3, yX3_ended, cX3_ended, 5, (some .int)), (3, yX3_gained, cX3_gained, 5, (some .int)), (3, yX3_take, cX3_take, 5, none), (3, yX3_endEntry, cX3_endEntry, 4, none), (3, yX3_enterMap, cX3_enterMap, 6, (some .int)), (3, yX3_goFit, cX3_goFit, 4, (some .int)), (3, yX3_asksMore, cX3_asksMore, 3, (some .boolean)), (3, yX3_ask, cX3_ask, 6, (some .int)), (3, yX3_answered, cX3_answered, 5, (some .int)), (3, yX3_isGiven, cX3_isGiven, 4, (some .boolean)), (3, yX3_ways, cX3_ways, 14, (some .long)), (3, yX3_throughGroup, cX3_throughGroup, 16, (some .long)), (3, yX3_waysWithin, cX3_waysWithin, 7, (some .long)), (3, yX3_choicesOf, cX3_choicesOf, 3, (some .int)), (3, yX3_giveTo, cX3_giveTo, 16, (some .long)), (4, yX4_init, cX4_init, 3, none), (4, yX4_obey, cX4_obey, 2, none), (4, yX4_isSo, cX4_isSo, 5, (some .boolean)), (4, yX4_isTag, cX4_isTag, 5, (some .boolean))]
def dMi_4 : List dMI := [(4, yX4_compares, cX4_compares, 5, (some .boolean)), (4, yX4_isNumber, cX4_isNumber, 2, (some .boolean)), (4, yX4_inRange, cX4_inRange, 4, (some .boolean)), (4, yX4_compare, cX4_compare, 8, (some .int)), (4, yX4_hasBytes, cX4_hasBytes, 5, (some .boolean)), (4, yX4_isSimple, cX4_isSimple, 6, (some .boolean)), (4, yX4_hasSize, cX4_hasSize, 8, (some .boolean)), (4, yX4_hasBits, cX4_hasBits, 11, (some .boolean)), (4, yX4_mask, cX4_mask, 9, (some .long)), (4, yX4_maskOf, cX4_maskOf, 7, (some .long)), (4, yX4_maskNamed, cX4_maskNamed, 11, (some .long)), (4, yX4_maskControl, cX4_maskControl, 8, (some .long)), (4, yX4_sized, cX4_sized, 6, (some .long)), (4, yX4_withBits, cX4_withBits, 6, (some .long)), (4, yX4_maskLeaf, cX4_maskLeaf, 6, (some .long)), (4, yX4_numberOf, cX4_numberOf, 5, (some .long)), (4, yX4_range, cX4_range, 9, (some .long)), (5, yX5_init, cX5_init, 2, none), (5, yX5_firstLoop, cX5_firstLoop, 5, (some .int)), (5, yX5_meetsItself, cX5_meetsItself, 3, (some .boolean)), (5, yX5_ownBox, cX5_ownBox, 3, (some .int)), (5, yX5_context, cX5_context, 3, (some .int)), (5, yX5_reach, cX5_reach, 4, none), (5, yX5_see, cX5_see, 2, none), (5, yX5_leadOn, cX5_leadOn, 4, none)]
def dMi_5 : List dMI := [(5, yX5_leadOnIn, cX5_leadOnIn, 7, none), (5, yX5_groupsTooLarge, cX5_groupsTooLarge, 3, (some .boolean)), (5, yX5_countEntry, cX5_countEntry, 5, (some .int)), (5, yX5_countWithin, cX5_countWithin, 4, (some .int)), (5, yX5_weigh, cX5_weigh, 3, none), (5, yX5_markTied, cX5_markTied, 3, none), (5, yX5_tiesOf, cX5_tiesOf, 5, (some .int)), (5, yX5_placeEntries, cX5_placeEntries, 7, (some .int)), (5, yX5_pathsTooLong, cX5_pathsTooLong, 3, (some .boolean)), (5, yX5_raise, cX5_raise, 4, none), (5, yX5_measure, cX5_measure, 10, (some .int)), (5, yX5_measureArguments, cX5_measureArguments, 7, none), (5, yX5_pathTo, cX5_pathTo, 7, (some .int)), (5, yX5_behindName, cX5_behindName, 7, (some .int)), (6, yX6_init, cX6_init, 1, none), (6, yX6_renew, cX6_renew, 2, none), (6, yX6_key, cX6_key, 4, (some .long)), (6, yX6_find, cX6_find, 9, (some .int)), (6, yX6_keep, cX6_keep, 4, none), (6, yX6_settle, cX6_settle, 7, none), (6, yX6_grow, cX6_grow, 3, none), (6, yX6_slot, cX6_slot, 3, (some .int)), (7, yX7_init, cX7_init, 2, none), (7, yX7_failedToken, cX7_failedToken, 1, (some .int)), (7, yX7_readRules, cX7_readRules, 3, (some .boolean))]
def dMi_6 : List dMI := [(7, yX7_peek, cX7_peek, 1, (some .int)), (7, yX7_fail, cX7_fail, 1, (some .int)), (7, yX7_take, cX7_take, 2, (some .boolean)), (7, yX7_grow, cX7_grow, 4, (some .int)), (7, yX7_readStatement, cX7_readStatement, 6, (some .boolean)), (7, yX7_beginsBody, cX7_beginsBody, 1, (some .boolean)), (7, yX7_behindParams, cX7_behindParams, 5, (some .int)), (7, yX7_atStatementEnd, cX7_atStatementEnd, 2, (some .boolean)), (7, yX7_readTypeBody, cX7_readTypeBody, 7, (some .boolean)), (7, yX7_goBack, cX7_goBack, 6, none), (7, yX7_readType, cX7_readType, 1, (some .int)), (7, yX7_readChoices, cX7_readChoices, 5, (some .int)), (7, yX7_readType1, cX7_readType1, 8, (some .int)), (7, yX7_joined, cX7_joined, 5, (some .int)), (7, yX7_controlNamed, cX7_controlNamed, 2, (some .int)), (7, yX7_readType2, cX7_readType2, 2, (some .int)), (7, yX7_readParen, cX7_readParen, 3, (some .int)), (7, yX7_readBox, cX7_readBox, 8, (some .int)), (7, yX7_readAndGroup, cX7_readAndGroup, 4, (some .int)), (7, yX7_readHash, cX7_readHash, 9, (some .int)), (7, yX7_readName, cX7_readName, 7, (some .int)), (7, yX7_readArgument, cX7_readArgument, 3, (some .int)), (7, yX7_readGroup, cX7_readGroup, 5, (some .int)), (7, yX7_readEntries, cX7_readEntries, 5, (some .boolean)), (7, yX7_beginsEntry, cX7_beginsEntry, 1, (some .boolean))]
def dMi_7 : List dMI := [(7, yX7_readEntry, cX7_readEntry, 8, (some .int)), (7, yX7_isOnlyGroup, cX7_isOnlyGroup, 2, (some .boolean)), (7, yX7_noteOnlyGroup, cX7_noteOnlyGroup, 2, none), (7, yX7_readTyped, cX7_readTyped, 5, (some .boolean)), (7, yX7_readShortKey, cX7_readShortKey, 3, (some .int)), (8, yX8_init, cX8_init, 1, none), (8, yX8_keepPrelude, cX8_keepPrelude, 1, none), (8, yX8_begin, cX8_begin, 1, none), (8, yX8_addStatement, cX8_addStatement, 5, (some .int)), (8, yX8_addRule, cX8_addRule, 3, (some .int)), (8, yX8_ownRules, cX8_ownRules, 1, (some .int)), (8, yX8_numbered, cX8_numbered, 2, (some .int)), (8, yX8_firstNode, cX8_firstNode, 2, (some .int)), (8, yX8_endNode, cX8_endNode, 2, (some .int)), (8, yX8_headOf, cX8_headOf, 2, (some .int)), (8, yX8_nameByte, cX8_nameByte, 3, (some .int)), (8, yX8_nameSize, cX8_nameSize, 2, (some .int)), (8, yX8_paramsOf, cX8_paramsOf, 2, (some .int)), (8, yX8_isRule, cX8_isRule, 2, (some .boolean)), (8, yX8_isOwn, cX8_isOwn, 2, (some .boolean)), (8, yX8_isGroup, cX8_isGroup, 2, (some .boolean)), (8, yX8_ruleOfNode, cX8_ruleOfNode, 2, (some .int)), (8, yX8_paramToken, cX8_paramToken, 3, (some .int)), (8, yX8_ruleNamed, cX8_ruleNamed, 5, (some .int)), (8, yX8_paramNamed, cX8_paramNamed, 5, (some .int))]
def dMi_8 : List dMI := [(8, yX8_target, cX8_target, 5, (some .int)), (8, yX8_single, cX8_single, 4, (some .int)), (8, yX8_box, cX8_box, 6, (some .int)), (8, yX8_choices, cX8_choices, 4, (some .int)), (8, yX8_choicesTold, cX8_choicesTold, 3, (some .int)), (8, yX8_least, cX8_least, 3, (some .int)), (8, yX8_most, cX8_most, 3, (some .int)), (9, yX9_init, cX9_init, 1, none), (9, yX9_cutPrelude, cX9_cutPrelude, 2, none), (9, yX9_cutOwn, cX9_cutOwn, 4, none), (9, yX9_kindOf, cX9_kindOf, 2, (some .int)), (9, yX9_placeOf, cX9_placeOf, 2, (some .int)), (9, yX9_lastToken, cX9_lastToken, 1, (some .int)), (9, yX9_bodyByte, cX9_bodyByte, 3, (some .int)), (9, yX9_sameBody, cX9_sameBody, 7, (some .boolean)), (9, yX9_isWord, cX9_isWord, 6, (some .boolean)), (9, yX9_load, cX9_load, 5, (some .int)), (9, yX9_cut, cX9_cut, 6, none), (9, yX9_add, cX9_add, 3, none), (9, yX9_opensTooMuch, cX9_opensTooMuch, 2, (some .boolean)), (9, yX9_look, cX9_look, 2, (some .int)), (9, yX9_behindBlanks, cX9_behindBlanks, 5, (some .int)), (9, yX9_one, cX9_one, 4, (some .int)), (9, yX9_sign, cX9_sign, 3, (some .int)), (9, yX9_dots, cX9_dots, 2, (some .int))]
def dMi_9 : List dMI := [(9, yX9_slashes, cX9_slashes, 2, (some .int)), (9, yX9_named, cX9_named, 5, (some .int)), (9, yX9_numberAt, cX9_numberAt, 6, (some .int)), (9, yX9_occur, cX9_occur, 5, (some .int)), (9, yX9_anOccur, cX9_anOccur, 6, (some .int)), (9, yX9_hash, cX9_hash, 5, (some .int)), (9, yX9_behindUint, cX9_behindUint, 3, (some .int)), (9, yX9_behindZero, cX9_behindZero, 2, (some .int)), (9, yX9_behindDigits, cX9_behindDigits, 7, (some .int)), (9, yX9_mostBefore, cX9_mostBefore, 2, (some .long)), (9, yX9_behindFloat, cX9_behindFloat, 5, (some .int)), (9, yX9_behindPlain, cX9_behindPlain, 3, (some .int)), (9, yX9_quoted, cX9_quoted, 7, (some .int)), (9, yX9_hexBytes, cX9_hexBytes, 7, (some .int)), (9, yX9_closed, cX9_closed, 4, (some .int)), (9, yX9_addBody, cX9_addBody, 2, none), (9, yX9_escaped, cX9_escaped, 1, (some .int)), (9, yX9_isDigit, cX9_isDigit, 1, (some .boolean)), (9, yX9_digit, cX9_digit, 1, (some .int)), (9, yX9_sticks, cX9_sticks, 1, (some .boolean)), (9, yX9_startsName, cX9_startsName, 1, (some .boolean)), (9, yX9_goesOnName, cX9_goesOnName, 1, (some .boolean)), (10, yX10_init, cX10_init, 1, none), (10, yX10_add, cX10_add, 4, (some .int)), (10, yX10_kindOf, cX10_kindOf, 2, (some .int))]
def dMi_10 : List dMI := [(10, yX10_nextOf, cX10_nextOf, 2, (some .int)), (10, yX10_firstOf, cX10_firstOf, 2, (some .int)), (10, yX10_secondOf, cX10_secondOf, 2, (some .int)), (10, yX10_chainIn, cX10_chainIn, 3, (some .int)), (10, yX10_aloneIn, cX10_aloneIn, 3, (some .int)), (10, yX10_isName, cX10_isName, 3, (some .boolean)), (10, yX10_isEntry, cX10_isEntry, 3, (some .boolean)), (10, yX10_nameToken, cX10_nameToken, 2, (some .int)), (10, yX10_append, cX10_append, 5, none), (10, yX10_length, cX10_length, 4, (some .int)), (11, yX11_init, cX11_init, 2, none), (11, yX11_kept, cX11_kept, 2, (some .int)), (11, yX11_tell, cX11_tell, 2, (some .int)), (11, yX11_pack, cX11_pack, 2, (some .int)), (11, yX11_keepDraft, cX11_keepDraft, 1, (some .int)), (11, yX11_add, cX11_add, 2, none), (11, yX11_addWord, cX11_addWord, 3, none), (11, yX11_addHex, cX11_addHex, 6, none), (11, yX11_addNumber, cX11_addNumber, 7, none), (11, yX11_tenth, cX11_tenth, 2, (some .long)), (11, yX11_addItem, cX11_addItem, 5, none), (11, yX11_addNegative, cX11_addNegative, 3, none), (11, yX11_addSeven, cX11_addSeven, 4, none), (11, yX11_addList, cX11_addList, 8, none), (11, yX11_addString, cX11_addString, 6, none)]
def dMi_11 : List dMI := [(11, yX11_addBytes, cX11_addBytes, 7, none), (11, yX11_addSign, cX11_addSign, 2, none), (11, yX11_packItem, cX11_packItem, 8, none), (11, yX11_packFloat, cX11_packFloat, 4, none), (11, yX11_packHead, cX11_packHead, 5, none), (11, yX11_packNumber, cX11_packNumber, 5, none), (11, yX11_sortPairs, cX11_sortPairs, 9, none), (11, yX11_isBefore, cX11_isBefore, 8, (some .boolean)), (12, yX12_init, cX12_init, 1, none), (12, yX12_feed, cX12_feed, 6, (some .int)), (12, yX12_end, cX12_end, 2, (some .int)), (12, yX12_grammar, cX12_grammar, 5, (some .int)), (12, yX12_place, cX12_place, 1, (some .int)), (12, yX12_rule, cX12_rule, 4, (some .int)), (12, yX12_item, cX12_item, 2, (some .int)), (12, yX12_node, cX12_node, 3, (some .long)), (12, yX12_judge, cX12_judge, 4, (some .int)), (12, yX12_write, cX12_write, 2, (some .int)), (12, yX12_shorten, cX12_shorten, 2, (some .int)), (12, yX12_out, cX12_out, 2, (some .int)), (12, yX12_feedNumber, cX12_feedNumber, 3, none), (12, yX12_faulty, cX12_faulty, 3, (some .int)), (12, yX12_at, cX12_at, 2, (some .int)), (12, yX12_put, cX12_put, 3, none), (12, yX12_longAt, cX12_longAt, 2, (some .long))]
def dMi_12 : List dMI := [(12, yX12_putLong, cX12_putLong, 4, none), (12, yX12_byteAt, cX12_byteAt, 2, (some .int)), (12, yX12_putByte, cX12_putByte, 3, none), (12, yX12_copy, cX12_copy, 5, none), (12, yX12_below, cX12_below, 4, (some .boolean)), (13, yX13_init, cX13_init, 1, none), (13, yX13_feed, cX13_feed, 9, (some .int)), (13, yX13_end, cX13_end, 2, (some .int)), (13, yX13_fail, cX13_fail, 3, none), (13, yX13_byteAt, cX13_byteAt, 2, (some .int)), (13, yX13_isFigure, cX13_isFigure, 1, (some .boolean)), (13, yX13_isLetter, cX13_isLetter, 1, (some .boolean)), (13, yX13_isNameStart, cX13_isNameStart, 1, (some .boolean)), (13, yX13_isNameByte, cX13_isNameByte, 1, (some .boolean)), (13, yX13_hexOf, cX13_hexOf, 1, (some .int)), (13, yX13_skip, cX13_skip, 5, (some .int)), (13, yX13_blanks, cX13_blanks, 3, (some .int)), (13, yX13_scan, cX13_scan, 4, none), (13, yX13_tokenHere, cX13_tokenHere, 4, (some .int)), (13, yX13_nameHere, cX13_nameHere, 5, (some .int)), (13, yX13_uintHere, cX13_uintHere, 9, (some .int)), (13, yX13_isUnder, cX13_isUnder, 4, (some .boolean)), (13, yX13_quotient, cX13_quotient, 6, (some .long)), (13, yX13_floatHere, cX13_floatHere, 9, (some .int)), (13, yX13_numberHere, cX13_numberHere, 9, (some .int))]
def dMi_13 : List dMI := [(13, yX13_bound, cX13_bound, 2, (some .int)), (13, yX13_occurFrom, cX13_occurFrom, 7, (some .int)), (13, yX13_occurHere, cX13_occurHere, 4, (some .int)), (13, yX13_keepByte, cX13_keepByte, 2, none), (13, yX13_escaped, cX13_escaped, 1, (some .int)), (13, yX13_textHere, cX13_textHere, 7, (some .int)), (13, yX13_hexBytes, cX13_hexBytes, 8, (some .int)), (13, yX13_hashHere, cX13_hashHere, 5, (some .int)), (13, yX13_signHere, cX13_signHere, 9, (some .int)), (13, yX13_forgetEnds, cX13_forgetEnds, 3, none), (13, yX13_isAt, cX13_isAt, 3, (some .boolean)), (13, yX13_typeEnd, cX13_typeEnd, 4, (some .int)), (13, yX13_oneEnd, cX13_oneEnd, 4, (some .int)), (13, yX13_nameEnd, cX13_nameEnd, 5, (some .int)), (13, yX13_bracketsEnd, cX13_bracketsEnd, 6, (some .int)), (13, yX13_twoEnd, cX13_twoEnd, 3, (some .int)), (13, yX13_groupEnd, cX13_groupEnd, 6, (some .int)), (13, yX13_isValueToken, cX13_isValueToken, 2, (some .boolean)), (13, yX13_behindKey, cX13_behindKey, 4, (some .int)), (13, yX13_keyedEnd, cX13_keyedEnd, 5, (some .int)), (13, yX13_entryEnd, cX13_entryEnd, 5, (some .int)), (13, yX13_newNode, cX13_newNode, 4, (some .int)), (13, yX13_is, cX13_is, 2, (some .boolean)), (13, yX13_misplaced, cX13_misplaced, 1, none), (13, yX13_take, cX13_take, 2, none)]
def dMi_14 : List dMI := [(13, yX13_takeOpen, cX13_takeOpen, 2, none), (13, yX13_takeClose, cX13_takeClose, 2, none), (13, yX13_eat, cX13_eat, 2, (some .boolean)), (13, yX13_type, cX13_type, 4, (some .int)), (13, yX13_one, cX13_one, 2, (some .int)), (13, yX13_value, cX13_value, 3, (some .int)), (13, yX13_named, cX13_named, 5, (some .int)), (13, yX13_two, cX13_two, 3, (some .int)), (13, yX13_inBrackets, cX13_inBrackets, 5, (some .int)), (13, yX13_hash, cX13_hash, 5, (some .int)), (13, yX13_beginsEntry, cX13_beginsEntry, 2, (some .boolean)), (13, yX13_group, cX13_group, 4, (some .int)), (13, yX13_choice, cX13_choice, 4, (some .int)), (13, yX13_entry, cX13_entry, 6, (some .int)), (13, yX13_keyText, cX13_keyText, 3, none), (13, yX13_beginsRule, cX13_beginsRule, 4, (some .boolean)), (13, yX13_readRules, cX13_readRules, 5, none), (13, yX13_findRule, cX13_findRule, 6, (some .int)), (13, yX13_isSameName, cX13_isSameName, 5, (some .boolean)), (13, yX13_note, cX13_note, 3, none), (13, yX13_collectRules, cX13_collectRules, 7, none), (13, yX13_checkAgain, cX13_checkAgain, 7, none), (13, yX13_checkParams, cX13_checkParams, 5, none), (13, yX13_refOf, cX13_refOf, 6, (some .int)), (13, yX13_findRefs, cX13_findRefs, 6, none)]
def dMi_15 : List dMI := [(13, yX13_bareName, cX13_bareName, 3, (some .int)), (13, yX13_bareTwo, cX13_bareTwo, 3, (some .int)), (13, yX13_isGroupRef, cX13_isGroupRef, 2, (some .boolean)), (13, yX13_tellsGroup, cX13_tellsGroup, 3, (some .boolean)), (13, yX13_findKinds, cX13_findKinds, 4, none), (13, yX13_controlOf, cX13_controlOf, 5, (some .int)), (13, yX13_checkType, cX13_checkType, 5, none), (13, yX13_checkOne, cX13_checkOne, 8, none), (13, yX13_beginOf, cX13_beginOf, 2, (some .int)), (13, yX13_paramsOf, cX13_paramsOf, 2, (some .int)), (13, yX13_checkName, cX13_checkName, 5, none), (13, yX13_nameToken, cX13_nameToken, 2, (some .int)), (13, yX13_checkTwo, cX13_checkTwo, 5, none), (13, yX13_unwrapKind, cX13_unwrapKind, 9, (some .int)), (13, yX13_checkGroup, cX13_checkGroup, 4, none), (13, yX13_checkEntry, cX13_checkEntry, 4, none), (13, yX13_checkAll, cX13_checkAll, 3, none), (13, yX13_leadsFrom, cX13_leadsFrom, 4, none), (13, yX13_comesLater, cX13_comesLater, 2, none), (13, yX13_leadsBehind, cX13_leadsBehind, 4, none), (13, yX13_findRings, cX13_findRings, 5, none), (13, yX13_rowBehind, cX13_rowBehind, 4, (some .int)), (13, yX13_contentBehind, cX13_contentBehind, 4, (some .int)), (13, yX13_isInItself, cX13_isInItself, 5, (some .boolean)), (13, yX13_leadsTo, cX13_leadsTo, 5, (some .boolean))]
def dMi_16 : List dMI := [(13, yX13_nameLeadsTo, cX13_nameLeadsTo, 6, (some .boolean)), (13, yX13_hasParam, cX13_hasParam, 4, (some .boolean)), (13, yX13_hasBeside, cX13_hasBeside, 5, (some .boolean)), (13, yX13_argument, cX13_argument, 5, none), (13, yX13_instanceOf, cX13_instanceOf, 10, (some .int)), (13, yX13_use, cX13_use, 5, none), (13, yX13_useRule, cX13_useRule, 4, none), (13, yX13_findInstances, cX13_findInstances, 2, none), (13, yX13_whole, cX13_whole, 3, (some .int)), (13, yX13_ruleOfWhole, cX13_ruleOfWhole, 2, (some .int)), (13, yX13_envOfWhole, cX13_envOfWhole, 1, (some .int)), (13, yX13_capped, cX13_capped, 1, (some .int)), (13, yX13_entriesOfRule, cX13_entriesOfRule, 5, (some .int)), (13, yX13_entriesOfName, cX13_entriesOfName, 2, (some .int)), (13, yX13_entriesOfGroup, cX13_entriesOfGroup, 6, (some .int)), (13, yX13_entriesOfEntry, cX13_entriesOfEntry, 5, (some .int)), (13, yX13_unwrap, cX13_unwrap, 8, none), (13, yX13_tooMuch, cX13_tooMuch, 1, none), (13, yX13_most, cX13_most, 3, (some .int)), (13, yX13_pathOfWhole, cX13_pathOfWhole, 4, (some .int)), (13, yX13_pathOfName, cX13_pathOfName, 6, (some .int)), (13, yX13_isBegunAnew, cX13_isBegunAnew, 2, (some .boolean)), (13, yX13_measureInside, cX13_measureInside, 5, none), (13, yX13_pathBehind, cX13_pathBehind, 6, (some .int)), (13, yX13_pathOf, cX13_pathOf, 5, (some .int))]
def dMi_17 : List dMI := [(13, yX13_measure, cX13_measure, 3, none), (13, yX13_measureWhole, cX13_measureWhole, 3, none), (13, yX13_byteOf, cX13_byteOf, 2, (some .int)), (13, yX13_numberOf, cX13_numberOf, 6, (some .long)), (13, yX13_wideOf, cX13_wideOf, 1, (some .int)), (13, yX13_readItem, cX13_readItem, 12, (some .int)), (13, yX13_readBytes, cX13_readBytes, 12, none), (13, yX13_skipBytes, cX13_skipBytes, 3, none), (13, yX13_readRow, cX13_readRow, 14, none), (13, yX13_item, cX13_item, 6, (some .int)), (13, yX13_node, cX13_node, 5, (some .long)), (13, yX13_forgetKnown, cX13_forgetKnown, 2, none), (13, yX13_takenAt, cX13_takenAt, 7, (some .int)), (13, yX13_keepTaken, cX13_keepTaken, 6, none), (13, yX13_isType, cX13_isType, 6, (some .boolean)), (13, yX13_isOne, cX13_isOne, 7, (some .boolean)), (13, yX13_compareToNode, cX13_compareToNode, 9, (some .int)), (13, yX13_isSameBytes, cX13_isSameBytes, 5, (some .boolean)), (13, yX13_isTwo, cX13_isTwo, 5, (some .boolean)), (13, yX13_isSeven, cX13_isSeven, 4, (some .boolean)), (13, yX13_isName, cX13_isName, 7, (some .boolean)), (13, yX13_knownAt, cX13_knownAt, 4, (some .int)), (13, yX13_ownPlace, cX13_ownPlace, 2, (some .int)), (13, yX13_isRule, cX13_isRule, 9, (some .boolean)), (13, yX13_isPrelude, cX13_isPrelude, 5, (some .boolean))]
def dMi_18 : List dMI := [(13, yX13_isUnwrapped, cX13_isUnwrapped, 4, (some .boolean)), (13, yX13_isIn, cX13_isIn, 7, (some .boolean)), (13, yX13_isOneOf, cX13_isOneOf, 4, (some .boolean)), (13, yX13_isOneIn, cX13_isOneIn, 7, (some .boolean)), (13, yX13_isOneOfEntry, cX13_isOneOfEntry, 7, (some .boolean)), (13, yX13_isOneOfRule, cX13_isOneOfRule, 8, (some .boolean)), (13, yX13_groupSort, cX13_groupSort, 5, (some .int)), (13, yX13_numberItem, cX13_numberItem, 4, (some .int)), (13, yX13_isNumberAs, cX13_isNumberAs, 7, (some .boolean)), (13, yX13_isControlled, cX13_isControlled, 6, (some .boolean)), (13, yX13_isSmall, cX13_isSmall, 7, (some .boolean)), (13, yX13_areBits, cX13_areBits, 7, (some .boolean)), (13, yX13_isInside, cX13_isInside, 6, (some .boolean)), (13, yX13_readInside, cX13_readInside, 11, (some .boolean)), (13, yX13_isRow, cX13_isRow, 5, (some .boolean)), (13, yX13_takeGroup, cX13_takeGroup, 6, (some .int)), (13, yX13_takeChoices, cX13_takeChoices, 7, (some .int)), (13, yX13_takeEntry, cX13_takeEntry, 8, (some .int)), (13, yX13_takeOnce, cX13_takeOnce, 6, (some .int)), (13, yX13_takeRule, cX13_takeRule, 7, (some .int)), (13, yX13_takeTold, cX13_takeTold, 8, (some .int)), (13, yX13_findRow, cX13_findRow, 4, (some .int)), (13, yX13_collectGroup, cX13_collectGroup, 5, none), (13, yX13_collectEntry, cX13_collectEntry, 4, none), (13, yX13_collectName, cX13_collectName, 7, none)]
def dMi_19 : List dMI := [(13, yX13_isKey, cX13_isKey, 5, (some .boolean)), (13, yX13_isMap, cX13_isMap, 15, (some .boolean)), (13, yX13_newSet, cX13_newSet, 3, (some .int)), (13, yX13_add, cX13_add, 3, none), (13, yX13_has, cX13_has, 3, (some .boolean)), (13, yX13_isEmpty, cX13_isEmpty, 4, (some .boolean)), (13, yX13_nextState, cX13_nextState, 6, (some .int)), (13, yX13_join, cX13_join, 4, none), (13, yX13_turnOver, cX13_turnOver, 4, none), (13, yX13_forgetWays, cX13_forgetWays, 2, none), (13, yX13_wayAt, cX13_wayAt, 4, (some .int)), (13, yX13_wayKey, cX13_wayKey, 3, (some .long)), (13, yX13_joinKnown, cX13_joinKnown, 7, (some .boolean)), (13, yX13_keepWay, cX13_keepWay, 6, none), (13, yX13_canGive, cX13_canGive, 7, (some .boolean)), (13, yX13_throughGroup, cX13_throughGroup, 10, none), (13, yX13_throughList, cX13_throughList, 9, none), (13, yX13_throughName, cX13_throughName, 6, none), (13, yX13_throughRule, cX13_throughRule, 11, none), (13, yX13_throughEntry, cX13_throughEntry, 9, none), (13, yX13_throughPairs, cX13_throughPairs, 13, none), (13, yX13_throughTimes, cX13_throughTimes, 11, none), (13, yX13_part, cX13_part, 6, none), (13, yX13_throughOnce, cX13_throughOnce, 7, none), (13, yX13_layPrelude, cX13_layPrelude, 2, none)]
def dMi_20 : List dMI := [(13, yX13_mean, cX13_mean, 2, none), (13, yX13_grammar, cX13_grammar, 3, (some .int)), (13, yX13_place, cX13_place, 1, (some .int)), (13, yX13_choicesOf, cX13_choicesOf, 6, (some .int)), (13, yX13_rule, cX13_rule, 7, (some .int)), (13, yX13_judge, cX13_judge, 3, (some .int)), (13, yX13_say, cX13_say, 2, none), (13, yX13_sayAll, cX13_sayAll, 3, none), (13, yX13_sayNumber, cX13_sayNumber, 5, none), (13, yX13_sayHex, cX13_sayHex, 6, none), (13, yX13_sayBytes, cX13_sayBytes, 6, none), (13, yX13_sayParts, cX13_sayParts, 8, none), (13, yX13_sayRow, cX13_sayRow, 5, none), (13, yX13_sayItem, cX13_sayItem, 2, none), (13, yX13_saySimple, cX13_saySimple, 3, none), (13, yX13_keepDraft, cX13_keepDraft, 2, (some .int)), (13, yX13_write, cX13_write, 5, (some .int)), (13, yX13_head, cX13_head, 6, none), (13, yX13_shortItem, cX13_shortItem, 5, none), (13, yX13_shortMap, cX13_shortMap, 10, none), (13, yX13_isKeyUnder, cX13_isKeyUnder, 7, (some .boolean)), (13, yX13_shorten, cX13_shorten, 2, (some .int)), (13, yX13_out, cX13_out, 2, (some .int))]
def dMis : List dMI := dMi_0 ++ (dMi_1 ++ (dMi_2 ++ (dMi_3 ++ (dMi_4 ++ (dMi_5 ++ (dMi_6 ++ (dMi_7 ++ (dMi_8 ++ (dMi_9 ++ (dMi_10 ++ (dMi_11 ++ (dMi_12 ++ (dMi_13 ++ (dMi_14 ++ (dMi_15 ++ (dMi_16 ++ (dMi_17 ++ (dMi_18 ++ (dMi_19 ++ (dMi_20))))))))))))))))))))
def dHT : List (MethodName × List (Nat × Nat × Nat × Nat)) := [(yX13_item, [(105, 170, 173, 13)]), (yX13_readInside, [(91, 271, 274, 13)]), (yX13_grammar, [(68, 95, 98, 13)]), (yX13_write, [(31, 45, 48, 13)])]
def dXN : List (Nat × Nat × Nat × Nat × Nat) := [(13, 13, 15, 35, 17)]
def dWith : List Nat := [434, 463, 501, 516]
/-- where texts are loaded: class, place, number of the text -/
def dSR : List (Nat × Nat × Nat) := [(7, 161, 0), (7, 167, 1), (7, 169, 2), (7, 171, 3), (7, 173, 4), (7, 175, 5), (7, 177, 6), (7, 179, 7), (7, 181, 8), (7, 183, 9), (7, 185, 10), (7, 187, 11), (7, 189, 12), (9, 35, 13), (9, 41, 14), (9, 43, 15), (9, 45, 16), (9, 47, 17), (9, 49, 18), (11, 126, 19), (11, 132, 20), (11, 134, 21), (11, 136, 22), (11, 143, 23), (11, 147, 24), (11, 151, 25), (11, 155, 26), (11, 157, 27), (11, 159, 28), (11, 164, 29), (11, 166, 30), (11, 181, 31), (11, 186, 32), (11, 188, 33), (11, 196, 34), (13, 15, 35), (13, 444, 36), (13, 603, 37), (13, 1055, 38), (13, 1107, 39), (13, 1109, 40), (13, 1117, 41), (13, 1119, 42), (13, 1121, 43), (13, 1126, 44), (13, 1128, 45), (13, 1133, 46), (13, 1144, 47), (13, 1146, 48), (13, 1148, 49), (13, 1150, 50), (13, 1152, 51), (13, 1154, 52), (13, 1156, 53), (13, 1158, 54)]
def dTn : List String := ["size", "bits", "cbor", "cborseq", "within", "and", "lt", "le", "gt", "ge", "eq", "ne", "default", "any = # uint = #0 nint = #1 int = uint / nint bstr = #2 bytes = #2 tstr = #3 text = #3 tdate = #6.0(tstr) time = #6.1(number) number = int / float ", "biguint = #6.2(bstr) bignint = #6.3(bstr) bigint = biguint / bignint integer = int / bigint unsigned = uint / biguint decfrac = #6.4([e10: int, m: integer]) ", "bigfloat = #6.5([e2: int, m: integer]) eb64url = #6.21(any) eb64legacy = #6.22(any) eb16 = #6.23(any) encoded-cbor = #6.24(bstr) uri = #6.32(tstr) ", "b64url = #6.33(tstr) b64legacy = #6.34(tstr) regexp = #6.35(tstr) mime-message = #6.36(tstr) cbor-any = #6.55799(any) float16 = #7.25 float32 = #7.26 ", "float64 = #7.27 float16-32 = float16 / float32 float32-64 = float32 / float64 float = float16-32 / float64 ", "false = #7.20 true = #7.21 bool = false / true nil = #7.22 null = #7.22 undefined = #7.23 ", "18446744073709551616", "float16(0x", "float32(0x", "float64(0x", "false", "true", "null", "undefined", "simple(", "_ ", ": ", ", ", "(_ ", "h'", "\"", "\\x", "stop", "(){}[]<>,:^~&", "size bits cbor cborseq within and lt le gt ge eq ne default ", "any=# uint=#0 nint=#1 int=uint/nint bstr=#2 bytes=#2 tstr=#3 text=#3 tdate=#6.0(tstr) time=#6.1(number) number=int/float biguint=#6.2(bstr) bignint=#6.3(bstr) bigint=biguint/bignint integer=int/bigint unsigned=uint/biguint decfrac=#6.4([e10:int,m:integer]) bigfloat=#6.5([e2:int,m:integer]) eb64url=#6.21(any) eb64legacy=#6.22(any) eb16=#6.23(any) encoded-cbor=#6.24(bstr) uri=#6.32(tstr) b64url=#6.33(tstr) b64legacy=#6.34(tstr) regexp=#6.35(tstr) mime-message=#6.36(tstr) cbor-any=#6.55799(any) float16=#7.25 float32=#7.26 float64=#7.27 float16-32=float16/float32 float32-64=float32/float64 float=float16-32/float64 false=#7.20 true=#7.21 bool=false/true nil=#7.22 null=#7.22 undefined=#7.23", "h'", "\"", "\\x", "(_ ", ", ", "_ ", ": ", "18446744073709551616", "float16(0x", "float32(0x", "float64(0x", "false", "true", "null", "undefined", "simple("]
/-- where length(), charAt() and indexOf() are called -/
def dSM : List (Nat × Nat × Nat) := [(9, 74, 1), (9, 80, 2), (11, 64, 1), (11, 69, 2), (13, 446, 3), (13, 605, 1), (13, 608, 2)]
/-- where max and min are called -/
def dMM : List (Nat × Nat × Nat) := [(2, 134, 2), (3, 261, 1), (3, 304, 2), (4, 209, 3), (4, 217, 4), (5, 166, 1)]
/-- where System.arraycopy is called -/
def dAC : List (Nat × Nat) := [(12, 227)]
/-- where Integer.bitCount is called -/
def dBC : List (Nat × Nat) := [(3, 320)]
def dWC9 : List Cond := [.native arraycopyName, .static arraycopyName, .initialized "java/lang/System"]
def dStr : List (Nat × Nat) := [(4, 31405972911805106489862914048), (4, 35731509180791600423899234304), (4, 35415946503753546195493978112), (7, 588787215039039984889134210630025216), (6, 2239416340640141640511735583473664), (3, 121413831608753728270630912), (2, 549786760372839476363264), (2, 478951263129794798157824), (2, 549694526652470928605184), (2, 478859029409426250399744), (2, 535490533715714573860864), (2, 478988156617942217261056), (7, 604506235666083744203163369216147456), (147, 2400109611035358571551659714172276372446051942110115846352448895271921056632910127196361919807753197414681089606255656086508533251367874474797039963528644434757535995250380265728415283581866462161581270641046640395702852114447491882391864629187946951027344852890674200201750823630481706236122456822019043624450964110741882792767653747974031719870571199293559894475320328192), (157, 2875356618791405526016292534695630202107375528570537643906120950715486713066748273660514899042423763082905287997985450640342880478329133008743470148074856756998781091432312804494950929565470863722616510006902748806275694607249832695332991066554151289731230560573082012805618604657713081104578542557954301354998510183255916132085698169262692526526337186277722956057117267544458281161687890554519552), (147, 2378462955333718511567818932782630705771777240052167906864170127002072137751094794488409864290561086430036552042142876459474370745526801825614806721168352761852415699888206776411851658664931356389185987764835610968510525077376802272972197380700420453615741639367403715726074363403663467866086513673950273364505621278755261732578382750765273497275211428056628156877114441728), (150, 39965775337087323412219648462419320496672846933820687727105203802191816444255738829868369491809851548396751299529705549692809884234802893619521004456830104786191673043082314726306762650841905674174275836233574335663541546616300636353925411377414296496122843767952364925467343411468674754490531754826698519854981129188936525533515969845300871804855357941300007235266557359358476288), (107, 1114975357432280033239415539996021826569238207193813811829860698495606277761120669590877114044906895367983917274631008527827744726571059424617655950356209835359680549654489741557522105578977367565280243664849344734264253648019160880263808309140214874228688332448053254590300160), (90, 12797710955846014217545734591746494552042843310699038724135460680631953639653947531226519111663404402213660744058232820538308414480494129904913546628206276009708959596613999561025264969445301116584511323359809356264125949016243823443968), (20, 5707108264466301881958707732440218924035530615740400319574833102848), (10, 10469861315930355093535920324065068486492160), (10, 10469861295201732478603913150790977672183808), (10, 10469861305647173424484523419123812084482048), (5, 8037766214009787893676117065728), (4, 31399970802452123244505858048), (4, 33555499595243991229685301248), (9, 34163062010088222040612740047007882674176), (7, 209748989147505448587410694859653120), (2, 152868168138831054241792), (2, 152185638608103800832000), (2, 151927384191071867109376), (3, 39134988913303698267963392), (2, 186090754215581956702208), (1, 627189298506124754944), (2, 568381078399138704392192), (4, 34797061781855452891011088384), (13, 56258496393314510304047169346553111424743034060800), (60, 7300562859815159478833954741257515135111724177334999027093376468533214841807624641177878550035834301293968431497968815312068025945691493880599379116673724217032704), (693, 30006262121887721430941714223921260086017577600179902060818531358741894326598888192049859814267439656405941559615067319356046321795265418082429843582966331640391411243340248007405222653256950635899951522248625660357039293769342676716905138262049642947036675019595293713478594115102257080268763937978464353390209966001681721038437374756768752129913407236894956540313862739340127676469737257146842395445915649393217629042257738038731448558701174377893328252645821875749977591300868823411820683096038919629761041629027799048959646945748801759995214005805043690068009775767676362335778641153916405533338203930470863085973927925229445702909875838129253111569862187635647575307589769184978902164698467533751172935705961847086104252604600761163907701079723078855807664686570562421754543797403290120907690532147308070765931876884503885181272359208422134771661736914544215606786789240911396610526860477736791082654902908889653159890767841810335873649158019013650154045498513883935865800079329375811223875965051428191143806670595741210944135995885685498656005511981706830161409538464482322518524163179371890761667867246750922817537285973037494927205186211210959796093346809990147515277624056946350347631538278622665036885604145754441515448387265538570840512053953444153217385899210830279330780335204399381262722769218650794785014704496900464956309235462787579611942861032646532391356431807762218607744256784765386293208552480879728454534078731339851707851135159718182009595361342817325894442957981230681924095043072788557968467090367854272774984681122475417049306776218370099908545932869106880354609352818076984809976237484209187761241036404083065036672318836060723271170977477330791931415309058048), (2, 186090754215581956702208), (1, 627189298506124754944), (2, 568381078399138704392192), (3, 39134988913303698267963392), (2, 151927384191071867109376), (2, 152868168138831054241792), (2, 152185638608103800832000), (20, 5707108264466301881958707732440218924035530615740400319574833102848), (10, 10469861315930355093535920324065068486492160), (10, 10469861295201732478603913150790977672183808), (10, 10469861305647173424484523419123812084482048), (5, 8037766214009787893676117065728), (4, 31399970802452123244505858048), (4, 33555499595243991229685301248), (9, 34163062010088222040612740047007882674176), (7, 209748989147505448587410694859653120)]
end
section
/-! ===== the JDK methods that texts of constants reach (names and decode rows: the printed ones of this claim) ===== -/
def RJ0 : String := "java/lang/String"
def RJ1 : String := "java/lang/StringLatin1"
def RJ3 : String := "jdk/internal/util/Preconditions"
abbrev cJ0_coder_7d493 : ByteArray := prog_22_method_152_code
def yJ0_coder_7d493 : MethodName := ⟨RJ0, "coder", "()B"⟩
abbrev cJ0_length_8abf5 : ByteArray := prog_22_method_54_code
def yJ0_length_8abf5 : MethodName := ⟨RJ0, "length", "()I"⟩
abbrev cJ0_isLatin1_aae02 : ByteArray := prog_22_method_154_code
def yJ0_isLatin1_aae02 : MethodName := ⟨RJ0, "isLatin1", "()Z"⟩
abbrev cJ0_checkIndex_df160 : ByteArray := prog_22_method_155_code
def yJ0_checkIndex_df160 : MethodName := ⟨RJ0, "checkIndex", "(II)V"⟩
abbrev cJ0_charAt_5068e : ByteArray := prog_22_method_56_code
def yJ0_charAt_5068e : MethodName := ⟨RJ0, "charAt", "(I)C"⟩
abbrev cJ1_charAt_3b067 : ByteArray := prog_23_method_2_code
def yJ1_charAt_3b067 : MethodName := ⟨RJ1, "charAt", "([BI)C"⟩
abbrev cJ3_checkIndex_8e157 : ByteArray := prog_27_method_11_code
def yJ3_checkIndex_8e157 : MethodName := ⟨RJ3, "checkIndex", "(IILjava/util/function/BiFunction;)I"⟩
theorem dJ0_coder_7d493_0 : decode cJ0_coder_7d493 0 = .ok (.getstatic 38, 3) := by decide +kernel
theorem dJ0_coder_7d493_3 : decode cJ0_coder_7d493 3 = .ok (.ifCond .eq 10, 3) := by decide +kernel
theorem dJ0_coder_7d493_6 : decode cJ0_coder_7d493 6 = .ok (.aload_n 0, 1) := by decide +kernel
theorem dJ0_coder_7d493_7 : decode cJ0_coder_7d493 7 = .ok (.getfield 15, 3) := by decide +kernel
theorem dJ0_coder_7d493_10 : decode cJ0_coder_7d493 10 = .ok (.goto 4, 3) := by decide +kernel
theorem dJ0_coder_7d493_13 : decode cJ0_coder_7d493 13 = .ok (.iconst 1, 1) := by decide +kernel
theorem dJ0_coder_7d493_14 : decode cJ0_coder_7d493 14 = .ok (.ireturn, 1) := by decide +kernel
theorem dJ0_length_8abf5_0 : decode cJ0_length_8abf5 0 = .ok (.aload_n 0, 1) := by decide +kernel
theorem dJ0_length_8abf5_1 : decode cJ0_length_8abf5 1 = .ok (.getfield 9, 3) := by decide +kernel
theorem dJ0_length_8abf5_4 : decode cJ0_length_8abf5 4 = .ok (.arraylength, 1) := by decide +kernel
theorem dJ0_length_8abf5_5 : decode cJ0_length_8abf5 5 = .ok (.aload_n 0, 1) := by decide +kernel
theorem dJ0_length_8abf5_6 : decode cJ0_length_8abf5 6 = .ok (.invokevirtual 335, 3) := by decide +kernel
theorem dJ0_length_8abf5_9 : decode cJ0_length_8abf5 9 = .ok (.ishr, 1) := by decide +kernel
theorem dJ0_length_8abf5_10 : decode cJ0_length_8abf5 10 = .ok (.ireturn, 1) := by decide +kernel
theorem dJ0_isLatin1_aae02_0 : decode cJ0_isLatin1_aae02 0 = .ok (.getstatic 38, 3) := by decide +kernel
theorem dJ0_isLatin1_aae02_3 : decode cJ0_isLatin1_aae02 3 = .ok (.ifCond .eq 14, 3) := by decide +kernel
theorem dJ0_isLatin1_aae02_6 : decode cJ0_isLatin1_aae02 6 = .ok (.aload_n 0, 1) := by decide +kernel
theorem dJ0_isLatin1_aae02_7 : decode cJ0_isLatin1_aae02 7 = .ok (.getfield 15, 3) := by decide +kernel
theorem dJ0_isLatin1_aae02_10 : decode cJ0_isLatin1_aae02 10 = .ok (.ifCond .ne 7, 3) := by decide +kernel
theorem dJ0_isLatin1_aae02_13 : decode cJ0_isLatin1_aae02 13 = .ok (.iconst 1, 1) := by decide +kernel
theorem dJ0_isLatin1_aae02_14 : decode cJ0_isLatin1_aae02 14 = .ok (.goto 4, 3) := by decide +kernel
theorem dJ0_isLatin1_aae02_17 : decode cJ0_isLatin1_aae02 17 = .ok (.iconst 0, 1) := by decide +kernel
theorem dJ0_isLatin1_aae02_18 : decode cJ0_isLatin1_aae02 18 = .ok (.ireturn, 1) := by decide +kernel
theorem dJ0_checkIndex_df160_0 : decode cJ0_checkIndex_df160 0 = .ok (.iload_n 0, 1) := by decide +kernel
theorem dJ0_checkIndex_df160_1 : decode cJ0_checkIndex_df160 1 = .ok (.iload_n 1, 1) := by decide +kernel
theorem dJ0_checkIndex_df160_2 : decode cJ0_checkIndex_df160 2 = .ok (.getstatic 1053, 3) := by decide +kernel
theorem dJ0_checkIndex_df160_5 : decode cJ0_checkIndex_df160 5 = .ok (.invokestatic 1059, 3) := by decide +kernel
theorem dJ0_checkIndex_df160_8 : decode cJ0_checkIndex_df160 8 = .ok (.pop, 1) := by decide +kernel
theorem dJ0_checkIndex_df160_9 : decode cJ0_checkIndex_df160 9 = .ok (.return_, 1) := by decide +kernel
theorem dJ0_charAt_5068e_0 : decode cJ0_charAt_5068e 0 = .ok (.aload_n 0, 1) := by decide +kernel
theorem dJ0_charAt_5068e_1 : decode cJ0_charAt_5068e 1 = .ok (.invokevirtual 492, 3) := by decide +kernel
theorem dJ0_charAt_5068e_4 : decode cJ0_charAt_5068e 4 = .ok (.ifCond .eq 12, 3) := by decide +kernel
theorem dJ0_charAt_5068e_7 : decode cJ0_charAt_5068e 7 = .ok (.aload_n 0, 1) := by decide +kernel
theorem dJ0_charAt_5068e_8 : decode cJ0_charAt_5068e 8 = .ok (.getfield 9, 3) := by decide +kernel
theorem dJ0_charAt_5068e_11 : decode cJ0_charAt_5068e 11 = .ok (.iload_n 1, 1) := by decide +kernel
theorem dJ0_charAt_5068e_12 : decode cJ0_charAt_5068e 12 = .ok (.invokestatic 495, 3) := by decide +kernel
theorem dJ0_charAt_5068e_15 : decode cJ0_charAt_5068e 15 = .ok (.ireturn, 1) := by decide +kernel
theorem dJ0_charAt_5068e_16 : decode cJ0_charAt_5068e 16 = .ok (.aload_n 0, 1) := by decide +kernel
theorem dJ0_charAt_5068e_17 : decode cJ0_charAt_5068e 17 = .ok (.getfield 9, 3) := by decide +kernel
theorem dJ0_charAt_5068e_20 : decode cJ0_charAt_5068e 20 = .ok (.iload_n 1, 1) := by decide +kernel
theorem dJ0_charAt_5068e_21 : decode cJ0_charAt_5068e 21 = .ok (.invokestatic 498, 3) := by decide +kernel
theorem dJ0_charAt_5068e_24 : decode cJ0_charAt_5068e 24 = .ok (.ireturn, 1) := by decide +kernel
theorem dJ1_charAt_3b067_0 : decode cJ1_charAt_3b067 0 = .ok (.iload_n 1, 1) := by decide +kernel
theorem dJ1_charAt_3b067_1 : decode cJ1_charAt_3b067 1 = .ok (.aload_n 0, 1) := by decide +kernel
theorem dJ1_charAt_3b067_2 : decode cJ1_charAt_3b067 2 = .ok (.arraylength, 1) := by decide +kernel
theorem dJ1_charAt_3b067_3 : decode cJ1_charAt_3b067 3 = .ok (.invokestatic 9, 3) := by decide +kernel
theorem dJ1_charAt_3b067_6 : decode cJ1_charAt_3b067 6 = .ok (.aload_n 0, 1) := by decide +kernel
theorem dJ1_charAt_3b067_7 : decode cJ1_charAt_3b067 7 = .ok (.iload_n 1, 1) := by decide +kernel
theorem dJ1_charAt_3b067_8 : decode cJ1_charAt_3b067 8 = .ok (.baload, 1) := by decide +kernel
theorem dJ1_charAt_3b067_9 : decode cJ1_charAt_3b067 9 = .ok (.sipush 255, 3) := by decide +kernel
theorem dJ1_charAt_3b067_12 : decode cJ1_charAt_3b067 12 = .ok (.iand, 1) := by decide +kernel
theorem dJ1_charAt_3b067_13 : decode cJ1_charAt_3b067 13 = .ok (.i2c, 1) := by decide +kernel
theorem dJ1_charAt_3b067_14 : decode cJ1_charAt_3b067 14 = .ok (.ireturn, 1) := by decide +kernel
theorem dJ3_checkIndex_8e157_0 : decode cJ3_checkIndex_8e157 0 = .ok (.iload_n 0, 1) := by decide +kernel
theorem dJ3_checkIndex_8e157_1 : decode cJ3_checkIndex_8e157 1 = .ok (.ifCond .lt 8, 3) := by decide +kernel
theorem dJ3_checkIndex_8e157_4 : decode cJ3_checkIndex_8e157 4 = .ok (.iload_n 0, 1) := by decide +kernel
theorem dJ3_checkIndex_8e157_5 : decode cJ3_checkIndex_8e157 5 = .ok (.iload_n 1, 1) := by decide +kernel
theorem dJ3_checkIndex_8e157_6 : decode cJ3_checkIndex_8e157 6 = .ok (.if_icmp .lt 10, 3) := by decide +kernel
theorem dJ3_checkIndex_8e157_9 : decode cJ3_checkIndex_8e157 9 = .ok (.aload_n 2, 1) := by decide +kernel
theorem dJ3_checkIndex_8e157_10 : decode cJ3_checkIndex_8e157 10 = .ok (.iload_n 0, 1) := by decide +kernel
theorem dJ3_checkIndex_8e157_11 : decode cJ3_checkIndex_8e157 11 = .ok (.iload_n 1, 1) := by decide +kernel
theorem dJ3_checkIndex_8e157_12 : decode cJ3_checkIndex_8e157 12 = .ok (.invokestatic 95, 3) := by decide +kernel
theorem dJ3_checkIndex_8e157_15 : decode cJ3_checkIndex_8e157 15 = .ok (.athrow, 1) := by decide +kernel
theorem dJ3_checkIndex_8e157_16 : decode cJ3_checkIndex_8e157 16 = .ok (.iload_n 0, 1) := by decide +kernel
theorem dJ3_checkIndex_8e157_17 : decode cJ3_checkIndex_8e157 17 = .ok (.ireturn, 1) := by decide +kernel
end
section
/-! ===== texts of constants: the JDK's length() and charAt() on them ===== -/
def dTJ : List Cond := [.code yJ0_coder_7d493 cJ0_coder_7d493 1 (some .byte), .code yJ0_length_8abf5 cJ0_length_8abf5 1 (some .int), .code yJ0_isLatin1_aae02 cJ0_isLatin1_aae02 1 (some .boolean), .code yJ0_checkIndex_df160 cJ0_checkIndex_df160 2 none, .code yJ0_charAt_5068e cJ0_charAt_5068e 2 (some .char), .code yJ1_charAt_3b067 cJ1_charAt_3b067 2 (some .char), .code yJ3_checkIndex_8e157 cJ3_checkIndex_8e157 3 (some .int),
  .fieldLink RJ0 38 "java/lang/String" "COMPACT_STRINGS" "Z", .fieldLink RJ0 15 "java/lang/String" "coder" "B", .fieldLink RJ0 9 "java/lang/String" "value" "[B", .fieldLink RJ0 1053 "jdk/internal/util/Preconditions" "SIOOBE_FORMATTER" "Ljava/util/function/BiFunction;",
  .methodLink RJ0 335 yJ0_coder_7d493, .instanceMethod yJ0_coder_7d493, .selects RJ0 yJ0_coder_7d493 yJ0_coder_7d493, .methodLink RJ0 492 yJ0_isLatin1_aae02, .instanceMethod yJ0_isLatin1_aae02, .selects RJ0 yJ0_isLatin1_aae02 yJ0_isLatin1_aae02, .initialized RJ0, .initialized RJ1, .initialized RJ3,
  .methodLink RJ0 495 yJ1_charAt_3b067, .static yJ1_charAt_3b067, .methodLink RJ1 9 yJ0_checkIndex_df160, .static yJ0_checkIndex_df160, .methodLink RJ0 1059 yJ3_checkIndex_8e157, .static yJ3_checkIndex_8e157,
  .instanceMethod yJ0_length_8abf5, .selects RJ0 yJ0_length_8abf5 yJ0_length_8abf5, .instanceMethod yJ0_charAt_5068e, .selects RJ0 yJ0_charAt_5068e yJ0_charAt_5068e]
theorem dTJ_good : dTJ.all goodWord = true := by decide +kernel
theorem dGJ {Ts : List Cond} {k : Cond} (hT : ∀ w ∈ dTJ, w ∈ Ts) (hk : k ∈ dTJ) : GoodIn Ts (k :: dTJ) := by
  intro w hw
  have h : w ∈ dTJ := by
    rcases List.mem_cons.mp hw with rfl | h
    · exact hk
    · exact h
  exact ⟨hT w h, good_of_word (List.all_eq_true.mp dTJ_good w h)⟩
/-- what texts hold: coder and bytes -/
def dVS (N : Nat) (len : List Nat) (byt : List (List Int32)) (adK adV : Nat → Nat) (A : Nat → Prop) (U : State) (H : Heap) : Prop :=
  (∀ i : Nat, i < N → va_O "java/lang/String" (adK i) A U H ∧ va_OF "java/lang/String" "coder" "B" (.int 0) (adK i) A U H ∧ va_OF "java/lang/String" "value" "[B" (.ref (adV i)) (adK i) A U H ∧ va_T .byte (adV i) (len.getD i 0) (fun j => .int ((byt.getD i []).getD j 0)) A U H) ∧ True
theorem dVS.moved {N : Nat} {len : List Nat} {byt : List (List Int32)} {adK adV : Nat → Nat} {A : Nat → Prop} {u U : State} {H : Heap} (hvm : u.vm.Alike U.vm) (h : dVS N len byt adK adV A u H) : dVS N len byt adK adV A U H :=
  ⟨fun i hi => ⟨(h.1 i hi).1.moved hvm, (h.1 i hi).2.1.moved hvm, (h.1 i hi).2.2.1.moved hvm, (h.1 i hi).2.2.2.moved hvm⟩, trivial⟩
theorem dVS.kept {N : Nat} {len : List Nat} {byt : List (List Int32)} {adK adV : Nat → Nat} {A : Nat → Prop} {U : State} {H H1 : Heap} (h : dVS N len byt adK adV A U H) (hq : ∀ a : Nat, a < H.size → ¬ A a → H1[a]? = H[a]?) : dVS N len byt adK adV A U H1 :=
  ⟨fun i hi => ⟨(h.1 i hi).1.kept hq, (h.1 i hi).2.1.kept hq, (h.1 i hi).2.2.1.kept hq, (h.1 i hi).2.2.2.kept hq⟩, trivial⟩
theorem dVS_recv {N : Nat} {len : List Nat} {byt : List (List Int32)} {adK adV : Nat → Nat} {A : Nat → Prop} {s : State} {H : Heap} {locs : List Loc} {i : Nat} (hE : dVS N len byt adK adV A s s.heap) (hi : i < N) (hS : va_S A s.heap H locs) : ∃ cell : Cell, H[adK i]? = some cell ∧ cell.vm.isStatics = false ∧ s.vm.findClass "java/lang/String" = some cell.cls := by
  obtain ⟨cell, h1, h2, h3, -⟩ := (hE.1 i hi).1.kept hS.2.1
  exact ⟨cell, h1, h2, h3⟩
/-- what the JDK's statics and the texts hold -/
def dTxt (A : Nat → Prop) (N : Nat) (len : List Nat) (byt : List (List Int32)) (adK adV : Nat → Nat) (U : State) (H : Heap) : Prop :=
  va_Z "java/lang/String" "COMPACT_STRINGS" "Z" (.int 1) A U H ∧ va_Zq "jdk/internal/util/Preconditions" "SIOOBE_FORMATTER" "Ljava/util/function/BiFunction;" A U H ∧ dVS N len byt adK adV A U H
theorem dTxt.moved {A : Nat → Prop} {N : Nat} {len : List Nat} {byt : List (List Int32)} {adK adV : Nat → Nat} {u U : State} {H : Heap} (hvm : u.vm.Alike U.vm) (h : dTxt A N len byt adK adV u H) : dTxt A N len byt adK adV U H := ⟨h.1.moved hvm, h.2.1.moved hvm, h.2.2.moved hvm⟩
theorem dTxt.kept {A : Nat → Prop} {N : Nat} {len : List Nat} {byt : List (List Int32)} {adK adV : Nat → Nat} {U : State} {H H1 : Heap} (h : dTxt A N len byt adK adV U H) (hq : ∀ a : Nat, a < H.size → ¬ A a → H1[a]? = H[a]?) : dTxt A N len byt adK adV U H1 := ⟨h.1.kept hq, h.2.1.kept hq, h.2.2.kept hq⟩
def dQp (v : Option Value) : Array Value → State → Outcome → State → Prop := fun _ st o t => o = .returned v ∧ t.heap = st.heap
section JT
variable {p : Program} {l : Launch} {e : Env} {R : Room} {s : State} {m : MethodId} {args : Array Value} {below : List Frame} {meth : Method} {c : Code} {H : Heap} {locs : List Loc} {cells slots : Nat} {Q : State → Prop}
variable {pc : Nat} {ls : Array Slot} {rest st0 : List Value} {a : Array Value}
/-- behind a call that changes nothing -/
theorem dt_after {v : Option Value} (hr : va_Run p l e R s m args below meth c H locs cells slots 0 0 (F0 m pc ls st0) rest (dQp v a) (fun _ => False)) (kk : W p l e R s m args below meth c H locs cells slots Q (F0 m (pc + 3) ls (v.toList ++ rest))) : W p l e R s m args below meth c H locs cells slots Q (F0 m pc ls st0) := by
  intro T hT X
  obtain ⟨v9, st₀, t, T', L, h0, X', hL, x1, x2, ⟨hv, hh⟩, st⟩ := hr T hT X
  cases hv
  have hLn : L = [] := by
    cases L with
    | nil => rfl
    | cons q L => exact (hL q List.mem_cons_self).elim
  subst hLn
  rw [List.append_nil] at X'
  obtain ⟨t2, a1, b1⟩ := kk T' (by rw [x1, hh, h0]) X'
  exact ⟨t2, st t2 a1, b1⟩
end JT
section JM
variable (l : Launch) {A : Nat → Prop} {N : Nat} {len : List Nat} {byt : List (List Int32)} {adK adV : Nat → Nat}
theorem dTblind {as : List Value} : FrameBlind (va_Pc as (fun U => dTxt A N len byt adK adV U U.heap)) := fun a U g mk x => ⟨x.1, dTxt.moved (u := U) (U := U.calling g mk a) (Vm.Alike.refl U.vm) x.2⟩
theorem jt_coder {z : Nat} (hz : z < N) : Met l yJ0_coder_7d493 (Cond.code yJ0_coder_7d493 cJ0_coder_7d493 1 (some .byte) :: dTJ) (k2_rm 0 0) (va_Pc [.ref (adK z)] (fun U => dTxt A N len byt adK adV U U.heap)) (dQp (some (.int 0))) 0 0 (fun _ => False) := by
  refine Met.ofW (cc := cJ0_coder_7d493) (maxL := 1) (ret := some .byte) (by decide) rfl ?_
  intro p e s m args below meth c s₁ B hml hv
  obtain ⟨rfl, hZ, hQ, hE⟩ := hv
  have hx := B.exec
  have hb := B.bytes
  have hr := B.returns
  have hts := atoms_spec (ws := Cond.code yJ0_coder_7d493 cJ0_coder_7d493 1 (some .byte) :: dTJ) B.pre
  have hown : s.vm.findClass RJ0 = some m.cls := findClass_of_methodNamed B.named
  have hlocks := B.notSynchronized
  have hS : va_S A s.heap s.heap [] := va_S.rf
  have hl := lv_entry ([.ref (adK z)]) (n := 1) (Nat.le_of_ble_eq_true rfl)
  rw [lg_entry_eq]
  generalize (lg_sl ([.ref (adK z)]) ++ List.replicate (1 - (lg_sl ([.ref (adK z)])).length) Slot.unset).toArray = ls at hl ⊢
  have hl : lv_has ls 1 [(0, .ref (adK z))] := hl
  refine va_gets hx hb hZ hS hown (hts (.fieldLink RJ0 38 "java/lang/String" "COMPACT_STRINGS" "Z") (by decide +kernel)) (fun _ h => h) dJ0_coder_7d493_0 ?_
  refine lv_if_eq (tgt := 13) hx hb dJ0_coder_7d493_3 (by decide) (fun h => absurd h (by decide)) (fun _ => ?_)
  refine lv_aload_n hx hb dJ0_coder_7d493_6 rfl (lv_at hl 0 rfl) ?_
  refine vk_getf hx hb (hE.1 z hz).2.1 hS hown (hts (.fieldLink RJ0 15 "java/lang/String" "coder" "B") (by decide +kernel)) (fun _ h => h) dJ0_coder_7d493_7 ?_
  refine lv_goto (tgt := 14) hx hb dJ0_coder_7d493_10 (by decide) ?_
  exact W.zret hx hb hr (by decide) (fun t ht hW => ⟨rfl, ht⟩) (fun _ h => by cases h) dJ0_coder_7d493_14 hlocks
theorem jt_isLatin1 {z : Nat} (hz : z < N) : Met l yJ0_isLatin1_aae02 (Cond.code yJ0_isLatin1_aae02 cJ0_isLatin1_aae02 1 (some .boolean) :: dTJ) (k2_rm 0 0) (va_Pc [.ref (adK z)] (fun U => dTxt A N len byt adK adV U U.heap)) (dQp (some (.int 1))) 0 0 (fun _ => False) := by
  refine Met.ofW (cc := cJ0_isLatin1_aae02) (maxL := 1) (ret := some .boolean) (by decide) rfl ?_
  intro p e s m args below meth c s₁ B hml hv
  obtain ⟨rfl, hZ, hQ, hE⟩ := hv
  have hx := B.exec
  have hb := B.bytes
  have hr := B.returns
  have hts := atoms_spec (ws := Cond.code yJ0_isLatin1_aae02 cJ0_isLatin1_aae02 1 (some .boolean) :: dTJ) B.pre
  have hown : s.vm.findClass RJ0 = some m.cls := findClass_of_methodNamed B.named
  have hlocks := B.notSynchronized
  have hS : va_S A s.heap s.heap [] := va_S.rf
  have hl := lv_entry ([.ref (adK z)]) (n := 1) (Nat.le_of_ble_eq_true rfl)
  rw [lg_entry_eq]
  generalize (lg_sl ([.ref (adK z)]) ++ List.replicate (1 - (lg_sl ([.ref (adK z)])).length) Slot.unset).toArray = ls at hl ⊢
  have hl : lv_has ls 1 [(0, .ref (adK z))] := hl
  refine va_gets hx hb hZ hS hown (hts (.fieldLink RJ0 38 "java/lang/String" "COMPACT_STRINGS" "Z") (by decide +kernel)) (fun _ h => h) dJ0_isLatin1_aae02_0 ?_
  refine lv_if_eq (tgt := 17) hx hb dJ0_isLatin1_aae02_3 (by decide) (fun h => absurd h (by decide)) (fun _ => ?_)
  refine lv_aload_n hx hb dJ0_isLatin1_aae02_6 rfl (lv_at hl 0 rfl) ?_
  refine vk_getf hx hb (hE.1 z hz).2.1 hS hown (hts (.fieldLink RJ0 15 "java/lang/String" "coder" "B") (by decide +kernel)) (fun _ h => h) dJ0_isLatin1_aae02_7 ?_
  refine lv_if_ne (tgt := 17) hx hb dJ0_isLatin1_aae02_10 (by decide) (fun h => absurd rfl h) (fun _ => ?_)
  refine lv_iconst (v := 1) hx hb dJ0_isLatin1_aae02_13 (by decide) ?_
  refine lv_goto (tgt := 18) hx hb dJ0_isLatin1_aae02_14 (by decide) ?_
  exact W.zret hx hb hr (by decide) (fun t ht hW => ⟨rfl, ht⟩) (fun _ h => by cases h) dJ0_isLatin1_aae02_18 hlocks
theorem jt_length {z : Nat} (hz : z < N) : Met l yJ0_length_8abf5 (Cond.code yJ0_length_8abf5 cJ0_length_8abf5 1 (some .int) :: dTJ) (k2_rm 1 22) (va_Pc [.ref (adK z)] (fun U => dTxt A N len byt adK adV U U.heap)) (dQp (some (.int (Int32.ofNat (len.getD z 0))))) 0 0 (fun _ => False) := by
  refine Met.ofW (cc := cJ0_length_8abf5) (maxL := 1) (ret := some .int) (by decide) rfl ?_
  intro p e s m args below meth c s₁ B hml hv
  obtain ⟨rfl, hT⟩ := hv
  obtain ⟨hZ, hQ, hE⟩ := id hT
  have hx := B.exec
  have hb := B.bytes
  have hr := B.returns
  have hts := atoms_spec (ws := Cond.code yJ0_length_8abf5 cJ0_length_8abf5 1 (some .int) :: dTJ) B.pre
  have hown : s.vm.findClass RJ0 = some m.cls := findClass_of_methodNamed B.named
  have hlocks := B.notSynchronized
  have hS : va_S A s.heap s.heap [] := va_S.rf
  have hl := lv_entry ([.ref (adK z)]) (n := 1) (Nat.le_of_ble_eq_true rfl)
  rw [lg_entry_eq]
  generalize (lg_sl ([.ref (adK z)]) ++ List.replicate (1 - (lg_sl ([.ref (adK z)])).length) Slot.unset).toArray = ls at hl ⊢
  have hl : lv_has ls 1 [(0, .ref (adK z))] := hl
  refine lv_aload_n hx hb dJ0_length_8abf5_0 rfl (lv_at hl 0 rfl) ?_
  refine vk_getf hx hb (hE.1 z hz).2.2.1 hS hown (hts (.fieldLink RJ0 9 "java/lang/String" "value" "[B") (by decide +kernel)) (fun _ h => h) dJ0_length_8abf5_1 ?_
  refine va_tlen hx hb (hE.1 z hz).2.2.2 hS rfl dJ0_length_8abf5_4 ?_
  refine lv_aload_n hx hb dJ0_length_8abf5_5 rfl (lv_at hl 0 rfl) ?_
  have cb := callB_of (R := k2_rm 1 22) (own := RJ0) (index := 335) (y := yJ0_coder_7d493) (rm := k2_rm 0 0) 0 hts (dGJ (k := Cond.code yJ0_coder_7d493 cJ0_coder_7d493 1 (some .byte)) (fun w h => List.mem_cons_of_mem _ h) (by decide +kernel)) rfl rfl rfl (hts (.initialized RJ0) (by decide +kernel)) (hts (.methodLink RJ0 335 yJ0_coder_7d493) (by decide +kernel)) ⟨by decide, by decide, by decide +kernel⟩ ⟨by decide, by decide⟩
  refine dt_after (va_runV (C := RJ0) (b := adK z) (As := []) (rest := [.int (Int32.ofNat (len.getD z 0))]) ⟨hx, hb, hml, hown, hts⟩ (jt_coder l (A := A) (N := N) (len := len) (byt := byt) (adK := adK) (adV := adV) hz) ⟨cb, hts (.instanceMethod yJ0_coder_7d493) (by decide +kernel), hts (.selects RJ0 yJ0_coder_7d493 yJ0_coder_7d493) (by decide +kernel)⟩ ⟨dTblind, dVS_recv hE hz hS, fun U hU hW => ⟨rfl, by show dTxt A N len byt adK adV U U.heap; rw [hU]; exact hT.moved hW.alike⟩⟩ rfl rfl hl.1 rfl (lv_room (Nat.le_of_ble_eq_true rfl)) dJ0_length_8abf5_6 ⟨Nat.le_refl _, Nat.le_refl _⟩) ?_
  refine lv_ishr (x := Int32.ofNat (len.getD z 0)) (y := 0) (rest := []) hx hb dJ0_length_8abf5_9 ?_
  have he : Int32.ofNat (len.getD z 0) >>> ((0 : Int32) &&& 31) = Int32.ofNat (len.getD z 0) := by
    rw [show (0 : Int32) &&& 31 = 0 from by decide]; exact Int32.shiftRight_zero
  rw [he]
  exact W.iret hx hb hr (fun t ht hW => ⟨rfl, ht⟩) (fun _ h => by cases h) dJ0_length_8abf5_10 hlocks
/-- checkIndex of a place that is one -/
theorem jt_pre {i n : Int32} {f : Value} (hf : f = .null ∨ ∃ q, f = .ref q) (h0 : ¬ i < 0) (h1 : i < n) : Met l yJ3_checkIndex_8e157 (Cond.code yJ3_checkIndex_8e157 cJ3_checkIndex_8e157 3 (some .int) :: dTJ) (k2_rm 0 0) (va_Pc [.int i, .int n, f] (fun U => dTxt A N len byt adK adV U U.heap)) (dQp (some (.int i))) 0 0 (fun _ => False) := by
  refine Met.ofW (cc := cJ3_checkIndex_8e157) (maxL := 3) (ret := some .int) (by decide) rfl ?_
  intro p e s m args below meth c s₁ B hml hv
  obtain ⟨rfl, hT⟩ := hv
  have hx := B.exec
  have hb := B.bytes
  have hr := B.returns
  have hlocks := B.notSynchronized
  have hcat : f.category = 1 := by rcases hf with rfl | ⟨q, rfl⟩ <;> rfl
  have hlen : (lg_sl ([.int i, .int n, f])).length = 3 := by
    simp only [lg_sl, List.flatMap_cons, List.flatMap_nil, hcat]; rfl
  have hl := lv_entry ([.int i, .int n, f]) (n := 3) (by rw [hlen]; exact Nat.le_refl 3)
  rw [lg_entry_eq]
  generalize (lg_sl ([.int i, .int n, f]) ++ List.replicate (3 - (lg_sl ([.int i, .int n, f])).length) Slot.unset).toArray = ls at hl ⊢
  have hl : lv_has ls 3 [(0, .int i), (1, .int n), (2, f)] := hl
  refine lv_iload_n hx hb dJ3_checkIndex_8e157_0 rfl (lv_at hl 0 rfl) ?_
  refine lv_if_lt (tgt := 9) hx hb dJ3_checkIndex_8e157_1 (by decide) (fun h => absurd h h0) (fun _ => ?_)
  refine lv_iload_n hx hb dJ3_checkIndex_8e157_4 rfl (lv_at hl 0 rfl) ?_
  refine lv_iload_n hx hb dJ3_checkIndex_8e157_5 rfl (lv_at hl 1 rfl) ?_
  refine lv_icmp_lt (tgt := 16) hx hb dJ3_checkIndex_8e157_6 (by decide) (fun _ => ?_) (fun h => absurd h1 h)
  refine lv_iload_n hx hb dJ3_checkIndex_8e157_16 rfl (lv_at hl 0 rfl) ?_
  exact W.iret hx hb hr (fun t ht hW => ⟨rfl, ht⟩) (fun _ h => by cases h) dJ3_checkIndex_8e157_17 hlocks
theorem jt_check {i n : Int32} (h0 : ¬ i < 0) (h1 : i < n) : Met l yJ0_checkIndex_df160 (Cond.code yJ0_checkIndex_df160 cJ0_checkIndex_df160 2 none :: dTJ) (k2_rm 1 22) (va_Pc [.int i, .int n] (fun U => dTxt A N len byt adK adV U U.heap)) (dQp none) 0 0 (fun _ => False) := by
  refine Met.ofW (cc := cJ0_checkIndex_df160) (maxL := 2) (ret := none) (by decide) rfl ?_
  intro p e s m args below meth c s₁ B hml hv
  obtain ⟨rfl, hT⟩ := hv
  obtain ⟨hZ, hQ, hE⟩ := id hT
  have hx := B.exec
  have hb := B.bytes
  have hr := B.returns
  have hts := atoms_spec (ws := Cond.code yJ0_checkIndex_df160 cJ0_checkIndex_df160 2 none :: dTJ) B.pre
  have hown : s.vm.findClass RJ0 = some m.cls := findClass_of_methodNamed B.named
  have hlocks := B.notSynchronized
  have hS : va_S A s.heap s.heap [] := va_S.rf
  have hl := lv_entry ([.int i, .int n]) (n := 2) (Nat.le_of_ble_eq_true rfl)
  rw [lg_entry_eq]
  generalize (lg_sl ([.int i, .int n]) ++ List.replicate (2 - (lg_sl ([.int i, .int n])).length) Slot.unset).toArray = ls at hl ⊢
  have hl : lv_has ls 2 [(0, .int i), (1, .int n)] := hl
  have key : ∀ f : Value, (f = .null ∨ ∃ q, f = .ref q) → va_Z "jdk/internal/util/Preconditions" "SIOOBE_FORMATTER" "Ljava/util/function/BiFunction;" f A s s.heap → W p l e (headSpec (Cond.code yJ0_checkIndex_df160 cJ0_checkIndex_df160 2 none :: dTJ) (k2_rm 1 22)).room s m ([Value.int i, Value.int n]).toArray below meth c s.heap [] 0 0 (MQ below (dQp none) ([Value.int i, Value.int n]).toArray s 0 0 (fun _ => False)) (F0 m 0 ls []) := by
    intro f hf hZf
    refine lv_iload_n hx hb dJ0_checkIndex_df160_0 rfl (lv_at hl 0 rfl) ?_
    refine lv_iload_n hx hb dJ0_checkIndex_df160_1 rfl (lv_at hl 1 rfl) ?_
    refine va_gets hx hb hZf hS hown (hts (.fieldLink RJ0 1053 "jdk/internal/util/Preconditions" "SIOOBE_FORMATTER" "Ljava/util/function/BiFunction;") (by decide +kernel)) (fun _ h => h) dJ0_checkIndex_df160_2 ?_
    have cb := callB_of (R := k2_rm 1 22) (own := RJ0) (index := 1059) (y := yJ3_checkIndex_8e157) (rm := k2_rm 0 0) 3 hts (dGJ (k := Cond.code yJ3_checkIndex_8e157 cJ3_checkIndex_8e157 3 (some .int)) (fun w h => List.mem_cons_of_mem _ h) (by decide +kernel)) rfl rfl rfl (hts (.initialized RJ3) (by decide +kernel)) (hts (.methodLink RJ0 1059 yJ3_checkIndex_8e157) (by decide +kernel)) ⟨by decide, by decide, by decide +kernel⟩ ⟨by decide, by decide⟩
    refine dt_after (va_runS (As := [.int i, .int n, f]) (rest := []) ⟨hx, hb, hml, hown, hts⟩ (jt_pre l (A := A) (N := N) (len := len) (byt := byt) (adK := adK) (adV := adV) hf h0 h1) ⟨cb, hts (.static yJ3_checkIndex_8e157) (by decide +kernel)⟩ ⟨dTblind, fun U hU hW => ⟨rfl, by show dTxt A N len byt adK adV U U.heap; rw [hU]; exact hT.moved hW.alike⟩⟩ rfl rfl hl.1 rfl (lv_room (Nat.le_of_ble_eq_true rfl)) dJ0_checkIndex_df160_5 ⟨Nat.le_refl _, Nat.le_refl _⟩) ?_
    refine lv_pop (va := .int i) (rest := []) hx hb dJ0_checkIndex_df160_8 rfl ?_
    exact W.vret hx hb hr (fun t ht hW => ⟨rfl, ht⟩) (fun _ h => by cases h) dJ0_checkIndex_df160_9 hlocks
  rcases hQ with hq | ⟨t, hq⟩
  · exact key _ (Or.inl rfl) hq
  · exact key _ (Or.inr ⟨t, rfl⟩) hq
end JM
section JC
variable (l : Launch) {A : Nat → Prop} {N : Nat} {len : List Nat} {byt : List (List Int32)} {adK adV : Nat → Nat}
theorem jt_latin {z : Nat} (hz : z < N) {i : Int32} {v : Nat} (h0 : ¬ i < 0) (h1 : i < Int32.ofNat (len.getD z 0)) (hin : vp_in i (len.getD z 0)) (hv : (byt.getD z []).getD i.toNatClampNeg 0 = Int32.ofNat v) (hlt : v < 256) : Met l yJ1_charAt_3b067 (Cond.code yJ1_charAt_3b067 cJ1_charAt_3b067 2 (some .char) :: dTJ) (k2_rm 2 43) (va_Pc [.ref (adV z), .int i] (fun U => dTxt A N len byt adK adV U U.heap)) (dQp (some (.int (Int32.ofNat v)))) 0 0 (fun _ => False) := by
  refine Met.ofW (cc := cJ1_charAt_3b067) (maxL := 2) (ret := some .char) (by decide) rfl ?_
  intro p e s m args below meth c s₁ B hml hw
  obtain ⟨rfl, hT⟩ := hw
  obtain ⟨hZ, hQ, hE⟩ := id hT
  have hx := B.exec
  have hb := B.bytes
  have hr := B.returns
  have hts := atoms_spec (ws := Cond.code yJ1_charAt_3b067 cJ1_charAt_3b067 2 (some .char) :: dTJ) B.pre
  have hown : s.vm.findClass RJ1 = some m.cls := findClass_of_methodNamed B.named
  have hlocks := B.notSynchronized
  have hS : va_S A s.heap s.heap [] := va_S.rf
  have hl := lv_entry ([.ref (adV z), .int i]) (n := 2) (Nat.le_of_ble_eq_true rfl)
  rw [lg_entry_eq]
  generalize (lg_sl ([.ref (adV z), .int i]) ++ List.replicate (2 - (lg_sl ([.ref (adV z), .int i])).length) Slot.unset).toArray = ls at hl ⊢
  have hl : lv_has ls 2 [(0, .ref (adV z)), (1, .int i)] := hl
  refine lv_iload_n hx hb dJ1_charAt_3b067_0 rfl (lv_at hl 1 rfl) ?_
  refine lv_aload_n hx hb dJ1_charAt_3b067_1 rfl (lv_at hl 0 rfl) ?_
  refine va_tlen hx hb (hE.1 z hz).2.2.2 hS rfl dJ1_charAt_3b067_2 ?_
  have cb := callB_of (R := k2_rm 2 43) (own := RJ1) (index := 9) (y := yJ0_checkIndex_df160) (rm := k2_rm 1 22) 2 hts (dGJ (k := Cond.code yJ0_checkIndex_df160 cJ0_checkIndex_df160 2 none) (fun w h => List.mem_cons_of_mem _ h) (by decide +kernel)) rfl rfl rfl (hts (.initialized RJ0) (by decide +kernel)) (hts (.methodLink RJ1 9 yJ0_checkIndex_df160) (by decide +kernel)) ⟨by decide, by decide, by decide +kernel⟩ ⟨by decide, by decide⟩
  refine dt_after (va_runS (As := [.int i, .int (Int32.ofNat (len.getD z 0))]) (rest := []) ⟨hx, hb, hml, hown, hts⟩ (jt_check l (A := A) (N := N) (len := len) (byt := byt) (adK := adK) (adV := adV) h0 h1) ⟨cb, hts (.static yJ0_checkIndex_df160) (by decide +kernel)⟩ ⟨dTblind, fun U hU hW => ⟨rfl, by show dTxt A N len byt adK adV U U.heap; rw [hU]; exact hT.moved hW.alike⟩⟩ rfl rfl hl.1 rfl (lv_room (Nat.le_of_ble_eq_true rfl)) dJ1_charAt_3b067_3 ⟨Nat.le_refl _, Nat.le_refl _⟩) ?_
  refine lv_aload_n hx hb dJ1_charAt_3b067_6 rfl (lv_at hl 0 rfl) ?_
  refine lv_iload_n hx hb dJ1_charAt_3b067_7 rfl (lv_at hl 1 rfl) ?_
  refine va_tb (v := .int (Int32.ofNat v)) hx hb (hE.1 z hz).2.2.2 hS hin (by rw [hv]) dJ1_charAt_3b067_8 ?_
  refine lv_sipush (v := 255) hx hb dJ1_charAt_3b067_9 (by decide) ?_
  refine lv_iand hx hb dJ1_charAt_3b067_12 ?_
  have ha : Int32.ofNat v &&& 255 = nI v := by
    rw [show (255 : Int32) = Int32.ofNat 255 from rfl, di_and0, show v &&& 255 = v % 256 from Nat.and_two_pow_sub_one_eq_mod v 8, Nat.mod_eq_of_lt hlt]; rfl
  rw [ha]
  refine lv_i2c (v := nI v) hx hb dJ1_charAt_3b067_13 (by
    rw [pk_char]
    have : (nI v).toBitVec.toNat = v := by
      show (BitVec.ofNat 32 v).toNat = v
      rw [BitVec.toNat_ofNat]; omega
    rw [this, Nat.mod_eq_of_lt (by omega)]) ?_
  exact W.zret hx hb hr (pk_charN (by omega)).1 (fun t ht hW => ⟨rfl, ht⟩) (fun _ h => by cases h) dJ1_charAt_3b067_14 hlocks
theorem jt_charAt {z : Nat} (hz : z < N) {i : Int32} {v : Nat} (h0 : ¬ i < 0) (h1 : i < Int32.ofNat (len.getD z 0)) (hin : vp_in i (len.getD z 0)) (hv : (byt.getD z []).getD i.toNatClampNeg 0 = Int32.ofNat v) (hlt : v < 256) : Met l yJ0_charAt_5068e (Cond.code yJ0_charAt_5068e cJ0_charAt_5068e 2 (some .char) :: dTJ) (k2_rm 3 64) (va_Pc [.ref (adK z), .int i] (fun U => dTxt A N len byt adK adV U U.heap)) (dQp (some (.int (Int32.ofNat v)))) 0 0 (fun _ => False) := by
  refine Met.ofW (cc := cJ0_charAt_5068e) (maxL := 2) (ret := some .char) (by decide) rfl ?_
  intro p e s m args below meth c s₁ B hml hw
  obtain ⟨rfl, hT⟩ := hw
  obtain ⟨hZ, hQ, hE⟩ := id hT
  have hx := B.exec
  have hb := B.bytes
  have hr := B.returns
  have hts := atoms_spec (ws := Cond.code yJ0_charAt_5068e cJ0_charAt_5068e 2 (some .char) :: dTJ) B.pre
  have hown : s.vm.findClass RJ0 = some m.cls := findClass_of_methodNamed B.named
  have hlocks := B.notSynchronized
  have hS : va_S A s.heap s.heap [] := va_S.rf
  have hl := lv_entry ([.ref (adK z), .int i]) (n := 2) (Nat.le_of_ble_eq_true rfl)
  rw [lg_entry_eq]
  generalize (lg_sl ([.ref (adK z), .int i]) ++ List.replicate (2 - (lg_sl ([.ref (adK z), .int i])).length) Slot.unset).toArray = ls at hl ⊢
  have hl : lv_has ls 2 [(0, .ref (adK z)), (1, .int i)] := hl
  refine lv_aload_n hx hb dJ0_charAt_5068e_0 rfl (lv_at hl 0 rfl) ?_
  have cb := callB_of (R := k2_rm 3 64) (own := RJ0) (index := 492) (y := yJ0_isLatin1_aae02) (rm := k2_rm 0 0) 0 hts (dGJ (k := Cond.code yJ0_isLatin1_aae02 cJ0_isLatin1_aae02 1 (some .boolean)) (fun w h => List.mem_cons_of_mem _ h) (by decide +kernel)) rfl rfl rfl (hts (.initialized RJ0) (by decide +kernel)) (hts (.methodLink RJ0 492 yJ0_isLatin1_aae02) (by decide +kernel)) ⟨by decide, by decide, by decide +kernel⟩ ⟨by decide, by decide⟩
  refine dt_after (va_runV (C := RJ0) (b := adK z) (As := []) (rest := []) ⟨hx, hb, hml, hown, hts⟩ (jt_isLatin1 l (A := A) (N := N) (len := len) (byt := byt) (adK := adK) (adV := adV) hz) ⟨cb, hts (.instanceMethod yJ0_isLatin1_aae02) (by decide +kernel), hts (.selects RJ0 yJ0_isLatin1_aae02 yJ0_isLatin1_aae02) (by decide +kernel)⟩ ⟨dTblind, dVS_recv hE hz hS, fun U hU hW => ⟨rfl, by show dTxt A N len byt adK adV U U.heap; rw [hU]; exact hT.moved hW.alike⟩⟩ rfl rfl hl.1 rfl (lv_room (Nat.le_of_ble_eq_true rfl)) dJ0_charAt_5068e_1 ⟨Nat.le_refl _, Nat.le_refl _⟩) ?_
  refine lv_if_eq (tgt := 16) (rest := []) hx hb dJ0_charAt_5068e_4 (by decide) (fun h => absurd h (by decide)) (fun _ => ?_)
  refine lv_aload_n hx hb dJ0_charAt_5068e_7 rfl (lv_at hl 0 rfl) ?_
  refine vk_getf hx hb (hE.1 z hz).2.2.1 hS hown (hts (.fieldLink RJ0 9 "java/lang/String" "value" "[B") (by decide +kernel)) (fun _ h => h) dJ0_charAt_5068e_8 ?_
  refine lv_iload_n hx hb dJ0_charAt_5068e_11 rfl (lv_at hl 1 rfl) ?_
  have cb2 := callB_of (R := k2_rm 3 64) (own := RJ0) (index := 495) (y := yJ1_charAt_3b067) (rm := k2_rm 2 43) 2 hts (dGJ (k := Cond.code yJ1_charAt_3b067 cJ1_charAt_3b067 2 (some .char)) (fun w h => List.mem_cons_of_mem _ h) (by decide +kernel)) rfl rfl rfl (hts (.initialized RJ1) (by decide +kernel)) (hts (.methodLink RJ0 495 yJ1_charAt_3b067) (by decide +kernel)) ⟨by decide, by decide, by decide +kernel⟩ ⟨by decide, by decide⟩
  refine dt_after (va_runS (As := [.ref (adV z), .int i]) (rest := []) ⟨hx, hb, hml, hown, hts⟩ (jt_latin l (A := A) (N := N) (len := len) (byt := byt) (adK := adK) (adV := adV) hz h0 h1 hin hv hlt) ⟨cb2, hts (.static yJ1_charAt_3b067) (by decide +kernel)⟩ ⟨dTblind, fun U hU hW => ⟨rfl, by show dTxt A N len byt adK adV U U.heap; rw [hU]; exact hT.moved hW.alike⟩⟩ rfl rfl hl.1 rfl (lv_room (Nat.le_of_ble_eq_true rfl)) dJ0_charAt_5068e_12 ⟨Nat.le_refl _, Nat.le_refl _⟩) ?_
  exact W.zret hx hb hr (pk_charN (show v < 65536 by omega)).1 (fun t ht hW => ⟨rfl, ht⟩) (fun _ h => by cases h) dJ0_charAt_5068e_15 hlocks
end JC
end
section
/-! ===== quotients, rests, shifts with sign on words ===== -/
def dDiv (a b : Nat) : Nat := cond (Nat.blt (Nat.mod a 4294967296) 2147483648) (cond (Nat.blt (Nat.mod b 4294967296) 2147483648) (Nat.div (Nat.mod a 4294967296) (Nat.mod b 4294967296)) (dNeg (Nat.div (Nat.mod a 4294967296) (dNeg b)))) (cond (Nat.blt (Nat.mod b 4294967296) 2147483648) (dNeg (Nat.div (dNeg a) (Nat.mod b 4294967296))) (Nat.div (dNeg a) (dNeg b)))
def dRem (a b : Nat) : Nat := dSub a (dMul (dDiv a b) b)
def dLNeg (a : Nat) : Nat := Nat.mod (Nat.sub 18446744073709551616 (Nat.mod a 18446744073709551616)) 18446744073709551616
def dLDiv (a b : Nat) : Nat := cond (Nat.blt (Nat.mod a 18446744073709551616) 9223372036854775808) (cond (Nat.blt (Nat.mod b 18446744073709551616) 9223372036854775808) (Nat.div (Nat.mod a 18446744073709551616) (Nat.mod b 18446744073709551616)) (dLNeg (Nat.div (Nat.mod a 18446744073709551616) (dLNeg b)))) (cond (Nat.blt (Nat.mod b 18446744073709551616) 9223372036854775808) (dLNeg (Nat.div (dLNeg a) (Nat.mod b 18446744073709551616))) (Nat.div (dLNeg a) (dLNeg b)))
def dShr (a b : Nat) : Nat := cond (Nat.blt (Nat.mod a 4294967296) 2147483648) (Nat.shiftRight (Nat.mod a 4294967296) (Nat.mod b 32)) (Nat.sub 4294967295 (Nat.shiftRight (Nat.sub 4294967295 (Nat.mod a 4294967296)) (Nat.mod b 32)))
def dZ (b : Nat) : Bool := Nat.beq (Nat.mod b 4294967296) 0
def dLZ (b : Nat) : Bool := Nat.beq (Nat.mod b 18446744073709551616) 0
theorem di_bvneg (a : Nat) : -(BitVec.ofNat 32 a) = BitVec.ofNat 32 (dNeg a) := by
  apply BitVec.eq_of_toNat_eq
  rw [BitVec.toNat_neg, BitVec.toNat_ofNat, BitVec.toNat_ofNat]
  show (4294967296 - a % 4294967296) % 4294967296 = ((4294967296 - a % 4294967296) % 4294967296) % 4294967296
  omega
theorem di_bvlneg (a : Nat) : -(BitVec.ofNat 64 a) = BitVec.ofNat 64 (dLNeg a) := by
  apply BitVec.eq_of_toNat_eq
  rw [BitVec.toNat_neg, BitVec.toNat_ofNat, BitVec.toNat_ofNat]
  show (18446744073709551616 - a % 18446744073709551616) % 18446744073709551616 = ((18446744073709551616 - a % 18446744073709551616) % 18446744073709551616) % 18446744073709551616
  omega
theorem di_msb (a : Nat) : (BitVec.ofNat 32 a).msb = !(Nat.blt (Nat.mod a 4294967296) 2147483648) := by
  rw [BitVec.msb_eq_decide, BitVec.toNat_ofNat]
  show decide (2147483648 ≤ a % 4294967296) = !(Nat.blt (a % 4294967296) 2147483648)
  by_cases h : a % 4294967296 < 2147483648
  · rw [di_blt.mpr h, decide_eq_false (by omega)]; rfl
  · rw [Bool.eq_false_iff.mpr (fun z => h (di_blt.mp z)), decide_eq_true (by omega)]; rfl
theorem di_lmsb (a : Nat) : (BitVec.ofNat 64 a).msb = !(Nat.blt (Nat.mod a 18446744073709551616) 9223372036854775808) := by
  rw [BitVec.msb_eq_decide, BitVec.toNat_ofNat]
  show decide (9223372036854775808 ≤ a % 18446744073709551616) = !(Nat.blt (a % 18446744073709551616) 9223372036854775808)
  by_cases h : a % 18446744073709551616 < 9223372036854775808
  · rw [di_blt.mpr h, decide_eq_false (by omega)]; rfl
  · rw [Bool.eq_false_iff.mpr (fun z => h (di_blt.mp z)), decide_eq_true (by omega)]; rfl
theorem di_udiv (a b : Nat) : (BitVec.ofNat 32 a).udiv (BitVec.ofNat 32 b) = BitVec.ofNat 32 (Nat.div (Nat.mod a 4294967296) (Nat.mod b 4294967296)) := by
  apply BitVec.eq_of_toNat_eq
  rw [BitVec.udiv_eq, BitVec.toNat_udiv, BitVec.toNat_ofNat, BitVec.toNat_ofNat, BitVec.toNat_ofNat]
  exact (Nat.mod_eq_of_lt (Nat.lt_of_le_of_lt (Nat.div_le_self _ _) (Nat.mod_lt _ (by decide)))).symm
theorem di_ludiv (a b : Nat) : (BitVec.ofNat 64 a).udiv (BitVec.ofNat 64 b) = BitVec.ofNat 64 (Nat.div (Nat.mod a 18446744073709551616) (Nat.mod b 18446744073709551616)) := by
  apply BitVec.eq_of_toNat_eq
  rw [BitVec.udiv_eq, BitVec.toNat_udiv, BitVec.toNat_ofNat, BitVec.toNat_ofNat, BitVec.toNat_ofNat]
  exact (Nat.mod_eq_of_lt (Nat.lt_of_le_of_lt (Nat.div_le_self _ _) (Nat.mod_lt _ (by decide)))).symm
theorem di_negm (a : Nat) : Nat.mod (dNeg a) 4294967296 = dNeg a := Nat.mod_mod _ _
theorem di_lnegm (a : Nat) : Nat.mod (dLNeg a) 18446744073709551616 = dLNeg a := Nat.mod_mod _ _
theorem di_div (a b : Nat) : Int32.ofNat a / Int32.ofNat b = Int32.ofNat (dDiv a b) := Int32.toBitVec_inj.mp (by
  rw [Int32.toBitVec_div]
  show (BitVec.ofNat 32 a).sdiv (BitVec.ofNat 32 b) = BitVec.ofNat 32 (dDiv a b)
  rw [BitVec.sdiv_eq, di_msb, di_msb]
  unfold dDiv
  cases Nat.blt (Nat.mod a 4294967296) 2147483648 <;> cases Nat.blt (Nat.mod b 4294967296) 2147483648 <;> simp only [Bool.not_true, Bool.not_false, cond_true, cond_false, di_bvneg, di_udiv, di_negm])
theorem di_ldiv (a b : Nat) : Int64.ofNat a / Int64.ofNat b = Int64.ofNat (dLDiv a b) := Int64.toBitVec_inj.mp (by
  rw [Int64.toBitVec_div]
  show (BitVec.ofNat 64 a).sdiv (BitVec.ofNat 64 b) = BitVec.ofNat 64 (dLDiv a b)
  rw [BitVec.sdiv_eq, di_lmsb, di_lmsb]
  unfold dLDiv
  cases Nat.blt (Nat.mod a 18446744073709551616) 9223372036854775808 <;> cases Nat.blt (Nat.mod b 18446744073709551616) 9223372036854775808 <;> simp only [Bool.not_true, Bool.not_false, cond_true, cond_false, di_bvlneg, di_ludiv, di_lnegm])
theorem di_rem (a b : Nat) : Int32.ofNat a - Int32.ofNat a / Int32.ofNat b * Int32.ofNat b = Int32.ofNat (dRem a b) := by
  rw [di_div, di_mul, di_sub]; rfl
theorem di_z {b : Nat} (h : dZ b = false) : ¬ Int32.ofNat b = 0 := fun z => by
  have h2 : Int32.ofNat b = Int32.ofNat 0 := z
  rw [di_ieq] at h2
  have h3 : Nat.beq (Nat.mod b 4294967296) 0 = true := Nat.beq_eq ▸ h2
  rw [show Nat.beq (Nat.mod b 4294967296) 0 = dZ b from rfl, h] at h3
  cases h3
theorem di_lz {b : Nat} (h : dLZ b = false) : ¬ Int64.ofNat b = 0 := fun z => by
  have h2 : Int64.ofNat b = Int64.ofNat 0 := z
  rw [di_jeq] at h2
  have h3 : Nat.beq (Nat.mod b 18446744073709551616) 0 = true := Nat.beq_eq ▸ h2
  rw [show Nat.beq (Nat.mod b 18446744073709551616) 0 = dLZ b from rfl, h] at h3
  cases h3
theorem di_shr (a b : Nat) : Int32.ofNat a >>> (Int32.ofNat b &&& 31) = Int32.ofNat (dShr a b) := by
  rw [di_and31]
  apply Int32.toBitVec_inj.mp
  rw [Int32.toBitVec_shiftRight]
  have e : ((Int32.ofNat (b % 32)).toBitVec.smod 32).toNat = b % 32 := di_sm32 _ (Nat.mod_lt _ (by decide))
  show (Int32.ofNat a).toBitVec.sshiftRight ((Int32.ofNat (b % 32)).toBitVec.smod 32).toNat = _
  rw [e]
  show (BitVec.ofNat 32 a).sshiftRight (b % 32) = BitVec.ofNat 32 (dShr a b)
  apply BitVec.eq_of_toNat_eq
  have hm := di_msb a
  unfold dShr
  cases h : Nat.blt (Nat.mod a 4294967296) 2147483648
  · rw [h] at hm
    rw [BitVec.toNat_sshiftRight_of_msb_true hm, BitVec.toNat_ofNat, BitVec.toNat_ofNat]
    show 2 ^ 32 - 1 - ((2 ^ 32 - 1 - a % 2 ^ 32) >>> (b % 32)) = (4294967295 - ((4294967295 - a % 4294967296) >>> (b % 32))) % 2 ^ 32
    refine (Nat.mod_eq_of_lt ?_).symm
    exact Nat.lt_of_le_of_lt (Nat.sub_le _ _) (by decide)
  · rw [h] at hm
    rw [BitVec.toNat_sshiftRight_of_msb_false hm, BitVec.toNat_ofNat, BitVec.toNat_ofNat]
    show (a % 2 ^ 32) >>> (b % 32) = ((a % 4294967296) >>> (b % 32)) % 2 ^ 32
    refine (Nat.mod_eq_of_lt ?_).symm
    rw [Nat.shiftRight_eq_div_pow]
    exact Nat.lt_of_le_of_lt (Nat.div_le_self _ _) (Nat.mod_lt _ (by decide))
def dMax (a b : Nat) : Nat := cond (dLt a b) b a
def dMin (a b : Nat) : Nat := cond (dLt b a) b a
def dLMax (a b : Nat) : Nat := cond (dLLt b a) a b
def dLMin (a b : Nat) : Nat := cond (dLLt b a) b a
theorem di_max (a b : Nat) : (if Int32.ofNat a < Int32.ofNat b then Int32.ofNat b else Int32.ofNat a) = Int32.ofNat (dMax a b) := by
  unfold dMax
  cases h : dLt a b
  · rw [if_neg (fun z => by rw [(di_lt a b).mpr z] at h; cases h)]; rfl
  · rw [if_pos ((di_lt a b).mp h)]; rfl
theorem di_min (a b : Nat) : (if Int32.ofNat b < Int32.ofNat a then Int32.ofNat b else Int32.ofNat a) = Int32.ofNat (dMin a b) := by
  unfold dMin
  cases h : dLt b a
  · rw [if_neg (fun z => by rw [(di_lt b a).mpr z] at h; cases h)]; rfl
  · rw [if_pos ((di_lt b a).mp h)]; rfl
theorem di_lmax (a b : Nat) : (if Int64.ofNat b < Int64.ofNat a then Int64.ofNat a else Int64.ofNat b) = Int64.ofNat (dLMax a b) := by
  unfold dLMax
  cases h : dLLt b a
  · rw [if_neg (fun z => by rw [(di_llt b a).mpr z] at h; cases h)]; rfl
  · rw [if_pos ((di_llt b a).mp h)]; rfl
theorem di_lmin (a b : Nat) : (if Int64.ofNat b < Int64.ofNat a then Int64.ofNat b else Int64.ofNat a) = Int64.ofNat (dLMin a b) := by
  unfold dLMin
  cases h : dLLt b a
  · rw [if_neg (fun z => by rw [(di_llt b a).mpr z] at h; cases h)]; rfl
  · rw [if_pos ((di_llt b a).mp h)]; rfl
end
section
/-! ===== String.indexOf of a text of a constant ===== -/
abbrev cJ0_indexOf_0f7a4 : ByteArray := prog_22_method_79_code
def yJ0_indexOf_0f7a4 : MethodName := ⟨RJ0, "indexOf", "(I)I"⟩
abbrev cJ0_indexOf_7cf53 : ByteArray := prog_22_method_80_code
def yJ0_indexOf_7cf53 : MethodName := ⟨RJ0, "indexOf", "(II)I"⟩
abbrev cJ1_canEncode_9a6ad : ByteArray := prog_23_method_4_code
def yJ1_canEncode_9a6ad : MethodName := ⟨RJ1, "canEncode", "(I)Z"⟩
abbrev cJ1_indexOf_4cfef : ByteArray := prog_23_method_22_code
def yJ1_indexOf_4cfef : MethodName := ⟨RJ1, "indexOf", "([BIII)I"⟩
abbrev cJ1_indexOfChar_4cfef : ByteArray := prog_23_method_23_code
def yJ1_indexOfChar_4cfef : MethodName := ⟨RJ1, "indexOfChar", "([BIII)I"⟩
theorem dJ0_indexOf_0f7a4_0 : decode cJ0_indexOf_0f7a4 0 = .ok (.aload_n 0, 1) := by decide +kernel
theorem dJ0_indexOf_0f7a4_1 : decode cJ0_indexOf_0f7a4 1 = .ok (.iload_n 1, 1) := by decide +kernel
theorem dJ0_indexOf_0f7a4_2 : decode cJ0_indexOf_0f7a4 2 = .ok (.iconst 0, 1) := by decide +kernel
theorem dJ0_indexOf_0f7a4_3 : decode cJ0_indexOf_0f7a4 3 = .ok (.invokevirtual 633, 3) := by decide +kernel
theorem dJ0_indexOf_0f7a4_6 : decode cJ0_indexOf_0f7a4 6 = .ok (.ireturn, 1) := by decide +kernel
theorem dJ0_indexOf_7cf53_0 : decode cJ0_indexOf_7cf53 0 = .ok (.aload_n 0, 1) := by decide +kernel
theorem dJ0_indexOf_7cf53_1 : decode cJ0_indexOf_7cf53 1 = .ok (.invokevirtual 492, 3) := by decide +kernel
theorem dJ0_indexOf_7cf53_4 : decode cJ0_indexOf_7cf53 4 = .ok (.ifCond .eq 19, 3) := by decide +kernel
theorem dJ0_indexOf_7cf53_7 : decode cJ0_indexOf_7cf53 7 = .ok (.aload_n 0, 1) := by decide +kernel
theorem dJ0_indexOf_7cf53_8 : decode cJ0_indexOf_7cf53 8 = .ok (.getfield 9, 3) := by decide +kernel
theorem dJ0_indexOf_7cf53_11 : decode cJ0_indexOf_7cf53 11 = .ok (.iload_n 1, 1) := by decide +kernel
theorem dJ0_indexOf_7cf53_12 : decode cJ0_indexOf_7cf53 12 = .ok (.iload_n 2, 1) := by decide +kernel
theorem dJ0_indexOf_7cf53_13 : decode cJ0_indexOf_7cf53 13 = .ok (.aload_n 0, 1) := by decide +kernel
theorem dJ0_indexOf_7cf53_14 : decode cJ0_indexOf_7cf53 14 = .ok (.invokevirtual 505, 3) := by decide +kernel
theorem dJ0_indexOf_7cf53_17 : decode cJ0_indexOf_7cf53 17 = .ok (.invokestatic 637, 3) := by decide +kernel
theorem dJ0_indexOf_7cf53_20 : decode cJ0_indexOf_7cf53 20 = .ok (.goto 16, 3) := by decide +kernel
theorem dJ0_indexOf_7cf53_23 : decode cJ0_indexOf_7cf53 23 = .ok (.aload_n 0, 1) := by decide +kernel
theorem dJ0_indexOf_7cf53_24 : decode cJ0_indexOf_7cf53 24 = .ok (.getfield 9, 3) := by decide +kernel
theorem dJ0_indexOf_7cf53_27 : decode cJ0_indexOf_7cf53 27 = .ok (.iload_n 1, 1) := by decide +kernel
theorem dJ0_indexOf_7cf53_28 : decode cJ0_indexOf_7cf53 28 = .ok (.iload_n 2, 1) := by decide +kernel
theorem dJ0_indexOf_7cf53_29 : decode cJ0_indexOf_7cf53 29 = .ok (.aload_n 0, 1) := by decide +kernel
theorem dJ0_indexOf_7cf53_30 : decode cJ0_indexOf_7cf53 30 = .ok (.invokevirtual 505, 3) := by decide +kernel
theorem dJ0_indexOf_7cf53_33 : decode cJ0_indexOf_7cf53 33 = .ok (.invokestatic 640, 3) := by decide +kernel
theorem dJ0_indexOf_7cf53_36 : decode cJ0_indexOf_7cf53 36 = .ok (.ireturn, 1) := by decide +kernel
theorem dJ1_canEncode_9a6ad_0 : decode cJ1_canEncode_9a6ad 0 = .ok (.iload_n 0, 1) := by decide +kernel
theorem dJ1_canEncode_9a6ad_1 : decode cJ1_canEncode_9a6ad 1 = .ok (.ifCond .lt 14, 3) := by decide +kernel
theorem dJ1_canEncode_9a6ad_4 : decode cJ1_canEncode_9a6ad 4 = .ok (.iload_n 0, 1) := by decide +kernel
theorem dJ1_canEncode_9a6ad_5 : decode cJ1_canEncode_9a6ad 5 = .ok (.sipush 255, 3) := by decide +kernel
theorem dJ1_canEncode_9a6ad_8 : decode cJ1_canEncode_9a6ad 8 = .ok (.if_icmp .gt 7, 3) := by decide +kernel
theorem dJ1_canEncode_9a6ad_11 : decode cJ1_canEncode_9a6ad 11 = .ok (.iconst 1, 1) := by decide +kernel
theorem dJ1_canEncode_9a6ad_12 : decode cJ1_canEncode_9a6ad 12 = .ok (.goto 4, 3) := by decide +kernel
theorem dJ1_canEncode_9a6ad_15 : decode cJ1_canEncode_9a6ad 15 = .ok (.iconst 0, 1) := by decide +kernel
theorem dJ1_canEncode_9a6ad_16 : decode cJ1_canEncode_9a6ad 16 = .ok (.ireturn, 1) := by decide +kernel
theorem dJ1_indexOf_4cfef_0 : decode cJ1_indexOf_4cfef 0 = .ok (.iload_n 1, 1) := by decide +kernel
theorem dJ1_indexOf_4cfef_1 : decode cJ1_indexOf_4cfef 1 = .ok (.invokestatic 88, 3) := by decide +kernel
theorem dJ1_indexOf_4cfef_4 : decode cJ1_indexOf_4cfef 4 = .ok (.ifCond .ne 5, 3) := by decide +kernel
theorem dJ1_indexOf_4cfef_7 : decode cJ1_indexOf_4cfef 7 = .ok (.iconst (-1), 1) := by decide +kernel
theorem dJ1_indexOf_4cfef_8 : decode cJ1_indexOf_4cfef 8 = .ok (.ireturn, 1) := by decide +kernel
theorem dJ1_indexOf_4cfef_9 : decode cJ1_indexOf_4cfef 9 = .ok (.iload_n 2, 1) := by decide +kernel
theorem dJ1_indexOf_4cfef_10 : decode cJ1_indexOf_4cfef 10 = .ok (.iconst 0, 1) := by decide +kernel
theorem dJ1_indexOf_4cfef_11 : decode cJ1_indexOf_4cfef 11 = .ok (.invokestatic 92, 3) := by decide +kernel
theorem dJ1_indexOf_4cfef_14 : decode cJ1_indexOf_4cfef 14 = .ok (.istore_n 2, 1) := by decide +kernel
theorem dJ1_indexOf_4cfef_15 : decode cJ1_indexOf_4cfef 15 = .ok (.iload_n 3, 1) := by decide +kernel
theorem dJ1_indexOf_4cfef_16 : decode cJ1_indexOf_4cfef 16 = .ok (.aload_n 0, 1) := by decide +kernel
theorem dJ1_indexOf_4cfef_17 : decode cJ1_indexOf_4cfef 17 = .ok (.arraylength, 1) := by decide +kernel
theorem dJ1_indexOf_4cfef_18 : decode cJ1_indexOf_4cfef 18 = .ok (.invokestatic 38, 3) := by decide +kernel
theorem dJ1_indexOf_4cfef_21 : decode cJ1_indexOf_4cfef 21 = .ok (.istore_n 3, 1) := by decide +kernel
theorem dJ1_indexOf_4cfef_22 : decode cJ1_indexOf_4cfef 22 = .ok (.iload_n 2, 1) := by decide +kernel
theorem dJ1_indexOf_4cfef_23 : decode cJ1_indexOf_4cfef 23 = .ok (.iload_n 3, 1) := by decide +kernel
theorem dJ1_indexOf_4cfef_24 : decode cJ1_indexOf_4cfef 24 = .ok (.if_icmp .lt 5, 3) := by decide +kernel
theorem dJ1_indexOf_4cfef_27 : decode cJ1_indexOf_4cfef 27 = .ok (.iconst (-1), 1) := by decide +kernel
theorem dJ1_indexOf_4cfef_28 : decode cJ1_indexOf_4cfef 28 = .ok (.ireturn, 1) := by decide +kernel
theorem dJ1_indexOf_4cfef_29 : decode cJ1_indexOf_4cfef 29 = .ok (.aload_n 0, 1) := by decide +kernel
theorem dJ1_indexOf_4cfef_30 : decode cJ1_indexOf_4cfef 30 = .ok (.iload_n 1, 1) := by decide +kernel
theorem dJ1_indexOf_4cfef_31 : decode cJ1_indexOf_4cfef 31 = .ok (.iload_n 2, 1) := by decide +kernel
theorem dJ1_indexOf_4cfef_32 : decode cJ1_indexOf_4cfef 32 = .ok (.iload_n 3, 1) := by decide +kernel
theorem dJ1_indexOf_4cfef_33 : decode cJ1_indexOf_4cfef 33 = .ok (.invokestatic 95, 3) := by decide +kernel
theorem dJ1_indexOf_4cfef_36 : decode cJ1_indexOf_4cfef 36 = .ok (.ireturn, 1) := by decide +kernel
theorem dJ1_indexOfChar_4cfef_0 : decode cJ1_indexOfChar_4cfef 0 = .ok (.iload_n 1, 1) := by decide +kernel
theorem dJ1_indexOfChar_4cfef_1 : decode cJ1_indexOfChar_4cfef 1 = .ok (.i2b, 1) := by decide +kernel
theorem dJ1_indexOfChar_4cfef_2 : decode cJ1_indexOfChar_4cfef 2 = .ok (.istore 4, 2) := by decide +kernel
theorem dJ1_indexOfChar_4cfef_4 : decode cJ1_indexOfChar_4cfef 4 = .ok (.iload_n 2, 1) := by decide +kernel
theorem dJ1_indexOfChar_4cfef_5 : decode cJ1_indexOfChar_4cfef 5 = .ok (.istore 5, 2) := by decide +kernel
theorem dJ1_indexOfChar_4cfef_7 : decode cJ1_indexOfChar_4cfef 7 = .ok (.iload 5, 2) := by decide +kernel
theorem dJ1_indexOfChar_4cfef_9 : decode cJ1_indexOfChar_4cfef 9 = .ok (.iload_n 3, 1) := by decide +kernel
theorem dJ1_indexOfChar_4cfef_10 : decode cJ1_indexOfChar_4cfef 10 = .ok (.if_icmp .ge 21, 3) := by decide +kernel
theorem dJ1_indexOfChar_4cfef_13 : decode cJ1_indexOfChar_4cfef 13 = .ok (.aload_n 0, 1) := by decide +kernel
theorem dJ1_indexOfChar_4cfef_14 : decode cJ1_indexOfChar_4cfef 14 = .ok (.iload 5, 2) := by decide +kernel
theorem dJ1_indexOfChar_4cfef_16 : decode cJ1_indexOfChar_4cfef 16 = .ok (.baload, 1) := by decide +kernel
theorem dJ1_indexOfChar_4cfef_17 : decode cJ1_indexOfChar_4cfef 17 = .ok (.iload 4, 2) := by decide +kernel
theorem dJ1_indexOfChar_4cfef_19 : decode cJ1_indexOfChar_4cfef 19 = .ok (.if_icmp .ne 6, 3) := by decide +kernel
theorem dJ1_indexOfChar_4cfef_22 : decode cJ1_indexOfChar_4cfef 22 = .ok (.iload 5, 2) := by decide +kernel
theorem dJ1_indexOfChar_4cfef_24 : decode cJ1_indexOfChar_4cfef 24 = .ok (.ireturn, 1) := by decide +kernel
theorem dJ1_indexOfChar_4cfef_25 : decode cJ1_indexOfChar_4cfef 25 = .ok (.iinc 5 1, 3) := by decide +kernel
theorem dJ1_indexOfChar_4cfef_28 : decode cJ1_indexOfChar_4cfef 28 = .ok (.goto (-21), 3) := by decide +kernel
theorem dJ1_indexOfChar_4cfef_31 : decode cJ1_indexOfChar_4cfef 31 = .ok (.iconst (-1), 1) := by decide +kernel
theorem dJ1_indexOfChar_4cfef_32 : decode cJ1_indexOfChar_4cfef 32 = .ok (.ireturn, 1) := by decide +kernel
def dTI : List Cond := dTJ ++ [.code yJ0_indexOf_0f7a4 cJ0_indexOf_0f7a4 2 (some .int), .instanceMethod yJ0_indexOf_0f7a4, .selects RJ0 yJ0_indexOf_0f7a4 yJ0_indexOf_0f7a4, .methodLink RJ0 633 yJ0_indexOf_7cf53, .instanceMethod yJ0_indexOf_7cf53, .selects RJ0 yJ0_indexOf_7cf53 yJ0_indexOf_7cf53, .code yJ0_indexOf_7cf53 cJ0_indexOf_7cf53 3 (some .int), .methodLink RJ0 505 yJ0_length_8abf5, .methodLink RJ0 637 yJ1_indexOf_4cfef, .static yJ1_indexOf_4cfef, .code yJ1_indexOf_4cfef cJ1_indexOf_4cfef 4 (some .int), .methodLink RJ1 92 Lib.Math.max.name, .static Lib.Math.max.name, .initialized "java/lang/Math", .code Lib.Math.max.name Lib.Math.max.code 2 (some .int), .methodLink RJ1 38 Lib.Math.min.name, .static Lib.Math.min.name, .code Lib.Math.min.name Lib.Math.min.code 2 (some .int), .methodLink RJ1 88 yJ1_canEncode_9a6ad, .static yJ1_canEncode_9a6ad, .code yJ1_canEncode_9a6ad cJ1_canEncode_9a6ad 1 (some .boolean), .methodLink RJ1 95 yJ1_indexOfChar_4cfef, .static yJ1_indexOfChar_4cfef, .code yJ1_indexOfChar_4cfef cJ1_indexOfChar_4cfef 6 (some .int)]
theorem dTI_good : dTI.all goodWord = true := by decide +kernel
theorem dTI_j {w : Cond} (h : w ∈ dTJ) : w ∈ dTI := List.mem_append.mpr (Or.inl h)
theorem dGI2 {Ts : List Cond} {k : Cond} (hT : ∀ w ∈ dTI, w ∈ Ts) (hk : k ∈ dTI) : GoodIn Ts (k :: dTI) := by
  intro w hw
  have h : w ∈ dTI := by
    rcases List.mem_cons.mp hw with rfl | h
    · exact hk
    · exact h
  exact ⟨hT w h, good_of_word (List.all_eq_true.mp dTI_good w h)⟩
/-- the place of the first byte t, from i on, n places -/
def dIx (B : List Int32) (t : Int32) : Nat → Nat → Int32
  | 0, _ => -1
  | n + 1, i => if B.getD i 0 = t then Int32.ofNat i else dIx B t n (i + 1)
section JI
variable (l : Launch) {A : Nat → Prop} {N : Nat} {len : List Nat} {byt : List (List Int32)} {adK adV : Nat → Nat}
theorem jt_canE {i : Int32} : Met l yJ1_canEncode_9a6ad (Cond.code yJ1_canEncode_9a6ad cJ1_canEncode_9a6ad 1 (some .boolean) :: dTI) (k2_rm 0 0) (va_Pc [.int i] (fun U => dTxt A N len byt adK adV U U.heap)) (dQp (some (.int (if i < 0 ∨ 255 < i then 0 else 1)))) 0 0 (fun _ => False) := by
  refine Met.ofW (cc := cJ1_canEncode_9a6ad) (maxL := 1) (ret := some .boolean) (by decide) rfl ?_
  intro p e s m args below meth c s₁ B hml hv
  obtain ⟨rfl, hT⟩ := hv
  have hx := B.exec
  have hb := B.bytes
  have hr := B.returns
  have hlocks := B.notSynchronized
  have hl := lv_entry ([.int i]) (n := 1) (Nat.le_of_ble_eq_true rfl)
  rw [lg_entry_eq]
  generalize (lg_sl ([.int i]) ++ List.replicate (1 - (lg_sl ([.int i])).length) Slot.unset).toArray = ls at hl ⊢
  have hl : lv_has ls 1 [(0, .int i)] := hl
  refine lv_iload_n hx hb dJ1_canEncode_9a6ad_0 rfl (lv_at hl 0 rfl) ?_
  refine lv_if_lt (tgt := 15) hx hb dJ1_canEncode_9a6ad_1 (by decide) (fun h => ?_) (fun h => ?_)
  · refine lv_iconst (v := 0) hx hb dJ1_canEncode_9a6ad_15 (by decide) ?_
    refine W.zret hx hb hr (by decide) (fun t ht hW => ⟨?_, ht⟩) (fun _ h => by cases h) dJ1_canEncode_9a6ad_16 hlocks
    rw [if_pos (Or.inl h)]
  · refine lv_iload_n hx hb dJ1_canEncode_9a6ad_4 rfl (lv_at hl 0 rfl) ?_
    refine lv_sipush (v := 255) hx hb dJ1_canEncode_9a6ad_5 (by decide) ?_
    refine lv_icmp_gt (tgt := 15) hx hb dJ1_canEncode_9a6ad_8 (by decide) (fun h2 => ?_) (fun h2 => ?_)
    · refine lv_iconst (v := 0) hx hb dJ1_canEncode_9a6ad_15 (by decide) ?_
      refine W.zret hx hb hr (by decide) (fun t ht hW => ⟨?_, ht⟩) (fun _ h => by cases h) dJ1_canEncode_9a6ad_16 hlocks
      rw [if_pos (Or.inr h2)]
    · refine lv_iconst (v := 1) hx hb dJ1_canEncode_9a6ad_11 (by decide) ?_
      refine lv_goto (tgt := 16) hx hb dJ1_canEncode_9a6ad_12 (by decide) ?_
      refine W.zret hx hb hr (by decide) (fun t ht hW => ⟨?_, ht⟩) (fun _ h => by cases h) dJ1_canEncode_9a6ad_16 hlocks
      rw [if_neg (fun z => z.elim h h2)]
theorem jt_iChar {z : Nat} (hz : z < N) {i t : Int32} (ht : i.toInt8.toInt32 = t) (hn : len.getD z 0 < 2147483648) : Met l yJ1_indexOfChar_4cfef (Cond.code yJ1_indexOfChar_4cfef cJ1_indexOfChar_4cfef 6 (some .int) :: dTI) (k2_rm 0 0) (va_Pc [.ref (adV z), .int i, .int 0, .int (Int32.ofNat (len.getD z 0))] (fun U => dTxt A N len byt adK adV U U.heap)) (dQp (some (.int (dIx (byt.getD z []) t (len.getD z 0) 0)))) 0 0 (fun _ => False) := by
  refine Met.ofW (cc := cJ1_indexOfChar_4cfef) (maxL := 6) (ret := some .int) (by decide) rfl ?_
  intro p e s m args below meth c s₁ B hml hv
  obtain ⟨rfl, hT⟩ := hv
  obtain ⟨hZ, hQ, hE⟩ := id hT
  have hx := B.exec
  have hb := B.bytes
  have hr := B.returns
  have hlocks := B.notSynchronized
  have hS : va_S A s.heap s.heap [] := va_S.rf
  have hl := lv_entry ([.ref (adV z), .int i, .int 0, .int (Int32.ofNat (len.getD z 0))]) (n := 6) (Nat.le_of_ble_eq_true rfl)
  rw [lg_entry_eq]
  generalize (lg_sl ([.ref (adV z), .int i, .int 0, .int (Int32.ofNat (len.getD z 0))]) ++ List.replicate (6 - (lg_sl ([.ref (adV z), .int i, .int 0, .int (Int32.ofNat (len.getD z 0))])).length) Slot.unset).toArray = ls at hl ⊢
  have hl : lv_has ls 6 [(0, .ref (adV z)), (1, .int i), (2, .int 0), (3, .int (Int32.ofNat (len.getD z 0)))] := hl
  refine lv_iload_n hx hb dJ1_indexOfChar_4cfef_0 rfl (lv_at hl 1 rfl) ?_
  refine lv_i2b (v := t) hx hb dJ1_indexOfChar_4cfef_1 ht ?_
  refine lv_istore hx hb dJ1_indexOfChar_4cfef_2 hl (by decide) rfl fun ls1 hl1 => ?_
  have hl1 : lv_has ls1 6 [(4, .int t), (0, .ref (adV z)), (1, .int i), (2, .int 0), (3, .int (Int32.ofNat (len.getD z 0)))] := hl1
  refine lv_iload_n hx hb dJ1_indexOfChar_4cfef_4 rfl (lv_at hl1 3 rfl) ?_
  refine lv_istore hx hb dJ1_indexOfChar_4cfef_5 hl1 (by decide) rfl fun ls2 hl2 => ?_
  have hl2 : lv_has ls2 6 [(5, .int (Int32.ofNat 0)), (4, .int t), (0, .ref (adV z)), (1, .int i), (2, .int 0), (3, .int (Int32.ofNat (len.getD z 0)))] := hl2
  have loop : ∀ (n k : Nat) (ls : Array Slot), k + n = len.getD z 0 → lv_has ls 6 [(5, .int (Int32.ofNat k)), (4, .int t), (0, .ref (adV z)), (1, .int i), (2, .int 0), (3, .int (Int32.ofNat (len.getD z 0)))] → W p l e (headSpec (Cond.code yJ1_indexOfChar_4cfef cJ1_indexOfChar_4cfef 6 (some .int) :: dTI) (k2_rm 0 0)).room s m ([Value.ref (adV z), .int i, .int 0, .int (Int32.ofNat (len.getD z 0))]).toArray below meth c s.heap [] 0 0 (MQ below (dQp (some (.int (dIx (byt.getD z []) t n k)))) ([Value.ref (adV z), .int i, .int 0, .int (Int32.ofNat (len.getD z 0))]).toArray s 0 0 (fun _ => False)) (F0 m 7 ls []) := by
    intro n
    induction n with
    | zero =>
      intro k ls hk hl
      refine lv_iload hx hb dJ1_indexOfChar_4cfef_7 (lv_at hl 0 rfl) ?_
      refine lv_iload_n hx hb dJ1_indexOfChar_4cfef_9 rfl (lv_at hl 5 rfl) ?_
      refine lv_icmp_ge (tgt := 31) hx hb dJ1_indexOfChar_4cfef_10 (by decide) (fun _ => ?_) (fun h => absurd ?_ h)
      · refine lv_iconst (v := -1) hx hb dJ1_indexOfChar_4cfef_31 (by decide) ?_
        exact W.iret hx hb hr (fun t ht hW => ⟨rfl, ht⟩) (fun _ h => by cases h) dJ1_indexOfChar_4cfef_32 hlocks
      · rw [show k = len.getD z 0 by omega]; exact Int32.le_refl _
    | succ n ih =>
      intro k ls hk hl
      refine lv_iload hx hb dJ1_indexOfChar_4cfef_7 (lv_at hl 0 rfl) ?_
      refine lv_iload_n hx hb dJ1_indexOfChar_4cfef_9 rfl (lv_at hl 5 rfl) ?_
      refine lv_icmp_ge (tgt := 31) hx hb dJ1_indexOfChar_4cfef_10 (by decide) (fun h => ?_) (fun _ => ?_)
      · exfalso
        rw [Int32.le_iff_toInt_le, di_iv, di_iv] at h
        split at h <;> split at h <;> omega
      · refine lv_aload_n hx hb dJ1_indexOfChar_4cfef_13 rfl (lv_at hl 2 rfl) ?_
        refine lv_iload hx hb dJ1_indexOfChar_4cfef_14 (lv_at hl 0 rfl) ?_
        have hkc : (Int32.ofNat k).toNatClampNeg = k := by
          show (Int32.ofNat k).toInt.toNat = k
          rw [di_iv]
          split <;> omega
        have hin : vp_in (Int32.ofNat k) (len.getD z 0) := by
          intro h
          rcases h with h | h
          · rw [Int32.lt_iff_toInt_lt, di_iv] at h
            have : (0 : Int32).toInt = 0 := by decide
            rw [this] at h
            split at h <;> omega
          · rw [hkc] at h; omega
        refine va_tb (v := .int ((byt.getD z []).getD k 0)) hx hb (hE.1 z hz).2.2.2 hS hin (by rw [hkc]) dJ1_indexOfChar_4cfef_16 ?_
        refine lv_iload hx hb dJ1_indexOfChar_4cfef_17 (lv_at hl 1 rfl) ?_
        refine lv_icmp_ne (tgt := 25) hx hb dJ1_indexOfChar_4cfef_19 (by decide) (fun h => ?_) (fun h => ?_)
        · refine lv_iinc (k := 0) (v := Int32.ofNat (k + 1)) hx hb dJ1_indexOfChar_4cfef_25 hl rfl (by
            show Int32.ofNat k + Int32.ofNat 1 = _
            rw [di_add]
            exact di_imod _) (by decide) rfl fun ls3 hl3 => ?_
          refine lv_goto (tgt := 7) hx hb dJ1_indexOfChar_4cfef_28 (by decide) ?_
          have g := ih (k + 1) ls3 (by omega) hl3
          rw [show dIx (byt.getD z []) t (n + 1) k = dIx (byt.getD z []) t n (k + 1) from by show (if _ then _ else _) = _; rw [if_neg h]]
          exact g
        · refine lv_iload hx hb dJ1_indexOfChar_4cfef_22 (lv_at hl 0 rfl) ?_
          rw [show dIx (byt.getD z []) t (n + 1) k = Int32.ofNat k from by show (if _ then _ else _) = _; rw [if_pos h]]
          exact W.iret hx hb hr (fun t ht hW => ⟨rfl, ht⟩) (fun _ h => by cases h) dJ1_indexOfChar_4cfef_24 hlocks
  exact loop _ 0 ls2 (by omega) hl2
/-- what indexOf answers -/
def dIxF (B : List Int32) (n : Nat) (i : Int32) : Int32 := if i < 0 ∨ 255 < i then -1 else dIx B i.toInt8.toInt32 n 0
theorem jt_iLat {z : Nat} (hz : z < N) {i : Int32} (hn : len.getD z 0 < 2147483648) : Met l yJ1_indexOf_4cfef (Cond.code yJ1_indexOf_4cfef cJ1_indexOf_4cfef 4 (some .int) :: dTI) (k2_rm 1 60) (va_Pc [.ref (adV z), .int i, .int 0, .int (Int32.ofNat (len.getD z 0))] (fun U => dTxt A N len byt adK adV U U.heap)) (dQp (some (.int (dIxF (byt.getD z []) (len.getD z 0) i)))) 0 0 (fun _ => False) := by
  refine Met.ofW (cc := cJ1_indexOf_4cfef) (maxL := 4) (ret := some .int) (by decide) rfl ?_
  intro p e s m args below meth c s₁ B hml hv
  obtain ⟨rfl, hT⟩ := hv
  obtain ⟨hZ, hQ, hE⟩ := id hT
  have hx := B.exec
  have hb := B.bytes
  have hr := B.returns
  have hts := atoms_spec (ws := Cond.code yJ1_indexOf_4cfef cJ1_indexOf_4cfef 4 (some .int) :: dTI) B.pre
  have hown : s.vm.findClass RJ1 = some m.cls := findClass_of_methodNamed B.named
  have hlocks := B.notSynchronized
  have hS : va_S A s.heap s.heap [] := va_S.rf
  have hl := lv_entry ([.ref (adV z), .int i, .int 0, .int (Int32.ofNat (len.getD z 0))]) (n := 4) (Nat.le_of_ble_eq_true rfl)
  rw [lg_entry_eq]
  generalize (lg_sl ([.ref (adV z), .int i, .int 0, .int (Int32.ofNat (len.getD z 0))]) ++ List.replicate (4 - (lg_sl ([.ref (adV z), .int i, .int 0, .int (Int32.ofNat (len.getD z 0))])).length) Slot.unset).toArray = ls at hl ⊢
  have hl : lv_has ls 4 [(0, .ref (adV z)), (1, .int i), (2, .int 0), (3, .int (Int32.ofNat (len.getD z 0)))] := hl
  refine lv_iload_n hx hb dJ1_indexOf_4cfef_0 rfl (lv_at hl 1 rfl) ?_
  have cb := callB_of (R := k2_rm 1 60) (own := RJ1) (index := 88) (y := yJ1_canEncode_9a6ad) (rm := k2_rm 0 0) 1 hts (dGI2 (k := Cond.code yJ1_canEncode_9a6ad cJ1_canEncode_9a6ad 1 (some .boolean)) (fun w h => List.mem_cons_of_mem _ h) (by decide +kernel)) rfl rfl rfl (hts (.initialized RJ1) (by decide +kernel)) (hts (.methodLink RJ1 88 yJ1_canEncode_9a6ad) (by decide +kernel)) ⟨by decide, by decide, by decide +kernel⟩ ⟨by decide, by decide⟩
  refine dt_after (va_runS (As := [.int i]) (rest := []) ⟨hx, hb, hml, hown, hts⟩ (jt_canE l (A := A) (N := N) (len := len) (byt := byt) (adK := adK) (adV := adV)) ⟨cb, hts (.static yJ1_canEncode_9a6ad) (by decide +kernel)⟩ ⟨dTblind, fun U hU hW => ⟨rfl, by show dTxt A N len byt adK adV U U.heap; rw [hU]; exact hT.moved hW.alike⟩⟩ rfl rfl hl.1 rfl (lv_room (Nat.le_of_ble_eq_true rfl)) dJ1_indexOf_4cfef_1 ⟨Nat.le_refl _, Nat.le_refl _⟩) ?_
  have key : W p l e (headSpec (Cond.code yJ1_indexOf_4cfef cJ1_indexOf_4cfef 4 (some .int) :: dTI) (k2_rm 1 60)).room s m ([Value.ref (adV z), .int i, .int 0, .int (Int32.ofNat (len.getD z 0))]).toArray below meth c s.heap [] 0 0 (MQ below (dQp (some (.int (dIx (byt.getD z []) i.toInt8.toInt32 (len.getD z 0) 0)))) ([Value.ref (adV z), .int i, .int 0, .int (Int32.ofNat (len.getD z 0))]).toArray s 0 0 (fun _ => False)) (F0 m 9 ls []) := by
    refine lv_iload_n hx hb dJ1_indexOf_4cfef_9 rfl (lv_at hl 2 rfl) ?_
    refine lv_iconst (v := 0) hx hb dJ1_indexOf_4cfef_10 (by decide) ?_
    refine va_mmax hx hb (hml.trans hl.1.symm) hown (hts (.methodLink RJ1 92 Lib.Math.max.name) (by decide +kernel)) (hts (.static Lib.Math.max.name) (by decide +kernel)) (hts (.initialized "java/lang/Math") (by decide +kernel)) (hts (.code Lib.Math.max.name Lib.Math.max.code 2 (some .int)) (by decide +kernel)) (by decide) (by decide) (Nat.zero_le _) (Nat.zero_le _) dJ1_indexOf_4cfef_11 ?_
    rw [show (if (0 : Int32) < 0 then (0 : Int32) else 0) = 0 from by decide]
    refine lv_istore_n (i := 2) hx hb dJ1_indexOf_4cfef_14 rfl hl (by decide) rfl fun ls1 hl1 => ?_
    have hl1 : lv_has ls1 4 [(2, .int 0), (0, .ref (adV z)), (1, .int i), (3, .int (Int32.ofNat (len.getD z 0)))] := hl1
    refine lv_iload_n hx hb dJ1_indexOf_4cfef_15 rfl (lv_at hl1 3 rfl) ?_
    refine lv_aload_n hx hb dJ1_indexOf_4cfef_16 rfl (lv_at hl1 1 rfl) ?_
    refine va_tlen hx hb (hE.1 z hz).2.2.2 hS rfl dJ1_indexOf_4cfef_17 ?_
    refine va_mmin hx hb (hml.trans hl1.1.symm) hown (hts (.methodLink RJ1 38 Lib.Math.min.name) (by decide +kernel)) (hts (.static Lib.Math.min.name) (by decide +kernel)) (hts (.initialized "java/lang/Math") (by decide +kernel)) (hts (.code Lib.Math.min.name Lib.Math.min.code 2 (some .int)) (by decide +kernel)) (by decide) (by decide) (Nat.zero_le _) (Nat.zero_le _) dJ1_indexOf_4cfef_18 ?_
    rw [ite_self]
    refine lv_istore_n (i := 3) hx hb dJ1_indexOf_4cfef_21 rfl hl1 (by decide) rfl fun ls2 hl2 => ?_
    have hl2 : lv_has ls2 4 [(3, .int (Int32.ofNat (len.getD z 0))), (2, .int 0), (0, .ref (adV z)), (1, .int i)] := hl2
    refine lv_iload_n hx hb dJ1_indexOf_4cfef_22 rfl (lv_at hl2 1 rfl) ?_
    refine lv_iload_n hx hb dJ1_indexOf_4cfef_23 rfl (lv_at hl2 0 rfl) ?_
    refine lv_icmp_lt (tgt := 29) hx hb dJ1_indexOf_4cfef_24 (by decide) (fun _ => ?_) (fun h => ?_)
    · refine lv_aload_n hx hb dJ1_indexOf_4cfef_29 rfl (lv_at hl2 2 rfl) ?_
      refine lv_iload_n hx hb dJ1_indexOf_4cfef_30 rfl (lv_at hl2 3 rfl) ?_
      refine lv_iload_n hx hb dJ1_indexOf_4cfef_31 rfl (lv_at hl2 1 rfl) ?_
      refine lv_iload_n hx hb dJ1_indexOf_4cfef_32 rfl (lv_at hl2 0 rfl) ?_
      have cb2 := callB_of (R := k2_rm 1 60) (own := RJ1) (index := 95) (y := yJ1_indexOfChar_4cfef) (rm := k2_rm 0 0) 4 hts (dGI2 (k := Cond.code yJ1_indexOfChar_4cfef cJ1_indexOfChar_4cfef 6 (some .int)) (fun w h => List.mem_cons_of_mem _ h) (by decide +kernel)) rfl rfl rfl (hts (.initialized RJ1) (by decide +kernel)) (hts (.methodLink RJ1 95 yJ1_indexOfChar_4cfef) (by decide +kernel)) ⟨by decide, by decide, by decide +kernel⟩ ⟨by decide, by decide⟩
      refine dt_after (va_runS (As := [.ref (adV z), .int i, .int 0, .int (Int32.ofNat (len.getD z 0))]) (rest := []) ⟨hx, hb, hml, hown, hts⟩ (jt_iChar l (A := A) (N := N) (len := len) (byt := byt) (adK := adK) (adV := adV) hz rfl hn) ⟨cb2, hts (.static yJ1_indexOfChar_4cfef) (by decide +kernel)⟩ ⟨dTblind, fun U hU hW => ⟨rfl, by show dTxt A N len byt adK adV U U.heap; rw [hU]; exact hT.moved hW.alike⟩⟩ rfl rfl hl2.1 rfl (lv_room (Nat.le_of_ble_eq_true rfl)) dJ1_indexOf_4cfef_33 ⟨Nat.le_refl _, Nat.le_refl _⟩) ?_
      exact W.iret hx hb hr (fun t ht hW => ⟨rfl, ht⟩) (fun _ h => by cases h) dJ1_indexOf_4cfef_36 hlocks
    · have h0 : len.getD z 0 = 0 := by
        rw [Int32.lt_iff_toInt_lt, di_iv] at h
        have : (0 : Int32).toInt = 0 := by decide
        rw [this] at h
        split at h <;> omega
      refine lv_iconst (v := -1) hx hb dJ1_indexOf_4cfef_27 (by decide) ?_
      refine W.iret hx hb hr (fun t ht hW => ⟨?_, ht⟩) (fun _ h => by cases h) dJ1_indexOf_4cfef_28 hlocks
      rw [h0]; rfl
  by_cases hi : i < 0 ∨ 255 < i
  · rw [if_pos hi]
    refine lv_if_ne (tgt := 9) (rest := []) hx hb dJ1_indexOf_4cfef_4 (by decide) (fun h => absurd rfl h) (fun _ => ?_)
    refine lv_iconst (v := -1) hx hb dJ1_indexOf_4cfef_7 (by decide) ?_
    refine W.iret hx hb hr (fun t ht hW => ⟨?_, ht⟩) (fun _ h => by cases h) dJ1_indexOf_4cfef_8 hlocks
    rw [dIxF, if_pos hi]
  · rw [if_neg hi]
    refine lv_if_ne (tgt := 9) (rest := []) hx hb dJ1_indexOf_4cfef_4 (by decide) (fun _ => ?_) (fun h => absurd h (by decide))
    rw [dIxF, if_neg hi]
    exact key
theorem jt_iOf2 {z : Nat} (hz : z < N) {i : Int32} (hn : len.getD z 0 < 2147483648) : Met l yJ0_indexOf_7cf53 (Cond.code yJ0_indexOf_7cf53 cJ0_indexOf_7cf53 3 (some .int) :: dTI) (k2_rm 2 100) (va_Pc [.ref (adK z), .int i, .int 0] (fun U => dTxt A N len byt adK adV U U.heap)) (dQp (some (.int (dIxF (byt.getD z []) (len.getD z 0) i)))) 0 0 (fun _ => False) := by
  refine Met.ofW (cc := cJ0_indexOf_7cf53) (maxL := 3) (ret := some .int) (by decide) rfl ?_
  intro p e s m args below meth c s₁ B hml hv
  obtain ⟨rfl, hT⟩ := hv
  obtain ⟨hZ, hQ, hE⟩ := id hT
  have hx := B.exec
  have hb := B.bytes
  have hr := B.returns
  have hts := atoms_spec (ws := Cond.code yJ0_indexOf_7cf53 cJ0_indexOf_7cf53 3 (some .int) :: dTI) B.pre
  have hown : s.vm.findClass RJ0 = some m.cls := findClass_of_methodNamed B.named
  have hlocks := B.notSynchronized
  have hS : va_S A s.heap s.heap [] := va_S.rf
  have hl := lv_entry ([.ref (adK z), .int i, .int 0]) (n := 3) (Nat.le_of_ble_eq_true rfl)
  rw [lg_entry_eq]
  generalize (lg_sl ([.ref (adK z), .int i, .int 0]) ++ List.replicate (3 - (lg_sl ([.ref (adK z), .int i, .int 0])).length) Slot.unset).toArray = ls at hl ⊢
  have hl : lv_has ls 3 [(0, .ref (adK z)), (1, .int i), (2, .int 0)] := hl
  refine lv_aload_n hx hb dJ0_indexOf_7cf53_0 rfl (lv_at hl 0 rfl) ?_
  have cb := callB_of (R := k2_rm 2 100) (own := RJ0) (index := 492) (y := yJ0_isLatin1_aae02) (rm := k2_rm 0 0) 0 hts (dGJ (k := Cond.code yJ0_isLatin1_aae02 cJ0_isLatin1_aae02 1 (some .boolean)) (fun w h => List.mem_cons_of_mem _ (dTI_j h)) (by decide +kernel)) rfl rfl rfl (hts (.initialized RJ0) (by decide +kernel)) (hts (.methodLink RJ0 492 yJ0_isLatin1_aae02) (by decide +kernel)) ⟨by decide, by decide, by decide +kernel⟩ ⟨by decide, by decide⟩
  refine dt_after (va_runV (C := RJ0) (b := adK z) (As := []) (rest := []) ⟨hx, hb, hml, hown, hts⟩ (jt_isLatin1 l (A := A) (N := N) (len := len) (byt := byt) (adK := adK) (adV := adV) hz) ⟨cb, hts (.instanceMethod yJ0_isLatin1_aae02) (by decide +kernel), hts (.selects RJ0 yJ0_isLatin1_aae02 yJ0_isLatin1_aae02) (by decide +kernel)⟩ ⟨dTblind, dVS_recv hE hz hS, fun U hU hW => ⟨rfl, by show dTxt A N len byt adK adV U U.heap; rw [hU]; exact hT.moved hW.alike⟩⟩ rfl rfl hl.1 rfl (lv_room (Nat.le_of_ble_eq_true rfl)) dJ0_indexOf_7cf53_1 ⟨Nat.le_refl _, Nat.le_refl _⟩) ?_
  refine lv_if_eq (tgt := 23) (rest := []) hx hb dJ0_indexOf_7cf53_4 (by decide) (fun h => absurd h (by decide)) (fun _ => ?_)
  refine lv_aload_n hx hb dJ0_indexOf_7cf53_7 rfl (lv_at hl 0 rfl) ?_
  refine vk_getf hx hb (hE.1 z hz).2.2.1 hS hown (hts (.fieldLink RJ0 9 "java/lang/String" "value" "[B") (by decide +kernel)) (fun _ h => h) dJ0_indexOf_7cf53_8 ?_
  refine lv_iload_n hx hb dJ0_indexOf_7cf53_11 rfl (lv_at hl 1 rfl) ?_
  refine lv_iload_n hx hb dJ0_indexOf_7cf53_12 rfl (lv_at hl 2 rfl) ?_
  refine lv_aload_n hx hb dJ0_indexOf_7cf53_13 rfl (lv_at hl 0 rfl) ?_
  have cb2 := callB_of (R := k2_rm 2 100) (own := RJ0) (index := 505) (y := yJ0_length_8abf5) (rm := k2_rm 1 22) 0 hts (dGJ (k := Cond.code yJ0_length_8abf5 cJ0_length_8abf5 1 (some .int)) (fun w h => List.mem_cons_of_mem _ (dTI_j h)) (by decide +kernel)) rfl rfl rfl (hts (.initialized RJ0) (by decide +kernel)) (hts (.methodLink RJ0 505 yJ0_length_8abf5) (by decide +kernel)) ⟨by decide, by decide, by decide +kernel⟩ ⟨by decide, by decide⟩
  refine dt_after (va_runV (C := RJ0) (b := adK z) (As := []) (rest := [.int 0, .int i, .ref (adV z)]) ⟨hx, hb, hml, hown, hts⟩ (jt_length l (A := A) (N := N) (len := len) (byt := byt) (adK := adK) (adV := adV) hz) ⟨cb2, hts (.instanceMethod yJ0_length_8abf5) (by decide +kernel), hts (.selects RJ0 yJ0_length_8abf5 yJ0_length_8abf5) (by decide +kernel)⟩ ⟨dTblind, dVS_recv hE hz hS, fun U hU hW => ⟨rfl, by show dTxt A N len byt adK adV U U.heap; rw [hU]; exact hT.moved hW.alike⟩⟩ rfl rfl hl.1 rfl (lv_room (Nat.le_of_ble_eq_true rfl)) dJ0_indexOf_7cf53_14 ⟨Nat.le_refl _, Nat.le_refl _⟩) ?_
  have cb3 := callB_of (R := k2_rm 2 100) (own := RJ0) (index := 637) (y := yJ1_indexOf_4cfef) (rm := k2_rm 1 60) 4 hts (dGI2 (k := Cond.code yJ1_indexOf_4cfef cJ1_indexOf_4cfef 4 (some .int)) (fun w h => List.mem_cons_of_mem _ h) (by decide +kernel)) rfl rfl rfl (hts (.initialized RJ1) (by decide +kernel)) (hts (.methodLink RJ0 637 yJ1_indexOf_4cfef) (by decide +kernel)) ⟨by decide, by decide, by decide +kernel⟩ ⟨by decide, by decide⟩
  refine dt_after (va_runS (As := [.ref (adV z), .int i, .int 0, .int (Int32.ofNat (len.getD z 0))]) (rest := []) ⟨hx, hb, hml, hown, hts⟩ (jt_iLat l (A := A) (N := N) (len := len) (byt := byt) (adK := adK) (adV := adV) hz hn) ⟨cb3, hts (.static yJ1_indexOf_4cfef) (by decide +kernel)⟩ ⟨dTblind, fun U hU hW => ⟨rfl, by show dTxt A N len byt adK adV U U.heap; rw [hU]; exact hT.moved hW.alike⟩⟩ rfl rfl hl.1 rfl (lv_room (Nat.le_of_ble_eq_true rfl)) dJ0_indexOf_7cf53_17 ⟨Nat.le_refl _, Nat.le_refl _⟩) ?_
  refine lv_goto (tgt := 36) hx hb dJ0_indexOf_7cf53_20 (by decide) ?_
  exact W.iret hx hb hr (fun t ht hW => ⟨rfl, ht⟩) (fun _ h => by cases h) dJ0_indexOf_7cf53_36 hlocks
theorem jt_iOf {z : Nat} (hz : z < N) {i : Int32} (hn : len.getD z 0 < 2147483648) : Met l yJ0_indexOf_0f7a4 (Cond.code yJ0_indexOf_0f7a4 cJ0_indexOf_0f7a4 2 (some .int) :: dTI) (k2_rm 3 140) (va_Pc [.ref (adK z), .int i] (fun U => dTxt A N len byt adK adV U U.heap)) (dQp (some (.int (dIxF (byt.getD z []) (len.getD z 0) i)))) 0 0 (fun _ => False) := by
  refine Met.ofW (cc := cJ0_indexOf_0f7a4) (maxL := 2) (ret := some .int) (by decide) rfl ?_
  intro p e s m args below meth c s₁ B hml hv
  obtain ⟨rfl, hT⟩ := hv
  obtain ⟨hZ, hQ, hE⟩ := id hT
  have hx := B.exec
  have hb := B.bytes
  have hr := B.returns
  have hts := atoms_spec (ws := Cond.code yJ0_indexOf_0f7a4 cJ0_indexOf_0f7a4 2 (some .int) :: dTI) B.pre
  have hown : s.vm.findClass RJ0 = some m.cls := findClass_of_methodNamed B.named
  have hlocks := B.notSynchronized
  have hS : va_S A s.heap s.heap [] := va_S.rf
  have hl := lv_entry ([.ref (adK z), .int i]) (n := 2) (Nat.le_of_ble_eq_true rfl)
  rw [lg_entry_eq]
  generalize (lg_sl ([.ref (adK z), .int i]) ++ List.replicate (2 - (lg_sl ([.ref (adK z), .int i])).length) Slot.unset).toArray = ls at hl ⊢
  have hl : lv_has ls 2 [(0, .ref (adK z)), (1, .int i)] := hl
  refine lv_aload_n hx hb dJ0_indexOf_0f7a4_0 rfl (lv_at hl 0 rfl) ?_
  refine lv_iload_n hx hb dJ0_indexOf_0f7a4_1 rfl (lv_at hl 1 rfl) ?_
  refine lv_iconst (v := 0) hx hb dJ0_indexOf_0f7a4_2 (by decide) ?_
  have cb := callB_of (R := k2_rm 3 140) (own := RJ0) (index := 633) (y := yJ0_indexOf_7cf53) (rm := k2_rm 2 100) 2 hts (dGI2 (k := Cond.code yJ0_indexOf_7cf53 cJ0_indexOf_7cf53 3 (some .int)) (fun w h => List.mem_cons_of_mem _ h) (by decide +kernel)) rfl rfl rfl (hts (.initialized RJ0) (by decide +kernel)) (hts (.methodLink RJ0 633 yJ0_indexOf_7cf53) (by decide +kernel)) ⟨by decide, by decide, by decide +kernel⟩ ⟨by decide, by decide⟩
  refine dt_after (va_runV (C := RJ0) (b := adK z) (As := [.int i, .int 0]) (rest := []) ⟨hx, hb, hml, hown, hts⟩ (jt_iOf2 l (A := A) (N := N) (len := len) (byt := byt) (adK := adK) (adV := adV) hz hn) ⟨cb, hts (.instanceMethod yJ0_indexOf_7cf53) (by decide +kernel), hts (.selects RJ0 yJ0_indexOf_7cf53 yJ0_indexOf_7cf53) (by decide +kernel)⟩ ⟨dTblind, dVS_recv hE hz hS, fun U hU hW => ⟨rfl, by show dTxt A N len byt adK adV U U.heap; rw [hU]; exact hT.moved hW.alike⟩⟩ rfl rfl hl.1 rfl (lv_room (Nat.le_of_ble_eq_true rfl)) dJ0_indexOf_0f7a4_3 ⟨Nat.le_refl _, Nat.le_refl _⟩) ?_
  exact W.iret hx hb hr (fun t ht hW => ⟨rfl, ht⟩) (fun _ h => by cases h) dJ0_indexOf_0f7a4_6 hlocks
end JI
end
section
/-! ===== Integer.bitCount ===== -/
def dBitY : MethodName := ⟨"java/lang/Integer", "bitCount", "(I)I"⟩
def dBitC : ByteArray := ⟨#[0x1a, 0x1a, 0x04, 0x7c, 0x13, 0x01, 0x09, 0x7e, 0x64, 0x3b, 0x1a, 0x13, 0x01, 0x0a, 0x7e, 0x1a, 0x05, 0x7c, 0x13, 0x01, 0x0a, 0x7e, 0x60, 0x3b, 0x1a, 0x1a, 0x07, 0x7c, 0x60, 0x13, 0x01, 0x0b, 0x7e, 0x3b, 0x1a, 0x1a, 0x10, 0x08, 0x7c, 0x60, 0x3b, 0x1a, 0x1a, 0x10, 0x10, 0x7c, 0x60, 0x3b, 0x1a, 0x10, 0x3f, 0x7e, 0xac]⟩
def dUshr (a b : Nat) : Nat := Nat.shiftRight (Nat.mod a 4294967296) (Nat.mod b 32)
theorem di_ushr (a b : Nat) : ((Int32.ofNat a).toUInt32 >>> ((Int32.ofNat b).toUInt32 &&& Int32.toUInt32 31)).toInt32 = Int32.ofNat (dUshr a b) := by
  have e : (Int32.ofNat a).toUInt32 >>> ((Int32.ofNat b).toUInt32 &&& Int32.toUInt32 31) = UInt32.ofNat (dUshr a b) := UInt32.toNat_inj.mp (by
    have hb : ((Int32.ofNat b).toUInt32 &&& Int32.toUInt32 31).toNat = b % 32 := by
      rw [UInt32.toNat_and, show (Int32.toUInt32 31).toNat = 2 ^ 5 - 1 from rfl, Nat.and_two_pow_sub_one_eq_mod]
      show (BitVec.ofNat 32 b).toNat % 2 ^ 5 = _
      rw [BitVec.toNat_ofNat]
      omega
    rw [UInt32.toNat_shiftRight, hb]
    have hd : dUshr a b = (a % 4294967296) >>> (b % 32) := rfl
    have h1 : (Int32.ofNat a).toUInt32.toNat = a % 4294967296 := by
      show (BitVec.ofNat 32 a).toNat = _
      rw [BitVec.toNat_ofNat]
    rw [h1, hd, UInt32.toNat_ofNat', Nat.shiftRight_eq_div_pow, Nat.shiftRight_eq_div_pow, show b % 32 % 32 = b % 32 by omega]
    have h2 : a % 4294967296 / 2 ^ (b % 32) ≤ a % 4294967296 := Nat.div_le_self _ _
    omega)
  rw [e]
  rfl
def dBit1 (a : Nat) : Nat := dSub a (dAnd (dUshr a 1) 1431655765)
def dBit2 (a : Nat) : Nat := dAdd (dAnd a 858993459) (dAnd (dUshr a 2) 858993459)
def dBit3 (a : Nat) : Nat := dAnd (dAdd a (dUshr a 4)) 252645135
def dBit4 (a : Nat) : Nat := dAdd a (dUshr a 8)
def dBit5 (a : Nat) : Nat := dAdd a (dUshr a 16)
def dBit (a : Nat) : Nat := dAnd (dBit5 (dBit4 (dBit3 (dBit2 (dBit1 a))))) 63
def dWB0 : List Cond := [.static dBitY, .initialized "java/lang/Integer", .code dBitY dBitC 1 (some .int), .constant "java/lang/Integer" 265 (Int32.ofNat 1431655765), .constant "java/lang/Integer" 266 (Int32.ofNat 858993459), .constant "java/lang/Integer" 267 (Int32.ofNat 252645135)]
theorem jt_bit (l : Launch) (a : Nat) : Met l dBitY (Cond.code dBitY dBitC 1 (some .int) :: dWB0) (k2_rm 0 0) (va_Pc [.int (Int32.ofNat a)] (fun _ => True)) (dQp (some (.int (Int32.ofNat (dBit a))))) 0 0 (fun _ => False) := by
  refine Met.ofW (cc := dBitC) (maxL := 1) (ret := some .int) (by decide) rfl ?_
  intro p e s m args below meth c s₁ B hml hv
  obtain ⟨rfl, hT⟩ := hv
  have hx := B.exec
  have hb := B.bytes
  have hr := B.returns
  have hts := atoms_spec (ws := Cond.code dBitY dBitC 1 (some .int) :: dWB0) B.pre
  have hown : s.vm.findClass "java/lang/Integer" = some m.cls := findClass_of_methodNamed B.named
  have hlocks := B.notSynchronized
  have hl := lv_entry ([.int (Int32.ofNat a)]) (n := 1) (Nat.le_of_ble_eq_true rfl)
  rw [lg_entry_eq]
  generalize (lg_sl ([.int (Int32.ofNat a)]) ++ List.replicate (1 - (lg_sl ([.int (Int32.ofNat a)])).length) Slot.unset).toArray = ls at hl ⊢
  have hl : lv_has ls 1 [(0, .int (Int32.ofNat a))] := hl
  refine lv_iload_n (k := 0) hx hb (by decide +kernel) rfl (lv_at hl 0 rfl) ?_
  refine lv_iload_n (k := 0) hx hb (by decide +kernel) rfl (lv_at hl 0 rfl) ?_
  refine lv_iconst (n := 1) (v := Int32.ofNat 1) hx hb (by decide +kernel) (by decide) ?_
  refine lv_iushr hx hb (by decide +kernel) (di_ushr _ _) ?_
  refine lv_ldcw (index := 265) (v := Int32.ofNat 1431655765) hx hb hown (hts _ (List.mem_cons_of_mem _ (by simp [dWB0]))) (by decide +kernel) ?_
  refine lv_iand hx hb (by decide +kernel) ?_
  rw [di_and]
  refine lv_isub hx hb (by decide +kernel) ?_
  rw [di_sub]
  refine lv_istore_n (k := 0) hx hb (by decide +kernel) rfl hl (by decide) rfl fun ls1 hl1 => ?_
  have hl1 : lv_has ls1 1 [(0, .int (Int32.ofNat (dBit1 a)))] := hl1
  clear hl
  refine lv_iload_n (k := 0) hx hb (by decide +kernel) rfl (lv_at hl1 0 rfl) ?_
  refine lv_ldcw (index := 266) (v := Int32.ofNat 858993459) hx hb hown (hts _ (List.mem_cons_of_mem _ (by simp [dWB0]))) (by decide +kernel) ?_
  refine lv_iand hx hb (by decide +kernel) ?_
  rw [di_and]
  refine lv_iload_n (k := 0) hx hb (by decide +kernel) rfl (lv_at hl1 0 rfl) ?_
  refine lv_iconst (n := 2) (v := Int32.ofNat 2) hx hb (by decide +kernel) (by decide) ?_
  refine lv_iushr hx hb (by decide +kernel) (di_ushr _ _) ?_
  refine lv_ldcw (index := 266) (v := Int32.ofNat 858993459) hx hb hown (hts _ (List.mem_cons_of_mem _ (by simp [dWB0]))) (by decide +kernel) ?_
  refine lv_iand hx hb (by decide +kernel) ?_
  rw [di_and]
  refine lv_iadd hx hb (by decide +kernel) ?_
  rw [di_add]
  refine lv_istore_n (k := 0) hx hb (by decide +kernel) rfl hl1 (by decide) rfl fun ls2 hl2 => ?_
  have hl2 : lv_has ls2 1 [(0, .int (Int32.ofNat (dBit2 (dBit1 a))))] := hl2
  clear hl1
  refine lv_iload_n (k := 0) hx hb (by decide +kernel) rfl (lv_at hl2 0 rfl) ?_
  refine lv_iload_n (k := 0) hx hb (by decide +kernel) rfl (lv_at hl2 0 rfl) ?_
  refine lv_iconst (n := 4) (v := Int32.ofNat 4) hx hb (by decide +kernel) (by decide) ?_
  refine lv_iushr hx hb (by decide +kernel) (di_ushr _ _) ?_
  refine lv_iadd hx hb (by decide +kernel) ?_
  rw [di_add]
  refine lv_ldcw (index := 267) (v := Int32.ofNat 252645135) hx hb hown (hts _ (List.mem_cons_of_mem _ (by simp [dWB0]))) (by decide +kernel) ?_
  refine lv_iand hx hb (by decide +kernel) ?_
  rw [di_and]
  refine lv_istore_n (k := 0) hx hb (by decide +kernel) rfl hl2 (by decide) rfl fun ls3 hl3 => ?_
  have hl3 : lv_has ls3 1 [(0, .int (Int32.ofNat (dBit3 (dBit2 (dBit1 a)))))] := hl3
  clear hl2
  refine lv_iload_n (k := 0) hx hb (by decide +kernel) rfl (lv_at hl3 0 rfl) ?_
  refine lv_iload_n (k := 0) hx hb (by decide +kernel) rfl (lv_at hl3 0 rfl) ?_
  refine lv_bipush (n := 8) (v := Int32.ofNat 8) hx hb (by decide +kernel) (by decide) ?_
  refine lv_iushr hx hb (by decide +kernel) (di_ushr _ _) ?_
  refine lv_iadd hx hb (by decide +kernel) ?_
  rw [di_add]
  refine lv_istore_n (k := 0) hx hb (by decide +kernel) rfl hl3 (by decide) rfl fun ls4 hl4 => ?_
  have hl4 : lv_has ls4 1 [(0, .int (Int32.ofNat (dBit4 (dBit3 (dBit2 (dBit1 a))))))] := hl4
  clear hl3
  refine lv_iload_n (k := 0) hx hb (by decide +kernel) rfl (lv_at hl4 0 rfl) ?_
  refine lv_iload_n (k := 0) hx hb (by decide +kernel) rfl (lv_at hl4 0 rfl) ?_
  refine lv_bipush (n := 16) (v := Int32.ofNat 16) hx hb (by decide +kernel) (by decide) ?_
  refine lv_iushr hx hb (by decide +kernel) (di_ushr _ _) ?_
  refine lv_iadd hx hb (by decide +kernel) ?_
  rw [di_add]
  refine lv_istore_n (k := 0) hx hb (by decide +kernel) rfl hl4 (by decide) rfl fun ls5 hl5 => ?_
  have hl5 : lv_has ls5 1 [(0, .int (Int32.ofNat (dBit5 (dBit4 (dBit3 (dBit2 (dBit1 a)))))))] := hl5
  clear hl4
  refine lv_iload_n (k := 0) hx hb (by decide +kernel) rfl (lv_at hl5 0 rfl) ?_
  refine lv_bipush (n := 63) (v := Int32.ofNat 63) hx hb (by decide +kernel) (by decide) ?_
  refine lv_iand hx hb (by decide +kernel) ?_
  rw [di_and]
  exact W.iret hx hb hr (fun t ht hW => ⟨rfl, ht⟩) (fun _ h => by cases h) (by decide +kernel) hlocks
end
section
/-! ===== a program of words: what each instruction does, and the run of a method ===== -/
def dT0 : Nat := 281474976710656
def dT1 : Nat := 562949953421312
abbrev dI : Type := Instr × Nat × Nat
abbrev dL : Type := List (Nat × dV)
abbrev dR : Type := Option (Option dV × dH)
/-- on to a block: how deep, the method, the place, locals, stack, heap -/
abbrev dRec : Type := Nat → Nat → Nat → dL → List dV → dH → dR
abbrev dCode : Type := dRec → Nat → dL → List dV → dH → dR
/-- the method, what is resolved of the instruction, what comes behind -/
abbrev dOp : Type := Nat → Nat → dCode → dCode
noncomputable def disl (v : dV) : Bool := Sum.rec (motive := fun _ => Bool) (fun _ => false) (fun w => Sum.rec (motive := fun _ => Bool) (fun _ => true) (fun _ => false) w) v
noncomputable def dlk (L : dL) (i : Nat) : Option dV := List.rec (motive := fun _ => Option dV) none (fun a _ ih => cond (Nat.beq a.1 i) (some a.2) ih) L
noncomputable def fltc {α β : Type} (p : α → Bool) (L : List α) : (List α → β) → β := List.rec (motive := fun _ => (List α → β) → β) (fun k => k []) (fun a _ ih k => cond (p a) (ih (fun u => k (a :: u))) (ih k)) L
noncomputable def dp1 (i : Nat) (q : Nat × dV) : Bool := cond (Nat.beq q.1 i) false (cond (Nat.beq (Nat.succ q.1) i) (cond (disl q.2) false true) true)
noncomputable def dp2 (i : Nat) (q : Nat × dV) : Bool := cond (Nat.beq q.1 i) false (cond (Nat.beq q.1 (Nat.succ i)) false (cond (Nat.beq (Nat.succ q.1) i) (cond (disl q.2) false true) true))
def dcd (c : ClassFile.Cond) (a b : Nat) : Bool := match c with
  | .eq => dEq a b
  | .ne => cond (dEq a b) false true
  | .lt => dLt a b
  | .ge => cond (dLt a b) false true
  | .gt => dLt b a
  | .le => cond (dLt b a) false true
/-- a field's word, as its type has it -/
def fv (tc w : Nat) : dV := match tc with
  | 0 => .inl w
  | 1 => .inr (.inl w)
  | 2 => .inl w
  | _ => .inr (.inr w)
-- what a value must be to go on
noncomputable def vI (v : dV) (k : Nat → dR) : dR := Sum.rec (motive := fun _ => dR) k (fun _ => none) v
noncomputable def vL (v : dV) (k : Nat → dR) : dR := Sum.rec (motive := fun _ => dR) (fun _ => none) (fun w => Sum.rec (motive := fun _ => dR) k (fun _ => none) w) v
noncomputable def vR (v : dV) (k : Nat → dR) : dR := Sum.rec (motive := fun _ => dR) (fun _ => none) (fun w => Sum.rec (motive := fun _ => dR) (fun _ => none) k w) v
noncomputable def vA (v : dV) (k : Nat → dR) : dR := vR v fun n => Nat.rec (motive := fun _ => dR) none (fun m _ => k m) n
noncomputable def pop (st : List dV) (k : dV → List dV → dR) : dR := List.rec (motive := fun _ => dR) none (fun v r _ => k v r) st
noncomputable def emp (st : List dV) (x : dR) : dR := List.rec (motive := fun _ => dR) x (fun _ _ _ => none) st
noncomputable def opt {α : Type} (o : Option α) (k : α → dR) : dR := Option.rec (motive := fun _ => dR) none k o
noncomputable def cel (o : Option dC) (k : Nat → Nat → Nat → dR) : dR := Option.rec (motive := fun _ => dR) none (fun c => Prod.rec (motive := fun _ => dR) (fun kd p => Prod.rec (motive := fun _ => dR) (fun n ct => k kd n ct) p) c) o
noncomputable def trip (h : dH) (k : Nat → Nat → List (List dC) → dR) : dR := Prod.rec (motive := fun _ => dR) (fun n p => Prod.rec (motive := fun _ => dR) (fun s cs => k n s cs) p) h
noncomputable def d1 (st : List dV) (k : Nat → List dV → dR) : dR := pop st fun v r => vI v fun a => k a r
noncomputable def d2 (st : List dV) (k : Nat → Nat → List dV → dR) : dR := pop st fun v r => vI v fun b => pop r fun w r => vI w fun a => k a b r
noncomputable def d1l (st : List dV) (k : Nat → List dV → dR) : dR := pop st fun v r => vL v fun a => k a r
noncomputable def d2l (st : List dV) (k : Nat → Nat → List dV → dR) : dR := pop st fun v r => vL v fun b => pop r fun w r => vL w fun a => k a b r
noncomputable def dil (st : List dV) (k : Nat → Nat → List dV → dR) : dR := pop st fun v r => vI v fun b => pop r fun w r => vL w fun a => k a b r
noncomputable def d1a (st : List dV) (k : Nat → List dV → dR) : dR := pop st fun v r => vA v fun a => k a r
noncomputable def dia (st : List dV) (k : Nat → Nat → List dV → dR) : dR := pop st fun v r => vI v fun i => pop r fun w r => vA w fun a => fo (Nat.mod i 4294967296) fun j => k a j r
noncomputable def diia (st : List dV) (k : Nat → Nat → Nat → List dV → dR) : dR := pop st fun v r => vI v fun x => dia r fun a i r => k a i x r
noncomputable def dlia (st : List dV) (k : Nat → Nat → Nat → List dV → dR) : dR := pop st fun v r => vL v fun x => dia r fun a i r => k a i x r
/-- the word of a value, if the type may hold it -/
noncomputable def fe (tc : Nat) (v : dV) (k : Nat → dR) : dR := match tc with
  | 0 => vI v fun n => fo (Nat.mod n 4294967296) k
  | 1 => vL v fun n => fo (Nat.mod n 18446744073709551616) k
  | 2 => vI v fun n => cond (Nat.ble (Nat.mod n 4294967296) 1) (fo (Nat.mod n 4294967296) k) none
  | 3 => vR v fun n => cond (Nat.blt n 18446744073709551616) (k n) none
  | _ => none
/-- arguments, from the last on the stack -/
noncomputable def dpop (n : Nat) : List dV → List dV → (List dV → List dV → dR) → dR := Nat.rec (motive := fun _ => List dV → List dV → (List dV → List dV → dR) → dR) (fun st acc k => k acc st) (fun _ ih st acc k => pop st fun v r => ih r (v :: acc) k) n
/-- locals of arguments -/
noncomputable def dargs {β : Type} (as : List dV) : Nat → (dL → Nat → β) → β := List.rec (motive := fun _ => Nat → (dL → Nat → β) → β) (fun i k => k [] i) (fun v _ ih i k => cond (disl v) (ih (Nat.succ (Nat.succ i)) (fun u n => k ((i, v) :: u) n)) (ih (Nat.succ i) (fun u n => k ((i, v) :: u) n))) as
noncomputable def dcat (st : List dV) : Nat := List.rec (motive := fun _ => Nat) 0 (fun v _ ih => Nat.add (cond (disl v) 2 1) ih) st
/-- a place in a row -/
def din (i n : Nat) (x : dR) : dR := cond (Nat.blt i n) (cond (Nat.blt i 2147483648) x none) none
/-- a call: x has the method, its locals, how many arguments, its class -/
noncomputable def dcall (rec : dRec) (d : Nat) (x : Nat) (as : List dV) (h : dH) (k : Option dV → dH → dR) : dR := Nat.rec (motive := fun _ => dR) none (fun d' _ => dargs as 0 fun L n => cond (Nat.ble n (Nat.mod (Nat.div x 256) 64)) (opt (rec d' (Nat.div x 16384) 0 L [] h) fun z => Prod.rec (motive := fun _ => dR) (fun r h' => k r h') z) none) d
/-- thrown: no method answers a reference, so such an answer says that it threw -/
noncomputable def dthr (v : Option dV) : Bool := Option.rec (motive := fun _ => Bool) false (fun w => Sum.rec (motive := fun _ => Bool) (fun _ => false) (fun z => Sum.rec (motive := fun _ => Bool) (fun _ => false) (fun _ => true) z) w) v
noncomputable def dgo (nxt : dCode) (rec : dRec) (d : Nat) (L : dL) (r : List dV) (v : Option dV) (h : dH) : dR := Option.rec (motive := fun _ => dR) (nxt rec d L r h) (fun w => nxt rec d L (w :: r) h) v
/-- the text of a constant: how long, and its bytes -/
noncomputable def dstr (a : Nat) (k : Nat → Nat → dR) : dR := cond (Nat.beq (dT0 + a % 1048576) a) (opt (nth dStr (a % 1048576)) fun z => Prod.rec (motive := fun _ => dR) (fun n ct => k n ct) z) none
-- the instructions
noncomputable def o_int (y x : Nat) (nxt : dCode) : dCode := fun rec d L st h => nxt rec d L (.inl x :: st) h
noncomputable def o_long (y x : Nat) (nxt : dCode) : dCode := fun rec d L st h => nxt rec d L (.inr (.inl x) :: st) h
noncomputable def o_ldc (y x : Nat) (nxt : dCode) : dCode := fun rec d L st h => cond (Nat.blt x 4294967296) (nxt rec d L (.inl x :: st) h) none
/-- a text -/
noncomputable def o_ldt (y x : Nat) (nxt : dCode) : dCode := fun rec d L st h => cond (Nat.blt x 4294967296) none (nxt rec d L (.inr (.inr (Nat.succ (dT0 + x % 1048576))) :: st) h)
noncomputable def o_iload (y x : Nat) (nxt : dCode) : dCode := fun rec d L st h => opt (dlk L x) fun v => vI v fun n => nxt rec d L (.inl n :: st) h
noncomputable def o_lload (y x : Nat) (nxt : dCode) : dCode := fun rec d L st h => opt (dlk L x) fun v => vL v fun n => nxt rec d L (.inr (.inl n) :: st) h
noncomputable def o_aload (y x : Nat) (nxt : dCode) : dCode := fun rec d L st h => opt (dlk L x) fun v => vA v fun n => nxt rec d L (.inr (.inr (Nat.succ n)) :: st) h
noncomputable def o_istore (y x : Nat) (nxt : dCode) : dCode := fun rec d L st h => d1 st fun v r => fltc (dp1 x) L fun u => nxt rec d ((x, .inl v) :: u) r h
noncomputable def o_lstore (y x : Nat) (nxt : dCode) : dCode := fun rec d L st h => d1l st fun v r => fltc (dp2 x) L fun u => nxt rec d ((x, .inr (.inl v)) :: u) r h
noncomputable def o_astore (y x : Nat) (nxt : dCode) : dCode := fun rec d L st h => d1a st fun v r => fltc (dp1 x) L fun u => nxt rec d ((x, .inr (.inr (Nat.succ v))) :: u) r h
noncomputable def o_iinc (y x : Nat) (nxt : dCode) : dCode := fun rec d L st h => opt (dlk L (Nat.div x 4294967296)) fun v => vI v fun n => fo (dAdd n (Nat.mod x 4294967296)) fun w => fltc (dp1 (Nat.div x 4294967296)) L fun u => nxt rec d ((Nat.div x 4294967296, .inl w) :: u) st h
noncomputable def o_bin (f : Nat → Nat → Nat) (y x : Nat) (nxt : dCode) : dCode := fun rec d L st h => d2 st fun a b r => fo (f a b) fun v => nxt rec d L (.inl v :: r) h
noncomputable def o_div (f : Nat → Nat → Nat) (y x : Nat) (nxt : dCode) : dCode := fun rec d L st h => d2 st fun a b r => cond (dZ b) none (fo (f a b) fun v => nxt rec d L (.inl v :: r) h)
noncomputable def o_binl (f : Nat → Nat → Nat) (y x : Nat) (nxt : dCode) : dCode := fun rec d L st h => d2l st fun a b r => fo (f a b) fun v => nxt rec d L (.inr (.inl v) :: r) h
noncomputable def o_ldv (y x : Nat) (nxt : dCode) : dCode := fun rec d L st h => d2l st fun a b r => cond (dLZ b) none (fo (dLDiv a b) fun v => nxt rec d L (.inr (.inl v) :: r) h)
noncomputable def o_shl (f : Nat → Nat → Nat) (y x : Nat) (nxt : dCode) : dCode := fun rec d L st h => dil st fun a b r => fo (f a b) fun v => nxt rec d L (.inr (.inl v) :: r) h
noncomputable def o_lcmp (y x : Nat) (nxt : dCode) : dCode := fun rec d L st h => d2l st fun a b r => fo (dCmp a b) fun v => nxt rec d L (.inl v :: r) h
noncomputable def o_un (f : Nat → Nat) (y x : Nat) (nxt : dCode) : dCode := fun rec d L st h => d1 st fun a r => fo (f a) fun v => nxt rec d L (.inl v :: r) h
noncomputable def o_i2l (y x : Nat) (nxt : dCode) : dCode := fun rec d L st h => d1 st fun a r => fo (dI2l a) fun v => nxt rec d L (.inr (.inl v) :: r) h
noncomputable def o_l2i (y x : Nat) (nxt : dCode) : dCode := fun rec d L st h => d1l st fun a r => fo (dL2i a) fun v => nxt rec d L (.inl v :: r) h
noncomputable def o_if (c : ClassFile.Cond) (y x : Nat) (nxt : dCode) : dCode := fun rec d L st h => d1 st fun a r => cond (dcd c a 0) (rec d y x L r h) (nxt rec d L r h)
noncomputable def o_icmp (c : ClassFile.Cond) (y x : Nat) (nxt : dCode) : dCode := fun rec d L st h => d2 st fun a b r => cond (dcd c a b) (rec d y x L r h) (nxt rec d L r h)
noncomputable def o_goto (y x : Nat) (nxt : dCode) : dCode := fun rec d L st h => rec d y x L st h
noncomputable def o_tsw (y x : Nat) (nxt : dCode) : dCode := fun rec d L st h => d1 st fun a r => fo (dSub a (Nat.mod x 4294967296)) fun j => fo (Nat.shiftRight x 32) fun w => cond (Nat.blt j (wq 16 w 0)) (fo (wq 16 w (Nat.succ (Nat.succ j))) fun t => rec d y t L r h) (fo (wq 16 w 1) fun t => rec d y t L r h)
/-- the target of a value among pairs, from the j-th on -/
noncomputable def dlsw (w a t n : Nat) : Nat → Nat := Nat.rec (motive := fun _ => Nat → Nat) (fun _ => t) (fun _ ih j => cond (Nat.beq (wq 48 w (Nat.mul 2 j)) a) (wq 48 w (Nat.succ (Nat.mul 2 j))) (ih (Nat.succ j))) n
noncomputable def o_lsw (y x : Nat) (nxt : dCode) : dCode := fun rec d L st h => d1 st fun a r => fo (Nat.mod a 4294967296) fun a => fo (Nat.shiftRight x 32) fun w => fo (dlsw w a (wq 16 x 1) (wq 16 x 0) 0) fun t => rec d y t L r h
noncomputable def o_dup (y x : Nat) (nxt : dCode) : dCode := fun rec d L st h => pop st fun v r => cond (disl v) none (nxt rec d L (v :: v :: r) h)
noncomputable def o_pop (y x : Nat) (nxt : dCode) : dCode := fun rec d L st h => pop st fun v r => cond (disl v) none (nxt rec d L r h)
noncomputable def o_dup2 (y x : Nat) (nxt : dCode) : dCode := fun rec d L st h => pop st fun v r => cond (disl v) (nxt rec d L (v :: v :: r) h) (pop r fun w r2 => cond (disl w) none (nxt rec d L (v :: w :: v :: w :: r2) h))
noncomputable def o_getfield (y x : Nat) (nxt : dCode) : dCode := fun rec d L st h => d1a st fun a r => cel (hat h a) fun kd n ct => cond (Nat.beq kd (Nat.add (Nat.div x 1024) 4)) (fo (wd 64 ct (Nat.mod (Nat.div x 4) 256)) fun w => nxt rec d L (fv (Nat.mod x 4) w :: r) h) none
noncomputable def o_putfield (y x : Nat) (nxt : dCode) : dCode := fun rec d L st h => pop st fun v st1 => d1a st1 fun a r => cel (hat h a) fun kd n ct => cond (Nat.beq kd (Nat.add (Nat.div x 1024) 4)) (fe (Nat.mod x 4) v fun w => fo (wst 64 ct (Nat.mod (Nat.div x 4) 256) w) fun c' => hset h a (kd, n, c') (fun h' => nxt rec d L r h') none) none
noncomputable def o_new (y x : Nat) (nxt : dCode) : dCode := fun rec d L st h => trip h fun n s cs => cond (Nat.blt n 1073741824) (fo (Nat.add (Nat.div x 256) 4) fun kd => hpush (n, s, cs) (kd, Nat.mod x 256, 0) (Nat.mod x 256) (fun h' => nxt rec d L (.inr (.inr (Nat.succ n)) :: st) h') none) none
noncomputable def o_newarray (y x : Nat) (nxt : dCode) : dCode := fun rec d L st h => d1 st fun a r => trip h fun n s cs => cond (Nat.blt n 1073741824) (fo (Nat.mod a 4294967296) fun k => cond (Nat.ble k 67108864) (hpush (n, s, cs) (x, k, 0) k (fun h' => nxt rec d L (.inr (.inr (Nat.succ n)) :: r) h') none) none) none
noncomputable def o_alen (y x : Nat) (nxt : dCode) : dCode := fun rec d L st h => d1a st fun a r => cel (hat h a) fun kd n _ => cond (Nat.blt kd 4) (nxt rec d L (.inl n :: r) h) none
noncomputable def o_iaload (y x : Nat) (nxt : dCode) : dCode := fun rec d L st h => dia st fun a i r => cel (hat h a) fun kd n ct => cond (Nat.beq kd 0) (din i n (fo (wd 32 ct i) fun w => nxt rec d L (.inl w :: r) h)) none
noncomputable def o_laload (y x : Nat) (nxt : dCode) : dCode := fun rec d L st h => dia st fun a i r => cel (hat h a) fun kd n ct => cond (Nat.beq kd 1) (din i n (fo (wd 64 ct i) fun w => nxt rec d L (.inr (.inl w) :: r) h)) none
noncomputable def o_baload (y x : Nat) (nxt : dCode) : dCode := fun rec d L st h => dia st fun a i r => cel (hat h a) fun kd n ct => cond (Nat.beq kd 2) (din i n (fo (dI2b (wd 8 ct i)) fun w => nxt rec d L (.inl w :: r) h)) (cond (Nat.beq kd 3) (din i n (fo (wd 8 ct i) fun w => nxt rec d L (.inl w :: r) h)) none)
noncomputable def o_iastore (y x : Nat) (nxt : dCode) : dCode := fun rec d L st h => diia st fun a i v r => cel (hat h a) fun kd n ct => cond (Nat.beq kd 0) (din i n (fo (wst 32 ct i (Nat.mod v 4294967296)) fun c' => hset h a (0, n, c') (fun h' => nxt rec d L r h') none)) none
noncomputable def o_lastore (y x : Nat) (nxt : dCode) : dCode := fun rec d L st h => dlia st fun a i v r => cel (hat h a) fun kd n ct => cond (Nat.beq kd 1) (din i n (fo (wst 64 ct i (Nat.mod v 18446744073709551616)) fun c' => hset h a (1, n, c') (fun h' => nxt rec d L r h') none)) none
noncomputable def o_bastore (y x : Nat) (nxt : dCode) : dCode := fun rec d L st h => diia st fun a i v r => cel (hat h a) fun kd n ct => cond (Nat.beq kd 2) (din i n (fo (wst 8 ct i (Nat.mod v 256)) fun c' => hset h a (2, n, c') (fun h' => nxt rec d L r h') none)) (cond (Nat.beq kd 3) (din i n (fo (wst 8 ct i (Nat.mod v 2)) fun c' => hset h a (3, n, c') (fun h' => nxt rec d L r h') none)) none)
noncomputable def o_static (y x : Nat) (nxt : dCode) : dCode := fun rec d L st h => dpop (Nat.mod (Nat.div x 16) 16) st [] fun as r => cond (Nat.ble (dcat r) 8) (dcall rec d x as h fun v h' => cond (dthr v) none (dgo nxt rec d L r v h')) none
noncomputable def o_virtual (y x : Nat) (nxt : dCode) : dCode := fun rec d L st h => dpop (Nat.mod (Nat.div x 16) 16) st [] fun as r1 => d1a r1 fun a r => cel (hat h a) fun kd _ _ => cond (Nat.beq kd (Nat.add (Nat.mod x 16) 4)) (cond (Nat.ble (dcat r) 8) (dcall rec d x (.inr (.inr (Nat.succ a)) :: as) h fun v h' => cond (dthr v) (some (v, h')) (dgo nxt rec d L r v h')) none) none
/-- a call where a handler stands: x has the place behind the handler's store, and where it stores -/
noncomputable def o_vtry (y x : Nat) (nxt : dCode) : dCode := fun rec d L st h => dpop (Nat.mod (Nat.div x 16) 16) st [] fun as r1 => d1a r1 fun a r => cel (hat h a) fun kd _ _ => cond (Nat.beq kd (Nat.add (Nat.mod x 16) 4)) (cond (Nat.ble (dcat r) 8) (dcall rec d (Nat.mod x 1099511627776) (.inr (.inr (Nat.succ a)) :: as) h fun v h' => cond (dthr v) (fltc (dp1 (Nat.mod (Nat.div x 2199023255552) 64)) L fun u => rec d y (Nat.div x 140737488355328) u [] h') (dgo nxt rec d L r v h')) none) none
/-- a throw of an exception that is kept -/
noncomputable def o_athrow (y x : Nat) (nxt : dCode) : dCode := fun rec d L st h => d1a st fun a r => cel (hat h a) fun kd _ _ => cond (Nat.beq kd 18) (some (some (.inr (.inr 1)), h)) none
/-- an exception with a text: new, dup, ldc, <init>, and on behind these -/
noncomputable def o_xnew (y x : Nat) (nxt : dCode) : dCode := fun rec d L st h => trip h fun n s cs => cond (Nat.blt n 1073741824) (cond (Nat.ble 10 d) (cond (Nat.ble (dcat st) 8) (hpush (n, s, cs) (18, 6, 0) 6 (fun h' => rec d y (Nat.mod x 1099511627776) L (.inr (.inr (Nat.succ n)) :: st) h') none) none) none) none
noncomputable def o_special (y x : Nat) (nxt : dCode) : dCode := fun rec d L st h => dpop (Nat.mod (Nat.div x 16) 16) st [] fun as r1 => d1a r1 fun a r => cond (Nat.ble (dcat r) 8) (dcall rec d x (.inr (.inr (Nat.succ a)) :: as) h fun v h' => cond (dthr v) none (dgo nxt rec d L r v h')) none
noncomputable def o_objinit (y x : Nat) (nxt : dCode) : dCode := fun rec d L st h => Nat.rec (motive := fun _ => dR) none (fun _ _ => d1a st fun _ r => cond (Nat.ble (dcat r) 8) (nxt rec d L r h) none) d
noncomputable def o_return (y x : Nat) (nxt : dCode) : dCode := fun rec d L st h => emp st (some (none, h))
noncomputable def o_ireturn (y x : Nat) (nxt : dCode) : dCode := fun rec d L st h => d1 st fun v r => emp r (cond (Nat.beq x 1) (some (some (.inl v), h)) (cond (Nat.ble (Nat.mod v 4294967296) 1) (some (some (.inl v), h)) none))
noncomputable def o_lreturn (y x : Nat) (nxt : dCode) : dCode := fun rec d L st h => d1l st fun v r => emp r (some (some (.inr (.inl v)), h))
noncomputable def o_strlen (y x : Nat) (nxt : dCode) : dCode := fun rec d L st h => d1a st fun a r => dstr a fun n _ => cond (Nat.ble 4 d) (cond (Nat.ble (dcat r) 8) (nxt rec d L (.inl n :: r) h) none) none
noncomputable def o_charAt (y x : Nat) (nxt : dCode) : dCode := fun rec d L st h => dia st fun a i r => dstr a fun n ct => cond (Nat.blt i n) (cond (Nat.ble 4 d) (cond (Nat.ble (dcat r) 8) (fo (wd 8 ct i) fun w => nxt rec d L (.inl w :: r) h) none) none) none
/-- the place of the first byte t, from i on, n places -/
noncomputable def dix9 (ct t n : Nat) : Nat → Nat := Nat.rec (motive := fun _ => Nat → Nat) (fun _ => 4294967295) (fun _ ih i => cond (Nat.beq (wd 8 ct i) t) i (ih (Nat.succ i))) n
noncomputable def o_indexOf (y x : Nat) (nxt : dCode) : dCode := fun rec d L st h => dia st fun a i r => dstr a fun n ct => cond (Nat.ble 5 d) (cond (Nat.ble (dcat r) 8) (fo (cond (Nat.blt i 256) (dix9 ct (dI2b i) n 0) 4294967295) fun w => nxt rec d L (.inl w :: r) h) none) none
noncomputable def o_mm (f : Nat → Nat → Nat) (y x : Nat) (nxt : dCode) : dCode := fun rec d L st h => d2 st fun a b r => cond (Nat.ble 1 d) (cond (Nat.ble (dcat r) 8) (fo (f a b) fun v => nxt rec d L (.inl v :: r) h) none) none
noncomputable def o_mml (f : Nat → Nat → Nat) (y x : Nat) (nxt : dCode) : dCode := fun rec d L st h => d2l st fun a b r => cond (Nat.ble 1 d) (cond (Nat.ble (dcat r) 8) (fo (f a b) fun v => nxt rec d L (.inr (.inl v) :: r) h) none) none
noncomputable def o_acopy (y x : Nat) (nxt : dCode) : dCode := fun rec d L st h => pop st fun v r0 => vI v fun xn => dia r0 fun a2 xd r1 => dia r1 fun a1 xs r => cel (hat h a1) fun kd1 n1 ct1 => cel (hat h a2) fun kd2 n2 ct2 => cond (Nat.beq kd1 2 && (Nat.beq kd2 2 && (Nat.blt (Nat.mod xn 4294967296) 2147483648 && (Nat.blt xs 2147483648 && (Nat.blt xd 2147483648 && (Nat.ble (Nat.add xs (Nat.mod xn 4294967296)) n1 && (Nat.ble (Nat.add xd (Nat.mod xn 4294967296)) n2 && (Nat.ble 1 d && Nat.ble (dcat r) 8)))))))) (fo (dcp ct1 ct2 xs xd (Nat.mod xn 4294967296)) fun c' => hset h a2 (2, n2, c') (fun h' => nxt rec d L r h') none) none
noncomputable def o_bitc (y x : Nat) (nxt : dCode) : dCode := fun rec d L st h => pop st fun v r => vI v fun n => cond (Nat.ble 1 d && Nat.ble (dcat r) 8) (fo (dBit n) fun w => nxt rec d L (.inl w :: r) h) none
noncomputable def dopM (x : Nat) : Option dOp := cond (Nat.beq x 1099511627777) (some (o_mm dMax)) (cond (Nat.beq x 1099511627778) (some (o_mm dMin)) (cond (Nat.beq x 1099511627779) (some (o_mml dLMax)) (cond (Nat.beq x 1099511627780) (some (o_mml dLMin)) (cond (Nat.beq x 1099511627782) (some o_acopy) (cond (Nat.beq x 1099511627781) (some o_bitc) none)))))
/-- what an instruction does; none: no instruction of this program of words -/
noncomputable def dop (ins : Instr) (x : Nat) : Option dOp := match ins with
  | .iconst _ => some o_int
  | .bipush _ => some o_int
  | .sipush _ => some o_int
  | .lconst _ => some o_long
  | .ldc _ => cond (Nat.blt x 4294967296) (some o_ldc) (some o_ldt)
  | .ldc_w _ => cond (Nat.blt x 4294967296) (some o_ldc) (some o_ldt)
  | .ldc2_w _ => some o_long
  | .iload_n _ => some o_iload
  | .iload _ => some o_iload
  | .lload_n _ => some o_lload
  | .lload _ => some o_lload
  | .aload_n _ => some o_aload
  | .aload _ => some o_aload
  | .istore_n _ => some o_istore
  | .istore _ => some o_istore
  | .lstore_n _ => some o_lstore
  | .lstore _ => some o_lstore
  | .astore_n _ => some o_astore
  | .astore _ => some o_astore
  | .iinc _ _ => some o_iinc
  | .iadd => some (o_bin dAdd)
  | .isub => some (o_bin dSub)
  | .imul => some (o_bin dMul)
  | .iand => some (o_bin dAnd)
  | .ior => some (o_bin dOr)
  | .ixor => some (o_bin dXor)
  | .ishl => some (o_bin dShl)
  | .ishr => some (o_bin dShr)
  | .idiv => some (o_div dDiv)
  | .irem => some (o_div dRem)
  | .ldiv => some o_ldv
  | .lookupswitch _ _ => some o_lsw
  | .ineg => some (o_un dNeg)
  | .i2b => some (o_un dI2b)
  | .i2l => some o_i2l
  | .l2i => some o_l2i
  | .ladd => some (o_binl dLAdd)
  | .lsub => some (o_binl dLSub)
  | .lmul => some (o_binl dLMul)
  | .land => some (o_binl dLAnd)
  | .lor => some (o_binl dLOr)
  | .lxor => some (o_binl dLXor)
  | .lcmp => some o_lcmp
  | .lshl => some (o_shl dLShl)
  | .lushr => some (o_shl dLUshr)
  | .ifCond c _ => some (o_if c)
  | .if_icmp c _ => some (o_icmp c)
  | .goto _ => some o_goto
  | .tableswitch _ _ _ _ => some o_tsw
  | .dup => some o_dup
  | .pop => some o_pop
  | .dup2 => some o_dup2
  | .getfield _ => some o_getfield
  | .putfield _ => some o_putfield
  | .new _ => cond (Nat.beq x 0) none (cond (Nat.ble 1099511627776 x) (some o_xnew) (some o_new))
  | .athrow => some o_athrow
  | .newarray _ => some o_newarray
  | .arraylength => some o_alen
  | .iaload => some o_iaload
  | .laload => some o_laload
  | .baload => some o_baload
  | .iastore => some o_iastore
  | .lastore => some o_lastore
  | .bastore => some o_bastore
  | .invokestatic _ => cond (Nat.ble 1099511627776 x) (dopM x) (some o_static)
  | .invokevirtual _ => cond (Nat.ble 2199023255552 x) (some o_vtry) (cond (Nat.ble 1099511627776 x) (cond (Nat.beq x 1099511627777) (some o_strlen) (cond (Nat.beq x 1099511627778) (some o_charAt) (cond (Nat.beq x 1099511627779) (some o_indexOf) none))) (some o_virtual))
  | .invokespecial _ => cond (Nat.ble 1099511627776 x) (cond (Nat.beq x 1099511627776) (some o_objinit) none) (some o_special)
  | .return_ => some o_return
  | .ireturn => some o_ireturn
  | .lreturn => some o_lreturn
  | _ => none
/-- a block: what it does, and on to the block behind it -/
noncomputable def djmp (y pc : Nat) : dCode := fun rec d L st h => rec d y pc L st h
noncomputable def dnone : dCode := fun _ _ _ _ _ => none
noncomputable def dcomp (y : Nat) (is : List dI) : Nat → dCode := List.rec (motive := fun _ => Nat → dCode) (fun pc => djmp y pc) (fun i _ ih pc => match dop i.1 i.2.2 with
  | none => dnone
  | some o => o y i.2.2 (ih (pc + i.2.1))) is
noncomputable def drun (P : Nat → Nat → Option dCode) (f : Nat) : dRec := Nat.rec (motive := fun _ => dRec) (fun _ _ _ _ _ _ => none) (fun _ ih d y pc L st h => opt (P y pc) fun c => c ih d L st h) f
end
section
/-! ===== the words of the tables that the program's links stand on; what is checked of each instruction ===== -/
/-- the handlers of a method -/
def dHH (q : dMI) : List (Nat × Nat × Nat × Nat) := match dHT.find? (fun e => decide (e.1 = q.2.1)) with
  | some e => e.2
  | none => []
def dWCh (q : dMI) (hh : List (Nat × Nat × Nat × Nat)) : Cond := match hh with
  | [] => .code q.2.1 q.2.2.1 q.2.2.2.1 q.2.2.2.2
  | e :: t => .codeWith q.2.1 q.2.2.1 q.2.2.2.1 q.2.2.2.2 (e :: t)
def dWC (q : dMI) : Cond := dWCh q (dHH q)
def xE : String := "java/lang/IllegalStateException"
def xU : List String := ["java/lang/RuntimeException", "java/lang/Exception"]
/-- what the making, the throwing and the catching of an exception need -/
def dXA : List Cond := [.castable xE xE, .classLink (cR 13) 13 xE] ++ (dXN.flatMap fun e => Cond.classLink (cR e.1) e.2.1 xE :: Cond.initialized xE :: vx_atS (cR e.1) e.2.2.2.2 xE xU)
def dXW : List Cond := dXA.filter goodWord
def dXB : List Cond := dXA.filter fun w => !goodWord w
def dXt (w : Cond) : Bool := match w with
  | .castable _ _ => true
  | .declares _ => true
  | _ => false
theorem dXB_ok : dXB.all dXt = true := by decide +kernel
theorem dXA_ot : dXA.all (fun w => vx_ot w || dXt w) = true := by decide +kernel
def dWF (o : Nat) (e : Nat × Nat × Nat) : Cond := .fieldLink (cR o) e.1 (cT e.2.1 e.2.2).1 (cT e.2.1 e.2.2).2.1 (cT e.2.1 e.2.2).2.2.1
def dWM (o : Nat) (e : Nat × Nat × Nat) : List Cond := match dMis[e.2.1]? with
  | none => []
  | some q => match e.2.2 with
    | 0 => [.methodLink (cR o) e.1 q.2.1, .static q.2.1, .initialized q.2.1.cls]
    | 1 => [.methodLink (cR o) e.1 q.2.1, .instanceMethod q.2.1, .selects q.2.1.cls q.2.1 q.2.1, .initialized q.2.1.cls]
    | 2 => [.methodLink (cR o) e.1 q.2.1, .instanceMethod q.2.1, .initialized q.2.1.cls]
    | _ => [.static q.2.1, .initialized q.2.1.cls]
def dWL (o : Nat) : List Cond := (dCT o).map (fun e => .classLink (cR o) e.1 (cR e.2)) ++ ((dKT o).map (fun e => .constant (cR o) e.1 (Int32.ofNat e.2)) ++ (dJT o).map (fun e => .constantLong (cR o) e.1 (Int64.ofNat e.2)))
def dWo (o : Nat) : List Cond := u_ws (cR o) (cT o) (cN o) ++ ([.initialized (cR o), .instantiable (cR o) (cN o)] ++ ((dFT o).map (dWF o) ++ ((dMT o).flatMap (dWM o) ++ ((dOT o).map (fun i => .methodLink (cR o) i objectInit) ++ dWL o))))
def dWS (e : Nat × Nat × Nat) : Cond := .methodLink (cR e.1) e.2.1 (match e.2.2 with | 1 => yJ0_length_8abf5 | 2 => yJ0_charAt_5068e | _ => yJ0_indexOf_0f7a4)
def dWMM (e : Nat × Nat × Nat) : Cond := .methodLink (cR e.1) e.2.1 (match e.2.2 with | 1 => Lib.Math.max.name | 2 => Lib.Math.min.name | 3 => Lib.MathLoose.max_long.x | _ => Lib.MathLoose.min_long.x)
def dTM : List Cond := [.static Lib.MathLoose.max_long.x, .code Lib.MathLoose.max_long.x Lib.MathLoose.max_long.code 4 (some .long), .static Lib.MathLoose.min_long.x, .code Lib.MathLoose.min_long.x Lib.MathLoose.min_long.code 4 (some .long)]
/-- methods that no handler stands in -/
def dMs : List dMI := (dMis.zipIdx.filter fun q => !(dWith.contains q.2)).map (·.1)
def dWA (e : Nat × Nat) : Cond := .methodLink (cR e.1) e.2 arraycopyName
def dWB (e : Nat × Nat) : List Cond := .methodLink (cR e.1) e.2 dBitY :: dWB0
def dTB : List Cond := [.instanceMethod objectInit, .code objectInit ⟨#[0xb1]⟩ 1 none, .arrayClass .int, .arrayClass .long, .arrayClass .byte, .arrayClass .boolean] ++ ((List.range 14).flatMap dWo ++ (dMis.map dWC ++ (dTI ++ (dSM.map dWS ++ (dMM.map dWMM ++ (dTM ++ (dXW ++ (dWC9 ++ (dAC.map dWA ++ dBC.flatMap dWB)))))))))
theorem dMs_mem {y : Nat} {t : dMI} (h : dMis[y]? = some t) (hn : dWith.contains y = false) : t ∈ dMs :=
  List.mem_map.mpr ⟨(t, y), List.mem_filter.mpr ⟨List.mem_zipIdx_iff_getElem?.mpr h, by show (!(dWith.contains y)) = true; rw [hn]; rfl⟩, rfl⟩
theorem dMs_sub {t : dMI} (h : t ∈ dMs) : t ∈ dMis := by
  obtain ⟨q, hq, rfl⟩ := List.mem_map.mp h
  obtain ⟨y, n⟩ := q
  exact List.mem_of_getElem? (List.mem_zipIdx_iff_getElem?.mp (List.mem_filter.mp hq).1)
set_option maxRecDepth 100000 in
theorem dMs_plain : dMs.all (fun t => (dHH t).isEmpty) = true := by decide +kernel
theorem dMs_p {t : dMI} (h : t ∈ dMs) : dHH t = [] := List.isEmpty_iff.mp (List.all_eq_true.mp dMs_plain t h)
theorem dMs_c {t : dMI} (h : t ∈ dMs) : dWC t = .code t.2.1 t.2.2.1 t.2.2.2.1 t.2.2.2.2 := by
  unfold dWC
  rw [dMs_p h]
  rfl
set_option maxRecDepth 100000 in
theorem dTB_good : dTB.all goodWord = true := by decide +kernel
abbrev dTs (q : dMI) : List Cond := dWC q :: dTB
theorem dTB_o {o : Nat} (ho : o < 14) {w : Cond} (h : w ∈ dWo o) : w ∈ dTB :=
  List.mem_append.mpr (Or.inr (List.mem_append.mpr (Or.inl (List.mem_flatMap.mpr ⟨o, List.mem_range.mpr ho, h⟩))))
theorem dTB_f {o : Nat} (ho : o < 14) {e : Nat × Nat × Nat} (h : e ∈ dFT o) : dWF o e ∈ dTB := dTB_o ho (by
  unfold dWo; simp only [List.mem_append]; exact Or.inr (Or.inr (Or.inl (List.mem_map.mpr ⟨e, h, rfl⟩))))
theorem dTB_m {o : Nat} (ho : o < 14) {e : Nat × Nat × Nat} (h : e ∈ dMT o) {w : Cond} (hw : w ∈ dWM o e) : w ∈ dTB := dTB_o ho (by
  unfold dWo; simp only [List.mem_append]; exact Or.inr (Or.inr (Or.inr (Or.inl (List.mem_flatMap.mpr ⟨e, h, hw⟩)))))
theorem dTB_i {o i : Nat} (ho : o < 14) (h : i ∈ dOT o) : Cond.methodLink (cR o) i objectInit ∈ dTB := dTB_o ho (by
  unfold dWo; simp only [List.mem_append]; exact Or.inr (Or.inr (Or.inr (Or.inr (Or.inl (List.mem_map.mpr ⟨i, h, rfl⟩))))))
theorem dTB_l {o : Nat} (ho : o < 14) {w : Cond} (h : w ∈ dWL o) : w ∈ dTB := dTB_o ho (by
  unfold dWo; simp only [List.mem_append]; exact Or.inr (Or.inr (Or.inr (Or.inr (Or.inr h)))))
theorem dTB_u {o : Nat} (ho : o < 14) {w : Cond} (h : w ∈ u_ws (cR o) (cT o) (cN o)) : w ∈ dTB := dTB_o ho (by
  unfold dWo; simp only [List.mem_append]; exact Or.inl h)
theorem dTB_n {o : Nat} (ho : o < 14) {w : Cond} (h : w ∈ ([.initialized (cR o), .instantiable (cR o) (cN o)] : List Cond)) : w ∈ dTB := dTB_o ho (by
  unfold dWo; simp only [List.mem_append]; exact Or.inr (Or.inl h))
theorem dTB_c {q : dMI} (h : q ∈ dMis) : dWC q ∈ dTB := List.mem_append.mpr (Or.inr (List.mem_append.mpr (Or.inr (List.mem_append.mpr (Or.inl (List.mem_map.mpr ⟨q, h, rfl⟩))))))
theorem dTB_x {w : Cond} (h : w ∈ dTI) : w ∈ dTB := List.mem_append.mpr (Or.inr (List.mem_append.mpr (Or.inr (List.mem_append.mpr (Or.inr (List.mem_append.mpr (Or.inl h)))))))
theorem dTB_j {w : Cond} (h : w ∈ dTJ) : w ∈ dTB := dTB_x (dTI_j h)
theorem dTB_s {e : Nat × Nat × Nat} (h : e ∈ dSM) : dWS e ∈ dTB := List.mem_append.mpr (Or.inr (List.mem_append.mpr (Or.inr (List.mem_append.mpr (Or.inr (List.mem_append.mpr (Or.inr (List.mem_append.mpr (Or.inl (List.mem_map.mpr ⟨e, h, rfl⟩))))))))))
theorem dTB_mm {e : Nat × Nat × Nat} (h : e ∈ dMM) : dWMM e ∈ dTB := List.mem_append.mpr (Or.inr (List.mem_append.mpr (Or.inr (List.mem_append.mpr (Or.inr (List.mem_append.mpr (Or.inr (List.mem_append.mpr (Or.inr (List.mem_append.mpr (Or.inl (List.mem_map.mpr ⟨e, h, rfl⟩))))))))))))
theorem dTB_tm {w : Cond} (h : w ∈ dTM) : w ∈ dTB := List.mem_append.mpr (Or.inr (List.mem_append.mpr (Or.inr (List.mem_append.mpr (Or.inr (List.mem_append.mpr (Or.inr (List.mem_append.mpr (Or.inr (List.mem_append.mpr (Or.inr (List.mem_append.mpr (Or.inl h)))))))))))))
theorem dTB_xw {w : Cond} (h : w ∈ dXW) : w ∈ dTB := List.mem_append.mpr (Or.inr (List.mem_append.mpr (Or.inr (List.mem_append.mpr (Or.inr (List.mem_append.mpr (Or.inr (List.mem_append.mpr (Or.inr (List.mem_append.mpr (Or.inr (List.mem_append.mpr (Or.inr (List.mem_append.mpr (Or.inl h)))))))))))))))
theorem dTB_xc {w : Cond} (h : w ∈ dWC9) : w ∈ dTB := List.mem_append.mpr (Or.inr (List.mem_append.mpr (Or.inr (List.mem_append.mpr (Or.inr (List.mem_append.mpr (Or.inr (List.mem_append.mpr (Or.inr (List.mem_append.mpr (Or.inr (List.mem_append.mpr (Or.inr (List.mem_append.mpr (Or.inr (List.mem_append.mpr (Or.inl h)))))))))))))))))
theorem dTB_ac {o i : Nat} (h : (o, i) ∈ dAC) : Cond.methodLink (cR o) i arraycopyName ∈ dTB := List.mem_append.mpr (Or.inr (List.mem_append.mpr (Or.inr (List.mem_append.mpr (Or.inr (List.mem_append.mpr (Or.inr (List.mem_append.mpr (Or.inr (List.mem_append.mpr (Or.inr (List.mem_append.mpr (Or.inr (List.mem_append.mpr (Or.inr (List.mem_append.mpr (Or.inr (List.mem_append.mpr (Or.inl (List.mem_map.mpr ⟨(o, i), h, rfl⟩))))))))))))))))))))
theorem dTB_bc {o i : Nat} (h : (o, i) ∈ dBC) : Cond.methodLink (cR o) i dBitY ∈ dTB := List.mem_append.mpr (Or.inr (List.mem_append.mpr (Or.inr (List.mem_append.mpr (Or.inr (List.mem_append.mpr (Or.inr (List.mem_append.mpr (Or.inr (List.mem_append.mpr (Or.inr (List.mem_append.mpr (Or.inr (List.mem_append.mpr (Or.inr (List.mem_append.mpr (Or.inr (List.mem_append.mpr (Or.inr (List.mem_flatMap.mpr ⟨(o, i), h, List.mem_cons_self⟩))))))))))))))))))))
theorem dTB_b0 {o i : Nat} (h : (o, i) ∈ dBC) {w : Cond} (hw : w ∈ dWB0) : w ∈ dTB := List.mem_append.mpr (Or.inr (List.mem_append.mpr (Or.inr (List.mem_append.mpr (Or.inr (List.mem_append.mpr (Or.inr (List.mem_append.mpr (Or.inr (List.mem_append.mpr (Or.inr (List.mem_append.mpr (Or.inr (List.mem_append.mpr (Or.inr (List.mem_append.mpr (Or.inr (List.mem_append.mpr (Or.inr (List.mem_flatMap.mpr ⟨(o, i), h, List.mem_cons_of_mem _ hw⟩))))))))))))))))))))
theorem dTB_gd {w : Cond} (h : w ∈ dTB) : (w.onTables && w.keeps) = true ∨ ∃ ty, w = .arrayClass ty := good_of_word (List.all_eq_true.mp dTB_good w h)
theorem dGI {Ts ws : List Cond} (h1 : ∀ w ∈ dTB, w ∈ Ts) (h : ∀ w ∈ ws, w ∈ dTB) : GoodIn Ts ws := fun w hw => ⟨h1 w (h w hw), dTB_gd (h w hw)⟩
-- what is checked of an instruction
def dcallB (q : dMI) (i x : Nat) (ks : List Nat) : Bool := (dMT q.1).any (fun e => Nat.beq e.1 i && (Nat.beq e.2.1 (x / 16384) && ks.contains e.2.2)) && (match dMis[x / 16384]? with
  | none => false
  | some t => Nat.blt (x % 16) 14 && (!(dWith.contains (x / 16384)) && (decide (t.2.1.cls = cR (x % 16)) && (decide ((parseMethodDescriptor t.2.1.desc).map (fun d => d.parameters.length) = some (x / 16 % 16)) && Nat.beq (x / 256 % 64) t.2.2.2.1))))
/-- a call of a method with handlers -/
def dcallW (q : dMI) (i x : Nat) : Bool := (dMT q.1).any (fun e => Nat.beq e.1 i && (Nat.beq e.2.1 (x / 16384) && Nat.beq e.2.2 1)) && (match dMis[x / 16384]? with
  | none => false
  | some t => Nat.blt (x % 16) 14 && (dWith.contains (x / 16384) && (decide (t.2.1.cls = cR (x % 16)) && (decide ((parseMethodDescriptor t.2.1.desc).map (fun d => d.parameters.length) = some (x / 16 % 16)) && Nat.beq (x / 256 % 64) t.2.2.2.1))))
/-- no handler stands at a place -/
def dfree (q : dMI) (pc : Nat) : Bool := (dHH q).all fun z => !(Nat.ble z.1 pc && Nat.blt pc z.2.1)
/-- the handler that stands at a place: its store, and the place behind it -/
def dhook (q : dMI) (pc n t : Nat) : Bool := match dHH q with
  | [z] => Nat.ble z.1 pc && (Nat.blt pc z.2.1 && (decide (z.2.2.2 = 13 ∧ q.1 = 13) && (Nat.blt n q.2.2.2.1 && ((decide (decode q.2.2.1 z.2.2.1 = .ok (.astore n, 2)) && Nat.beq t (z.2.2.1 + 2)) || (if h : n < 4 then decide (decode q.2.2.1 z.2.2.1 = .ok (.astore_n ⟨n, h⟩, 1)) && Nat.beq t (z.2.2.1 + 1) else false)))))
  | _ => false
/-- new, dup, ldc, <init> of an exception -/
def dxnew (q : dMI) (pc i x : Nat) : Bool := dXN.any fun e => Nat.beq e.1 q.1 && (Nat.beq e.2.1 i && (decide (decode q.2.2.1 (pc + 3) = .ok (.dup, 1)) && (decide (decode q.2.2.1 (pc + 4) = .ok (.ldc e.2.2.1, 2)) && (decide (decode q.2.2.1 (pc + 6) = .ok (.invokespecial e.2.2.2.2, 3)) && (Nat.beq (x % 1099511627776) (pc + 9) && decide ((q.1, e.2.2.1, e.2.2.2.1) ∈ dSR))))))
def dtsB (pc x : Nat) : List Int → Nat → Bool
  | [], _ => true
  | o :: t, j => decide ((pc : Int) + o = ((wq 16 (x >>> 32) (j + 2) : Nat) : Int)) && dtsB pc x t (j + 1)
def dlsB (pc x : Nat) : List (Int × Int) → Nat → Bool
  | [], _ => true
  | a :: t, j => decide ((Int32.ofNat (wq 48 (x >>> 32) (2 * j))).toInt = a.1) && (Nat.blt (wq 48 (x >>> 32) (2 * j)) 4294967296 && (decide ((pc : Int) + a.2 = ((wq 48 (x >>> 32) (2 * j + 1) : Nat) : Int)) && dlsB pc x t (j + 1)))
def dxB (q : dMI) (pc : Nat) (ins : Instr) (len x : Nat) : Bool := match ins with
  | .iconst n => decide (Int32.ofInt n = Int32.ofNat x) && Nat.beq len 1
  | .bipush n => decide ((Int8.ofInt n).toInt32 = Int32.ofNat x) && Nat.beq len 2
  | .sipush n => decide ((Int16.ofInt n).toInt32 = Int32.ofNat x) && Nat.beq len 3
  | .lconst n => decide (Int64.ofNat (n : Nat) = Int64.ofNat x) && Nat.beq len 1
  | .ldc i => Nat.beq len 2 && ((Nat.ble 4294967296 x && decide ((q.1, i, x % 1048576) ∈ dSR)) || decide ((i, x) ∈ dKT q.1))
  | .ldc_w i => Nat.beq len 3 && ((Nat.ble 4294967296 x && decide ((q.1, i, x % 1048576) ∈ dSR)) || decide ((i, x) ∈ dKT q.1))
  | .ldc2_w i => Nat.beq len 3 && decide ((i, x) ∈ dJT q.1)
  | .iload_n n => Nat.beq len 1 && Nat.beq n.val x
  | .lload_n n => Nat.beq len 1 && Nat.beq n.val x
  | .aload_n n => Nat.beq len 1 && Nat.beq n.val x
  | .iload n => Nat.beq len 2 && Nat.beq n x
  | .lload n => Nat.beq len 2 && Nat.beq n x
  | .aload n => Nat.beq len 2 && Nat.beq n x
  | .istore_n n => Nat.beq len 1 && (Nat.beq n.val x && Nat.blt x q.2.2.2.1)
  | .astore_n n => Nat.beq len 1 && (Nat.beq n.val x && Nat.blt x q.2.2.2.1)
  | .lstore_n n => Nat.beq len 1 && (Nat.beq n.val x && Nat.blt (x + 1) q.2.2.2.1)
  | .istore n => Nat.beq len 2 && (Nat.beq n x && Nat.blt x q.2.2.2.1)
  | .astore n => Nat.beq len 2 && (Nat.beq n x && Nat.blt x q.2.2.2.1)
  | .lstore n => Nat.beq len 2 && (Nat.beq n x && Nat.blt (x + 1) q.2.2.2.1)
  | .iinc i n => Nat.beq len 3 && (Nat.beq (x / 4294967296) i && (decide (Int32.ofInt n = Int32.ofNat (x % 4294967296)) && Nat.blt i q.2.2.2.1))
  | .ifCond _ o => Nat.beq len 3 && decide ((pc : Int) + o = (x : Int))
  | .if_icmp _ o => Nat.beq len 3 && decide ((pc : Int) + o = (x : Int))
  | .goto o => Nat.beq len 3 && decide ((pc : Int) + o = (x : Int))
  | .tableswitch d lo hi os => decide ((Int32.ofNat (x % 4294967296)).toInt = lo) && (decide (-2147483648 ≤ lo ∧ lo ≤ hi ∧ hi < 2147483648) && (decide (((os.toList.length : Nat) : Int) = hi - lo + 1) && (Nat.beq (wq 16 (x >>> 32) 0) os.toList.length && (decide ((pc : Int) + d = ((wq 16 (x >>> 32) 1 : Nat) : Int)) && dtsB pc x os.toList 0))))
  | .getfield i => Nat.beq len 3 && (decide ((i, x / 1024, x / 4 % 256) ∈ dFT q.1) && (Nat.blt (x / 1024) 14 && (Nat.blt (x / 4 % 256) (cN (x / 1024)) && Nat.beq (tcode (cY (x / 1024) (x / 4 % 256))) (x % 4))))
  | .putfield i => Nat.beq len 3 && (decide ((i, x / 1024, x / 4 % 256) ∈ dFT q.1) && (Nat.blt (x / 1024) 14 && (Nat.blt (x / 4 % 256) (cN (x / 1024)) && (Nat.beq (tcode (cY (x / 1024) (x / 4 % 256))) (x % 4) && (!(cT (x / 1024) (x / 4 % 256)).2.2.2 || (decide (q.2.1.name = "<init>") && decide ((cT (x / 1024) (x / 4 % 256)).1 = cR q.1)))))))
  | .new i => Nat.beq len 3 && (Nat.beq x 0 || (Nat.ble 1099511627776 x && dxnew q pc i x) || (decide ((i, x / 256) ∈ dCT q.1) && (Nat.blt (x / 256) 14 && Nat.beq (x % 256) (cN (x / 256)))))
  | .newarray t => Nat.beq len 2 && (match t with
    | .int => Nat.beq x 0
    | .long => Nat.beq x 1
    | .byte => Nat.beq x 2
    | .boolean => Nat.beq x 3
    | _ => false)
  | .invokestatic i => Nat.beq len 3 && ((Nat.ble 1099511627776 x && ((Nat.ble 1099511627781 x && ((!(Nat.beq x 1099511627782) || decide ((q.1, i) ∈ dAC)) && (!(Nat.beq x 1099511627781) || decide ((q.1, i) ∈ dBC)))) || decide ((q.1, i, x % 1099511627776) ∈ dMM))) || (dcallB q i x [0] || (dcallB q i x [3] && decide ((q.1, i, x / 16384) ∈ dNT))))
  | .invokevirtual i => Nat.beq len 3 && ((Nat.beq x 1099511627777 && decide ((q.1, i, 1) ∈ dSM)) || ((Nat.beq x 1099511627778 && decide ((q.1, i, 2) ∈ dSM)) || ((Nat.beq x 1099511627779 && decide ((q.1, i, 3) ∈ dSM)) || ((Nat.ble 1099511627780 x && Nat.blt x 2199023255552) || (Nat.blt x 1099511627776 && dfree q pc && (dcallB q i x [1] || dcallW q i x)) || (Nat.ble 2199023255552 x && dcallB q i (x % 1099511627776) [1] && dhook q pc (x / 2199023255552 % 64) (x / 140737488355328))))))
  | .invokespecial i => Nat.beq len 3 && ((Nat.beq x 1099511627776 && decide (i ∈ dOT q.1)) || (!(Nat.beq x 1099511627776) && (Nat.ble 1099511627776 x || (dcallB q i x [2] && (match dMis[x / 16384]? with
    | none => false
    | some t => decide (t.2.1.name = "<init>") && t.2.2.2.2.isNone)))))
  | .athrow => Nat.beq len 1 && dfree q pc
  | .lookupswitch d ps => ((ps.toList.zip (ps.toList.drop 1)).all (fun (a, next) => a.1 < next.1)) && (Nat.beq (wq 16 x 0) ps.toList.length && (decide ((pc : Int) + d = ((wq 16 x 1 : Nat) : Int)) && dlsB pc x ps.toList 0))
  | .return_ => Nat.beq len 1 && q.2.2.2.2.isNone
  | .ireturn => Nat.beq len 1 && (match q.2.2.2.2 with
    | some .int => Nat.beq x 1
    | some .boolean => !(Nat.beq x 1)
    | _ => false)
  | .lreturn => Nat.beq len 1 && (match q.2.2.2.2 with
    | some .long => true
    | _ => false)
  | _ => Nat.beq len 1
def diB (q : dMI) (pc : Nat) (i : dI) : Bool := decide (decode q.2.2.1 pc = .ok (i.1, i.2.1)) && dxB q pc i.1 i.2.1 i.2.2
/-- a block from a place on -/
def ckb (q : dMI) : List dI → Nat → Bool
  | [], _ => true
  | i :: t, pc => diB q pc i && ckb q t (pc + i.2.1)
def dmB (q : dMI) : Bool := Nat.blt q.1 14 && (Nat.ble q.2.2.2.1 40 && (decide (q.2.1.cls = cR q.1) && plainName q.2.1.cls))
set_option maxRecDepth 100000 in
theorem dMs_all : dMis.all dmB = true := by decide +kernel
theorem dM_f {y : Nat} {q : dMI} (h : dMis[y]? = some q) : q.1 < 14 ∧ q.2.2.2.1 ≤ 40 ∧ q.2.1.cls = cR q.1 ∧ plainName q.2.1.cls = true := by
  have h1 := List.all_eq_true.mp dMs_all q (List.mem_of_getElem? h)
  simp only [dmB, Bool.and_eq_true, decide_eq_true_eq, Nat.blt_eq, Nat.ble_eq] at h1
  exact h1
end
section
/-! ===== what the words mean on the machine: the heap behind b, and a lemma for each instruction ===== -/
abbrev dD : Type := va_G × (Nat → ClassId)
def dTy (kd : Nat) : FieldType := match kd with
  | 0 => .int
  | 1 => .long
  | 2 => .byte
  | _ => .boolean
def dEl (kd ct j : Nat) : Value := match kd with
  | 0 => .int (Int32.ofNat (wd 32 ct j))
  | 1 => .long (Int64.ofNat (wd 64 ct j))
  | 2 => .int (Int32.ofNat (dI2b (wd 8 ct j)))
  | _ => .int (Int32.ofNat (wd 8 ct j))
def dFld (b : Nat → Nat) (ci ct k : Nat) : Value := dv b (fv (tcode (cY ci k)) (wd 64 ct k))
def dCR (D : dD) (b : Nat → Nat) (a : Nat) (c : dC) (H : Heap) : Prop := (c.1 < 4 ∧ H[a]? = some (arrV (D.2 c.1) c.2.1 (dEl c.1 c.2.2))) ∨ (∃ ci, ci < 14 ∧ c.1 = ci + 4 ∧ t_OB a (D.1.1 ci) (cN ci) (D.1.2 ci) H (dFld b ci c.2.2)) ∨ (c.1 = 18 ∧ ∃ ce : Cell, H[a]? = some ce ∧ ce.cls = D.2 4 ∧ ce.vm = .none)
theorem dCR.kept {D : dD} {b : Nat → Nat} {a : Nat} {c : dC} {H H1 : Heap} (h : dCR D b a c H) (e : H1[a]? = H[a]?) : dCR D b a c H1 := by
  rcases h with ⟨h1, h2⟩ | ⟨ci, h1, h2, h3⟩ | ⟨h1, ce, h2, h3⟩
  · exact Or.inl ⟨h1, e.trans h2⟩
  · exact Or.inr (Or.inl ⟨ci, h1, h2, h3.kept e⟩)
  · exact Or.inr (Or.inr ⟨h1, ce, e.trans h2, h3⟩)
/-- where cells lie: those of this heap one behind the other, behind all that was there -/
def dLn (b : Nat → Nat) : Prop := ∀ k, k < 1099511627776 → b k = b 0 + k
def dRl (D : dD) (b : Nat → Nat) (h : dH) (H : Heap) : Prop := (H.size = b 0 + h.1 ∧ h.1 < 1099511627776 ∧ dLn b) ∧ hwf h ∧ ∀ (k : Nat) (c : dC), hat h k = some c → dCR D b (b k) c H
def dS (b : Nat → Nat) (H0 H : Heap) (locs : List Loc) : Prop := b 0 ≤ H0.size ∧ (∀ q : Nat, q < b 0 → H[q]? = H0[q]?) ∧ ∀ l ∈ locs, b 0 ≤ l.base
theorem dRl.at {D : dD} {b : Nat → Nat} {h : dH} {H : Heap} (hR : dRl D b h H) {k : Nat} (hk : k ≤ h.1) : b k = b 0 + k := hR.1.2.2 k (by have := hR.1.2.1; omega)
theorem dRl.set {D : dD} {b : Nat → Nat} {h h' : dH} {H H1 : Heap} {k : Nat} {c c0 : dC} (hR : dRl D b h H) (hc0 : hat h k = some c0) (z : H1.size = H.size) (o : ∀ q, q ≠ b k → H1[q]? = H[q]?) (hc : dCR D b (b k) c H1) (e1 : h'.1 = h.1) (hw : hwf h') (e : ∀ j, hat h' j = if j = k then some c else hat h j) : dRl D b h' H1 := by
  refine ⟨⟨by rw [z, e1]; exact hR.1.1, by rw [e1]; exact hR.1.2.1, hR.1.2.2⟩, hw, fun j d hj => ?_⟩
  rw [e] at hj
  split at hj
  · rename_i hk
    subst hk
    cases hj
    exact hc
  · rename_i hk
    refine (hR.2.2 j d hj).kept (o _ ?_)
    have h1 := hR.at (Nat.le_of_lt (hat_lt hR.2.1 hj))
    have h2 := hR.at (Nat.le_of_lt (hat_lt hR.2.1 hc0))
    omega
theorem dRl.push {D : dD} {b : Nat → Nat} {h h' : dH} {H H1 : Heap} {c : dC} (hR : dRl D b h H) (hn : h.1 < 1073741824) (z : H1.size = H.size + 1) (o : ∀ q, q < H.size → H1[q]? = H[q]?) (hc : dCR D b H.size c H1) (e1 : h'.1 = h.1 + 1) (hw : hwf h') (e : ∀ j, hat h' j = if j = h.1 then some c else hat h j) : dRl D b h' H1 := by
  refine ⟨⟨by rw [z, e1, hR.1.1]; omega, by rw [e1]; omega, hR.1.2.2⟩, hw, fun j d hj => ?_⟩
  rw [e] at hj
  split at hj
  · rename_i hk
    subst hk
    cases hj
    rw [hR.at (Nat.le_refl _), ← hR.1.1]
    exact hc
  · have h1 := hat_lt hR.2.1 hj
    have h2 := hR.at (Nat.le_of_lt h1)
    exact (hR.2.2 j d hj).kept (o _ (by rw [hR.1.1]; omega))
theorem dS.put {b : Nat → Nat} {H0 H H1 : Heap} {locs : List Loc} {a k : Nat} (h : dS b H0 H locs) (o : ∀ q : Nat, q ≠ a → H1[q]? = H[q]?) (ha : b 0 ≤ a) : dS b H0 H1 (locs ++ [⟨a, k⟩]) := by
  refine ⟨h.1, fun q hq => (o q (by omega)).trans (h.2.1 q hq), fun x hx => ?_⟩
  rcases List.mem_append.mp hx with hx | hx
  · exact h.2.2 x hx
  · rw [List.mem_singleton.mp hx]; exact ha
theorem dS.push {b : Nat → Nat} {H0 H H1 : Heap} {locs : List Loc} {n : Nat} (h : dS b H0 H locs) (z : H.size = b 0 + n) (o : ∀ q : Nat, q < H.size → H1[q]? = H[q]?) : dS b H0 H1 locs :=
  ⟨h.1, fun q hq => (o q (by omega)).trans (h.2.1 q hq), h.2.2⟩
def dNm (y : Nat) : MethodName := match dMis[y]? with
  | some q => q.2.1
  | none => objectInit
def dLen : List Nat := dStr.map (·.1)
def dByt : List (List Int32) := dStr.map fun e => (List.range e.1).map fun j => Int32.ofNat (wd 8 e.2 j)
/-- the texts: where they lie, what they hold -/
def dKT2 (b : Nat → Nat) (U : State) (H : Heap) : Prop := dTxt (fun q => b 0 ≤ q) dStr.length dLen dByt (fun z => b (dT0 + z)) (fun z => b (dT1 + z)) U H
theorem dXt_tab {w : Cond} (h : dXt w = true) : w.onTables = true := by
  cases w <;> first | rfl | (exact absurd h (by simp [dXt]))
theorem dXt_warm {w : Cond} (h : dXt w = true) {s U : State} (hW : s.WarmedH U.vm) (hz : va_Nw w s) : va_Nw w U := by
  cases w <;> first | (exact va_Nw.warmC hW hz) | (exact va_Nw.warmD hW hz) | (exact absurd h (by simp [dXt]))
theorem dXB_t {w : Cond} (h : w ∈ dXB) : dXt w = true := List.all_eq_true.mp dXB_ok w h
/-- what exceptions need: their class, the words that are none of the tables', and what lies in two statics -/
def dKE (D : dD) (b : Nat → Nat) (U : State) (H : Heap) : Prop := U.vm.findClass xE = some (D.2 4) ∧ (∀ w ∈ dXB, va_Nw w U) ∧ vx_Zq Bundle.tN "UNASSIGNED_STACK" Bundle.steD (fun q => b 0 ≤ q) U H ∧ vx_Zq Bundle.tN "SUPPRESSED_SENTINEL" Bundle.listD (fun q => b 0 ≤ q) U H
theorem dKE.same {D : dD} {b : Nat → Nat} {u U : State} {H : Heap} (h : u.vm = U.vm) (hK : dKE D b u H) : dKE D b U H := by
  have ha : u.vm.Alike U.vm := by rw [h]; exact Vm.Alike.refl _
  exact ⟨by rw [← h]; exact hK.1, fun w hw => va_Nw.same (dXt_tab (dXB_t hw)) h (hK.2.1 w hw), hK.2.2.1.moved ha, hK.2.2.2.moved ha⟩
theorem dKE.warm {D : dD} {b : Nat → Nat} {s U : State} {H : Heap} (h : s.WarmedH U.vm) (hK : dKE D b s H) : dKE D b U H :=
  ⟨by rw [h.alike.findClass]; exact hK.1, fun w hw => dXt_warm (dXB_t hw) h (hK.2.1 w hw), hK.2.2.1.moved h.alike, hK.2.2.2.moved h.alike⟩
theorem dKE.kept {D : dD} {b : Nat → Nat} {U : State} {H H1 : Heap} (h : ∀ q : Nat, q < b 0 → H1[q]? = H[q]?) (hK : dKE D b U H) : dKE D b U H1 :=
  ⟨hK.1, hK.2.1, hK.2.2.1.kept fun a _ ha => h a (Nat.not_le.mp ha), hK.2.2.2.kept fun a _ ha => h a (Nat.not_le.mp ha)⟩
/-- what the machine's tables say, and the texts -/
def dKK (D : dD) (b : Nat → Nat) (U : State) (H : Heap) : Prop := va_K D.1 diCl [] U ∧ (∀ kd, kd < 4 → ArrOfT U (D.2 kd) (dTy kd) ∧ U.vm.findClass ("[" ++ (dTy kd).toString) = some (D.2 kd)) ∧ (∀ e ∈ dNT, va_Nw (.methodLinkNest (cR e.1) e.2.1 (dNm e.2.2) "ItemJudge") U) ∧ (∀ e ∈ dSR, vk_R (cR e.1) e.2.1 (dTn.getD e.2.2 "") (b (dT0 + e.2.2)) U) ∧ dKT2 b U H ∧ dKE D b U H
theorem dKK.same {D : dD} {b : Nat → Nat} {u U : State} {H : Heap} (h : u.vm = U.vm) (hK : dKK D b u H) : dKK D b U H := by
  have ha : u.vm.Alike U.vm := by rw [h]; exact Vm.Alike.refl _
  exact ⟨hK.1.moved ha, fun kd hk => ⟨arrOfT_moved ha (hK.2.1 kd hk).1, by rw [← h]; exact (hK.2.1 kd hk).2⟩, fun e he => va_Nw.same rfl h (hK.2.2.1 e he), fun e he => vk_R.same h.symm (hK.2.2.2.1 e he), dTxt.moved ha hK.2.2.2.2.1, dKE.same h hK.2.2.2.2.2⟩
theorem dKK.warm {D : dD} {b : Nat → Nat} {s U : State} {H : Heap} (h : s.WarmedH U.vm) (hK : dKK D b s H) : dKK D b U H :=
  ⟨hK.1.moved h.alike, fun kd hk => ⟨arrOfT_moved h.alike (hK.2.1 kd hk).1, by rw [h.alike.findClass]; exact (hK.2.1 kd hk).2⟩, fun e he => va_Nw.warmM h (hK.2.2.1 e he), fun e he => vk_R.warm h (hK.2.2.2.1 e he), dTxt.moved h.alike hK.2.2.2.2.1, dKE.warm h hK.2.2.2.2.2⟩
theorem dKK.kept {D : dD} {b : Nat → Nat} {U : State} {H H1 : Heap} (h : ∀ q : Nat, q < b 0 → H1[q]? = H[q]?) (hK : dKK D b U H) : dKK D b U H1 :=
  ⟨hK.1, hK.2.1, hK.2.2.1, hK.2.2.2.1, dTxt.kept hK.2.2.2.2.1 fun a _ ha => h a (Nat.not_le.mp ha), dKE.kept h hK.2.2.2.2.2⟩
def dQ (D : dD) (b : Nat → Nat) (r : Option dV) (h' : dH) : Array Value → State → Outcome → State → Prop := fun _ st oc t => oc = .returned (r.map (dv b)) ∧ dRl D b h' t.heap ∧ ∀ q : Nat, q < b 0 → t.heap[q]? = st.heap[q]?
/-- what holds where a method has thrown -/
def dXc (D : dD) (b : Nat → Nat) (h' : dH) : String → State → State → Prop := fun E st t => E = xE ∧ dRl D b h' t.heap ∧ ∀ q : Nat, q < b 0 → t.heap[q]? = st.heap[q]?
/-- a method's end: it has returned, or thrown -/
def dE (D : dD) (b : Nat → Nat) (r : Option dV) (h' : dH) (below : List Frame) (args : Array Value) (s : State) (mc ms : Nat) : State → Prop := match r with
  | some (.inr (.inr _)) => vx_MQ below (fun _ _ _ _ => False) (dXc D b h') args s mc ms (fun x => b 0 ≤ x)
  | r => MQ below (dQ D b r h') args s mc ms (fun x => b 0 ≤ x)
theorem dE_n {D : dD} {b : Nat → Nat} {r : Option dV} {h' : dH} {below : List Frame} {args : Array Value} {s : State} {mc ms : Nat} (hr : dthr r = false) : dE D b r h' below args s mc ms = MQ below (dQ D b r h') args s mc ms (fun x => b 0 ≤ x) := by
  match r, hr with
  | none, _ => rfl
  | some (.inl _), _ => rfl
  | some (.inr (.inl _)), _ => rfl
  | some (.inr (.inr _)), hr => cases hr
theorem dE_x {D : dD} {b : Nat → Nat} {r : Option dV} {h' : dH} {below : List Frame} {args : Array Value} {s : State} {mc ms : Nat} (hr : dthr r = true) : dE D b r h' below args s mc ms = vx_MQ below (fun _ _ _ _ => False) (dXc D b h') args s mc ms (fun x => b 0 ≤ x) := by
  match r, hr with
  | none, hr => cases hr
  | some (.inl _), hr => cases hr
  | some (.inr (.inl _)), hr => cases hr
  | some (.inr (.inr _)), _ => rfl
def dLv (b : Nat → Nat) (L : dL) : List (Nat × Value) := L.map fun e => (e.1, dv b e.2)
def dCx (p : Program) (s : State) (m : MethodId) (args : Array Value) (meth : Method) (c : Code) (q : dMI) (D : dD) (b : Nat → Nat) : Prop :=
  p.tables.exec = Jvm.exec ∧ c.code = q.2.2.1 ∧ c.maxLocals = q.2.2.2.1 ∧ s.vm.findClass (cR q.1) = some m.cls ∧ (∀ w ∈ dTs q, w.before args s = true) ∧ meth.sig.returnType = q.2.2.2.2 ∧ meth.locks = false ∧ meth.name = q.2.1.name ∧ dKK D b s s.heap ∧ c.exceptionTable.toList = tableOf (dHH q)
def dRm (R : Room) (d mc ms : Nat) : Prop := d ≤ R.frames ∧ d * 64 ≤ R.locals ∧ mc ≤ R.cells ∧ ms ≤ R.slots
def dWp (l : Launch) (D : dD) (b : Nat → Nat) (q : dMI) (d pc : Nat) (L : dL) (st : List dV) (h : dH) (r : Option dV) (h' : dH) : Prop :=
  ∀ (p : Program) (e : Env) (R : Room) (s : State) (m : MethodId) (args : Array Value) (below : List Frame) (meth : Method) (c : Code) (H : Heap) (locs : List Loc) (cells slots mc ms : Nat) (ls : Array Slot),
    dCx p s m args meth c q D b → dRl D b h H → dS b s.heap H locs → lv_has ls q.2.2.2.1 (dLv b L) → dRm R d mc ms → mc + h.1 = cells + h'.1 → ms + h.2.1 = slots + h'.2.1 →
    W p l e R s m args below meth c H locs cells slots (dE D b r h' below args s mc ms) (F0 m pc ls (st.map (dv b)))
theorem dlk_mem {L : dL} {i : Nat} {v : dV} (h : dlk L i = some v) : (i, v) ∈ L := by
  induction L with
  | nil => cases h
  | cons a t ih =>
    have h2 : cond (Nat.beq a.1 i) (some a.2) (dlk t i) = some v := h
    cases e : Nat.beq a.1 i
    · rw [e] at h2
      exact List.mem_cons_of_mem _ (ih h2)
    · rw [e] at h2
      cases h2
      have := Nat.eq_of_beq_eq_true e
      subst this
      exact List.mem_cons_self
theorem dlk_at {b : Nat → Nat} {nL : Nat} {ls : Array Slot} {L : dL} {i : Nat} {v : dV} (hl : lv_has ls nL (dLv b L)) (h : dlk L i = some v) : ls[i]? = some (.val (dv b v)) :=
  hl.2.2 (i, dv b v) (List.mem_map.mpr ⟨(i, v), dlk_mem h, rfl⟩)
theorem fltc_eq {α β : Type} (p : α → Bool) (L : List α) (k : List α → β) : fltc p L k = k (L.filter p) := by
  induction L generalizing k with
  | nil => rfl
  | cons a t ih =>
    show cond (p a) (fltc p t (fun u => k (a :: u))) (fltc p t k) = _
    cases e : p a
    · rw [List.filter_cons_of_neg (by simp [e])]; exact ih k
    · rw [List.filter_cons_of_pos e]; exact ih _
theorem dcat1 (b : Nat → Nat) (v : dV) : (dv b v).category = if disl v = true then 2 else 1 := by
  match v with
  | .inl n => rfl
  | .inr (.inl n) => rfl
  | .inr (.inr 0) => rfl
  | .inr (.inr (k + 1)) => rfl
theorem dbeq (a b : Nat) : Nat.beq a b = (a == b) := by
  rw [Bool.eq_iff_iff]; simp [Nat.beq_eq]
theorem dflt1 (b : Nat → Nat) (x : Nat) (v : dV) (L : dL) : (x, dv b v) :: (dLv b L).filter (fun q => !(q.1 == x) && !(q.1 + 1 == x && q.2.category == 2)) = dLv b ((x, v) :: L.filter (dp1 x)) := by
  simp only [dLv, List.map_cons, List.filter_map]
  congr 2
  congr 1
  funext e
  have hc := dcat1 b e.2
  simp only [Function.comp, dp1, hc]
  have e1 : Nat.beq e.1 x = (e.1 == x) := dbeq _ _
  have e2 : Nat.beq (Nat.succ e.1) x = (e.1 + 1 == x) := dbeq _ _
  rw [e1, e2]
  cases (e.1 == x) <;> cases (e.1 + 1 == x) <;> cases disl e.2 <;> rfl
theorem dflt2 (b : Nat → Nat) (x : Nat) (v : dV) (L : dL) : (x, dv b v) :: (dLv b L).filter (fun q => !(q.1 == x) && (!(q.1 == x + 1) && !(q.1 + 1 == x && q.2.category == 2))) = dLv b ((x, v) :: L.filter (dp2 x)) := by
  simp only [dLv, List.map_cons, List.filter_map]
  congr 2
  congr 1
  funext e
  have hc := dcat1 b e.2
  simp only [Function.comp, dp2, hc]
  have e1 : Nat.beq e.1 x = (e.1 == x) := dbeq _ _
  have e3 : Nat.beq e.1 (Nat.succ x) = (e.1 == x + 1) := dbeq _ _
  have e2 : Nat.beq (Nat.succ e.1) x = (e.1 + 1 == x) := dbeq _ _
  rw [e1, e2, e3]
  cases (e.1 == x) <;> cases (e.1 == x + 1) <;> cases (e.1 + 1 == x) <;> cases disl e.2 <;> rfl
theorem di_le (a b : Nat) : dLt a b = false ↔ Int32.ofNat b ≤ Int32.ofNat a := by
  rw [← Int32.not_lt, ← di_lt]
  cases dLt a b <;> simp
theorem dcond_f {x : Bool} : cond x false true = false ↔ x = true := by cases x <;> simp
theorem dcond_t {x : Bool} : cond x false true = true ↔ x = false := by cases x <;> simp
theorem dcd_ge_t {a k : Nat} (z : Int32.ofNat k ≤ Int32.ofNat a) : dcd .ge a k = true := by
  unfold dcd
  dsimp only
  rw [(di_le a k).mpr z]; rfl
theorem dcd_ge_f {a k : Nat} (z : ¬ Int32.ofNat k ≤ Int32.ofNat a) : dcd .ge a k = false := by
  unfold dcd
  dsimp only
  cases w : dLt a k
  · exact absurd ((di_le a k).mp w) z
  · rfl
theorem dcd_le_t {a k : Nat} (z : Int32.ofNat a ≤ Int32.ofNat k) : dcd .le a k = true := by
  unfold dcd
  dsimp only
  rw [(di_le k a).mpr z]; rfl
theorem dcd_le_f {a k : Nat} (z : ¬ Int32.ofNat a ≤ Int32.ofNat k) : dcd .le a k = false := by
  unfold dcd
  dsimp only
  cases w : dLt k a
  · exact absurd ((di_le k a).mp w) z
  · rfl
theorem dcd_lt_t {a k : Nat} (z : Int32.ofNat a < Int32.ofNat k) : dcd .lt a k = true := (di_lt a k).mpr z
theorem dcd_lt_f {a k : Nat} (z : ¬ Int32.ofNat a < Int32.ofNat k) : dcd .lt a k = false := Bool.eq_false_iff.mpr fun w => z ((di_lt a k).mp w)
theorem dcd_gt_t {a k : Nat} (z : Int32.ofNat k < Int32.ofNat a) : dcd .gt a k = true := (di_lt k a).mpr z
theorem dcd_gt_f {a k : Nat} (z : ¬ Int32.ofNat k < Int32.ofNat a) : dcd .gt a k = false := Bool.eq_false_iff.mpr fun w => z ((di_lt k a).mp w)
theorem dcd_eq_t {a k : Nat} (z : Int32.ofNat a = Int32.ofNat k) : dcd .eq a k = true := (di_eq a k).mpr z
theorem dcd_eq_f {a k : Nat} (z : ¬ Int32.ofNat a = Int32.ofNat k) : dcd .eq a k = false := Bool.eq_false_iff.mpr fun w => z ((di_eq a k).mp w)
theorem dcd_ne_t {a k : Nat} (z : ¬ Int32.ofNat a = Int32.ofNat k) : dcd .ne a k = true := by
  unfold dcd
  dsimp only
  rw [show dEq a k = false from Bool.eq_false_iff.mpr fun w => z ((di_eq a k).mp w)]; rfl
theorem dcd_ne_f {a k : Nat} (z : Int32.ofNat a = Int32.ofNat k) : dcd .ne a k = false := by
  unfold dcd
  dsimp only
  rw [(di_eq a k).mpr z]; rfl
section DS
variable {l : Launch} {D : dD} {b : Nat → Nat} {q : dMI} {d pc : Nat} {L : dL} {st : List dV} {h : dH} {r : Option dV} {h' : dH}

theorem ds_iconst {n : Int} {x : Nat} (hdg : decode q.2.2.1 pc = .ok (.iconst n, 1)) (hv : Int32.ofInt n = Int32.ofNat x) (G : dWp l D b q d (pc + 1) L (.inl x :: st) h r h') : dWp l D b q d pc L st h r h' := by
  intro p e R s m args below meth c H locs cells slots mc ms ls C hR hS hl hm e1 e2
  refine lv_iconst C.1 C.2.1 hdg hv ?_
  exact G p e R s m args below meth c H locs cells slots mc ms ls C hR hS hl hm e1 e2

theorem ds_bipush {n : Int} {x : Nat} (hdg : decode q.2.2.1 pc = .ok (.bipush n, 2)) (hv : (Int8.ofInt n).toInt32 = Int32.ofNat x) (G : dWp l D b q d (pc + 2) L (.inl x :: st) h r h') : dWp l D b q d pc L st h r h' := by
  intro p e R s m args below meth c H locs cells slots mc ms ls C hR hS hl hm e1 e2
  refine lv_bipush C.1 C.2.1 hdg hv ?_
  exact G p e R s m args below meth c H locs cells slots mc ms ls C hR hS hl hm e1 e2

theorem ds_sipush {n : Int} {x : Nat} (hdg : decode q.2.2.1 pc = .ok (.sipush n, 3)) (hv : (Int16.ofInt n).toInt32 = Int32.ofNat x) (G : dWp l D b q d (pc + 3) L (.inl x :: st) h r h') : dWp l D b q d pc L st h r h' := by
  intro p e R s m args below meth c H locs cells slots mc ms ls C hR hS hl hm e1 e2
  refine lv_sipush C.1 C.2.1 hdg hv ?_
  exact G p e R s m args below meth c H locs cells slots mc ms ls C hR hS hl hm e1 e2

theorem ds_lconst {n : Fin 2} {x : Nat} (hdg : decode q.2.2.1 pc = .ok (.lconst n, 1)) (hv : Int64.ofNat (n : Nat) = Int64.ofNat x) (G : dWp l D b q d (pc + 1) L (.inr (.inl x) :: st) h r h') : dWp l D b q d pc L st h r h' := by
  intro p e R s m args below meth c H locs cells slots mc ms ls C hR hS hl hm e1 e2
  refine lv_lconst C.1 C.2.1 hdg hv ?_
  exact G p e R s m args below meth c H locs cells slots mc ms ls C hR hS hl hm e1 e2

theorem ds_ldc {i x : Nat} (hdg : decode q.2.2.1 pc = .ok (.ldc i, 2)) (ho : q.1 < 14) (hx : (i, x) ∈ dKT q.1) (G : dWp l D b q d (pc + 2) L (.inl x :: st) h r h') : dWp l D b q d pc L st h r h' := by
  intro p e R s m args below meth c H locs cells slots mc ms ls C hR hS hl hm e1 e2
  have hw : Cond.constant (cR q.1) i (Int32.ofNat x) ∈ dTs q := List.mem_cons_of_mem _ (dTB_l ho (by unfold dWL; simp only [List.mem_append]; exact Or.inr (Or.inl (List.mem_map.mpr ⟨(i, x), hx, rfl⟩))))
  refine lv_ldc C.1 C.2.1 C.2.2.2.1 (C.2.2.2.2.1 _ hw) hdg ?_
  exact G p e R s m args below meth c H locs cells slots mc ms ls C hR hS hl hm e1 e2

theorem ds_ldcw {i x : Nat} (hdg : decode q.2.2.1 pc = .ok (.ldc_w i, 3)) (ho : q.1 < 14) (hx : (i, x) ∈ dKT q.1) (G : dWp l D b q d (pc + 3) L (.inl x :: st) h r h') : dWp l D b q d pc L st h r h' := by
  intro p e R s m args below meth c H locs cells slots mc ms ls C hR hS hl hm e1 e2
  have hw : Cond.constant (cR q.1) i (Int32.ofNat x) ∈ dTs q := List.mem_cons_of_mem _ (dTB_l ho (by unfold dWL; simp only [List.mem_append]; exact Or.inr (Or.inl (List.mem_map.mpr ⟨(i, x), hx, rfl⟩))))
  refine lv_ldcw C.1 C.2.1 C.2.2.2.1 (C.2.2.2.2.1 _ hw) hdg ?_
  exact G p e R s m args below meth c H locs cells slots mc ms ls C hR hS hl hm e1 e2

theorem ds_ldc2 {i x : Nat} (hdg : decode q.2.2.1 pc = .ok (.ldc2_w i, 3)) (ho : q.1 < 14) (hx : (i, x) ∈ dJT q.1) (G : dWp l D b q d (pc + 3) L (.inr (.inl x) :: st) h r h') : dWp l D b q d pc L st h r h' := by
  intro p e R s m args below meth c H locs cells slots mc ms ls C hR hS hl hm e1 e2
  have hw : Cond.constantLong (cR q.1) i (Int64.ofNat x) ∈ dTs q := List.mem_cons_of_mem _ (dTB_l ho (by unfold dWL; simp only [List.mem_append]; exact Or.inr (Or.inr (List.mem_map.mpr ⟨(i, x), hx, rfl⟩))))
  refine lv_ldc2 C.1 C.2.1 C.2.2.2.1 (C.2.2.2.2.1 _ hw) hdg ?_
  exact G p e R s m args below meth c H locs cells slots mc ms ls C hR hS hl hm e1 e2

theorem ds_iload_n {n : Fin 4} {x v : Nat} (hdg : decode q.2.2.1 pc = .ok (.iload_n n, 1)) (hi : (n : Nat) = x) (hv : dlk L x = some (.inl v)) (G : dWp l D b q d (pc + 1) L (.inl v :: st) h r h') : dWp l D b q d pc L st h r h' := by
  intro p e R s m args below meth c H locs cells slots mc ms ls C hR hS hl hm e1 e2
  refine lv_iload_n C.1 C.2.1 hdg hi (dlk_at hl hv) ?_
  exact G p e R s m args below meth c H locs cells slots mc ms ls C hR hS hl hm e1 e2

theorem ds_iload {x v : Nat} (hdg : decode q.2.2.1 pc = .ok (.iload x, 2)) (hv : dlk L x = some (.inl v)) (G : dWp l D b q d (pc + 2) L (.inl v :: st) h r h') : dWp l D b q d pc L st h r h' := by
  intro p e R s m args below meth c H locs cells slots mc ms ls C hR hS hl hm e1 e2
  refine lv_iload C.1 C.2.1 hdg (dlk_at hl hv) ?_
  exact G p e R s m args below meth c H locs cells slots mc ms ls C hR hS hl hm e1 e2

theorem ds_lload_n {n : Fin 4} {x v : Nat} (hdg : decode q.2.2.1 pc = .ok (.lload_n n, 1)) (hi : (n : Nat) = x) (hv : dlk L x = some (.inr (.inl v))) (G : dWp l D b q d (pc + 1) L (.inr (.inl v) :: st) h r h') : dWp l D b q d pc L st h r h' := by
  intro p e R s m args below meth c H locs cells slots mc ms ls C hR hS hl hm e1 e2
  refine lv_lload_n C.1 C.2.1 hdg hi (dlk_at hl hv) ?_
  exact G p e R s m args below meth c H locs cells slots mc ms ls C hR hS hl hm e1 e2

theorem ds_lload {x v : Nat} (hdg : decode q.2.2.1 pc = .ok (.lload x, 2)) (hv : dlk L x = some (.inr (.inl v))) (G : dWp l D b q d (pc + 2) L (.inr (.inl v) :: st) h r h') : dWp l D b q d pc L st h r h' := by
  intro p e R s m args below meth c H locs cells slots mc ms ls C hR hS hl hm e1 e2
  refine lv_lload C.1 C.2.1 hdg (dlk_at hl hv) ?_
  exact G p e R s m args below meth c H locs cells slots mc ms ls C hR hS hl hm e1 e2

theorem ds_aload_n {n : Fin 4} {x v : Nat} (hdg : decode q.2.2.1 pc = .ok (.aload_n n, 1)) (hi : (n : Nat) = x) (hv : dlk L x = some (.inr (.inr (Nat.succ v)))) (G : dWp l D b q d (pc + 1) L (.inr (.inr (Nat.succ v)) :: st) h r h') : dWp l D b q d pc L st h r h' := by
  intro p e R s m args below meth c H locs cells slots mc ms ls C hR hS hl hm e1 e2
  refine lv_aload_n C.1 C.2.1 hdg hi (dlk_at hl hv) ?_
  exact G p e R s m args below meth c H locs cells slots mc ms ls C hR hS hl hm e1 e2

theorem ds_aload {x v : Nat} (hdg : decode q.2.2.1 pc = .ok (.aload x, 2)) (hv : dlk L x = some (.inr (.inr (Nat.succ v)))) (G : dWp l D b q d (pc + 2) L (.inr (.inr (Nat.succ v)) :: st) h r h') : dWp l D b q d pc L st h r h' := by
  intro p e R s m args below meth c H locs cells slots mc ms ls C hR hS hl hm e1 e2
  refine lv_aload C.1 C.2.1 hdg (dlk_at hl hv) ?_
  exact G p e R s m args below meth c H locs cells slots mc ms ls C hR hS hl hm e1 e2

theorem ds_istore_n {n : Fin 4} {x v : Nat} (hdg : decode q.2.2.1 pc = .ok (.istore_n n, 1)) (hi : (n : Nat) = x) (hn : x < q.2.2.2.1) (G : dWp l D b q d (pc + 1) ((x, .inl v) :: L.filter (dp1 x)) st h r h') : dWp l D b q d pc L (.inl v :: st) h r h' := by
  intro p e R s m args below meth c H locs cells slots mc ms ls C hR hS hl hm e1 e2
  refine lv_istore_n C.1 C.2.1 hdg hi hl hn (dflt1 b x (.inl v) L) (fun ls2 hl2 => ?_)
  exact G p e R s m args below meth c H locs cells slots mc ms ls2 C hR hS hl2 hm e1 e2

theorem ds_istore {x v : Nat} (hdg : decode q.2.2.1 pc = .ok (.istore x, 2)) (hn : x < q.2.2.2.1) (G : dWp l D b q d (pc + 2) ((x, .inl v) :: L.filter (dp1 x)) st h r h') : dWp l D b q d pc L (.inl v :: st) h r h' := by
  intro p e R s m args below meth c H locs cells slots mc ms ls C hR hS hl hm e1 e2
  refine lv_istore C.1 C.2.1 hdg hl hn (dflt1 b x (.inl v) L) (fun ls2 hl2 => ?_)
  exact G p e R s m args below meth c H locs cells slots mc ms ls2 C hR hS hl2 hm e1 e2

theorem ds_lstore_n {n : Fin 4} {x v : Nat} (hdg : decode q.2.2.1 pc = .ok (.lstore_n n, 1)) (hi : (n : Nat) = x) (hn : x + 1 < q.2.2.2.1) (G : dWp l D b q d (pc + 1) ((x, .inr (.inl v)) :: L.filter (dp2 x)) st h r h') : dWp l D b q d pc L (.inr (.inl v) :: st) h r h' := by
  intro p e R s m args below meth c H locs cells slots mc ms ls C hR hS hl hm e1 e2
  refine lv_lstore_n C.1 C.2.1 hdg hi hl hn (dflt2 b x (.inr (.inl v)) L) (fun ls2 hl2 => ?_)
  exact G p e R s m args below meth c H locs cells slots mc ms ls2 C hR hS hl2 hm e1 e2

theorem ds_lstore {x v : Nat} (hdg : decode q.2.2.1 pc = .ok (.lstore x, 2)) (hn : x + 1 < q.2.2.2.1) (G : dWp l D b q d (pc + 2) ((x, .inr (.inl v)) :: L.filter (dp2 x)) st h r h') : dWp l D b q d pc L (.inr (.inl v) :: st) h r h' := by
  intro p e R s m args below meth c H locs cells slots mc ms ls C hR hS hl hm e1 e2
  refine lv_lstore C.1 C.2.1 hdg hl hn (dflt2 b x (.inr (.inl v)) L) (fun ls2 hl2 => ?_)
  exact G p e R s m args below meth c H locs cells slots mc ms ls2 C hR hS hl2 hm e1 e2

theorem ds_astore_n {n : Fin 4} {x v : Nat} (hdg : decode q.2.2.1 pc = .ok (.astore_n n, 1)) (hi : (n : Nat) = x) (hn : x < q.2.2.2.1) (G : dWp l D b q d (pc + 1) ((x, .inr (.inr (Nat.succ v))) :: L.filter (dp1 x)) st h r h') : dWp l D b q d pc L (.inr (.inr (Nat.succ v)) :: st) h r h' := by
  intro p e R s m args below meth c H locs cells slots mc ms ls C hR hS hl hm e1 e2
  refine lv_astore_n C.1 C.2.1 hdg hi hl hn (dflt1 b x (.inr (.inr (Nat.succ v))) L) (fun ls2 hl2 => ?_)
  exact G p e R s m args below meth c H locs cells slots mc ms ls2 C hR hS hl2 hm e1 e2

theorem ds_astore {x v : Nat} (hdg : decode q.2.2.1 pc = .ok (.astore x, 2)) (hn : x < q.2.2.2.1) (G : dWp l D b q d (pc + 2) ((x, .inr (.inr (Nat.succ v))) :: L.filter (dp1 x)) st h r h') : dWp l D b q d pc L (.inr (.inr (Nat.succ v)) :: st) h r h' := by
  intro p e R s m args below meth c H locs cells slots mc ms ls C hR hS hl hm e1 e2
  refine lv_astore C.1 C.2.1 hdg hl hn (dflt1 b x (.inr (.inr (Nat.succ v))) L) (fun ls2 hl2 => ?_)
  exact G p e R s m args below meth c H locs cells slots mc ms ls2 C hR hS hl2 hm e1 e2

theorem ds_iinc {i v w : Nat} {n : Int} (hdg : decode q.2.2.1 pc = .ok (.iinc i n, 3)) (hw : Int32.ofInt n = Int32.ofNat w) (hv : dlk L i = some (.inl v)) (hn : i < q.2.2.2.1) (G : dWp l D b q d (pc + 3) ((i, .inl (dAdd v w)) :: L.filter (dp1 i)) st h r h') : dWp l D b q d pc L st h r h' := by
  intro p e R s m args below meth c H locs cells slots mc ms ls C hR hS hl hm e1 e2
  obtain ⟨k, hk, hk2⟩ := List.getElem_of_mem (List.mem_map.mpr ⟨(i, (.inl v : dV)), dlk_mem hv, rfl⟩ : (i, dv b (.inl v)) ∈ dLv b L)
  refine lv_iinc (k := k) (x := Int32.ofNat v) (v := Int32.ofNat (dAdd v w)) C.1 C.2.1 hdg hl (show (List.map (fun e => (e.1, dv b e.2)) L)[k]? = _ from by rw [List.getElem?_eq_getElem hk, hk2]; rfl) (by rw [hw, di_add]) hn (dflt1 b i (.inl (dAdd v w)) L) (fun ls2 hl2 => ?_)
  exact G p e R s m args below meth c H locs cells slots mc ms ls2 C hR hS hl2 hm e1 e2

theorem ds_iadd {x y : Nat} (hdg : decode q.2.2.1 pc = .ok (.iadd, 1)) (G : dWp l D b q d (pc + 1) L (.inl (dAdd x y) :: st) h r h') : dWp l D b q d pc L (.inl y :: .inl x :: st) h r h' := by
  intro p e R s m args below meth c H locs cells slots mc ms ls C hR hS hl hm e1 e2
  refine lv_iadd C.1 C.2.1 hdg ?_
  rw [di_add]
  exact G p e R s m args below meth c H locs cells slots mc ms ls C hR hS hl hm e1 e2

theorem ds_isub {x y : Nat} (hdg : decode q.2.2.1 pc = .ok (.isub, 1)) (G : dWp l D b q d (pc + 1) L (.inl (dSub x y) :: st) h r h') : dWp l D b q d pc L (.inl y :: .inl x :: st) h r h' := by
  intro p e R s m args below meth c H locs cells slots mc ms ls C hR hS hl hm e1 e2
  refine lv_isub C.1 C.2.1 hdg ?_
  rw [di_sub]
  exact G p e R s m args below meth c H locs cells slots mc ms ls C hR hS hl hm e1 e2

theorem ds_imul {x y : Nat} (hdg : decode q.2.2.1 pc = .ok (.imul, 1)) (G : dWp l D b q d (pc + 1) L (.inl (dMul x y) :: st) h r h') : dWp l D b q d pc L (.inl y :: .inl x :: st) h r h' := by
  intro p e R s m args below meth c H locs cells slots mc ms ls C hR hS hl hm e1 e2
  refine lv_imul C.1 C.2.1 hdg ?_
  rw [di_mul]
  exact G p e R s m args below meth c H locs cells slots mc ms ls C hR hS hl hm e1 e2

theorem ds_iand {x y : Nat} (hdg : decode q.2.2.1 pc = .ok (.iand, 1)) (G : dWp l D b q d (pc + 1) L (.inl (dAnd x y) :: st) h r h') : dWp l D b q d pc L (.inl y :: .inl x :: st) h r h' := by
  intro p e R s m args below meth c H locs cells slots mc ms ls C hR hS hl hm e1 e2
  refine lv_iand C.1 C.2.1 hdg ?_
  rw [di_and]
  exact G p e R s m args below meth c H locs cells slots mc ms ls C hR hS hl hm e1 e2

theorem ds_ior {x y : Nat} (hdg : decode q.2.2.1 pc = .ok (.ior, 1)) (G : dWp l D b q d (pc + 1) L (.inl (dOr x y) :: st) h r h') : dWp l D b q d pc L (.inl y :: .inl x :: st) h r h' := by
  intro p e R s m args below meth c H locs cells slots mc ms ls C hR hS hl hm e1 e2
  refine lv_ior C.1 C.2.1 hdg ?_
  rw [di_or]
  exact G p e R s m args below meth c H locs cells slots mc ms ls C hR hS hl hm e1 e2

theorem ds_ixor {x y : Nat} (hdg : decode q.2.2.1 pc = .ok (.ixor, 1)) (G : dWp l D b q d (pc + 1) L (.inl (dXor x y) :: st) h r h') : dWp l D b q d pc L (.inl y :: .inl x :: st) h r h' := by
  intro p e R s m args below meth c H locs cells slots mc ms ls C hR hS hl hm e1 e2
  refine lv_ixor C.1 C.2.1 hdg ?_
  rw [di_xor]
  exact G p e R s m args below meth c H locs cells slots mc ms ls C hR hS hl hm e1 e2

theorem ds_ishl {x y : Nat} (hdg : decode q.2.2.1 pc = .ok (.ishl, 1)) (G : dWp l D b q d (pc + 1) L (.inl (dShl x y) :: st) h r h') : dWp l D b q d pc L (.inl y :: .inl x :: st) h r h' := by
  intro p e R s m args below meth c H locs cells slots mc ms ls C hR hS hl hm e1 e2
  refine lv_ishl C.1 C.2.1 hdg ?_
  rw [di_shl]
  exact G p e R s m args below meth c H locs cells slots mc ms ls C hR hS hl hm e1 e2

theorem ds_ishr {x y : Nat} (hdg : decode q.2.2.1 pc = .ok (.ishr, 1)) (G : dWp l D b q d (pc + 1) L (.inl (dShr x y) :: st) h r h') : dWp l D b q d pc L (.inl y :: .inl x :: st) h r h' := by
  intro p e R s m args below meth c H locs cells slots mc ms ls C hR hS hl hm e1 e2
  refine lv_ishr C.1 C.2.1 hdg ?_
  rw [di_shr]
  exact G p e R s m args below meth c H locs cells slots mc ms ls C hR hS hl hm e1 e2

theorem ds_ladd {x y : Nat} (hdg : decode q.2.2.1 pc = .ok (.ladd, 1)) (G : dWp l D b q d (pc + 1) L (.inr (.inl (dLAdd x y)) :: st) h r h') : dWp l D b q d pc L (.inr (.inl y) :: .inr (.inl x) :: st) h r h' := by
  intro p e R s m args below meth c H locs cells slots mc ms ls C hR hS hl hm e1 e2
  refine lv_ladd C.1 C.2.1 hdg ?_
  rw [di_ladd]
  exact G p e R s m args below meth c H locs cells slots mc ms ls C hR hS hl hm e1 e2

theorem ds_lsub {x y : Nat} (hdg : decode q.2.2.1 pc = .ok (.lsub, 1)) (G : dWp l D b q d (pc + 1) L (.inr (.inl (dLSub x y)) :: st) h r h') : dWp l D b q d pc L (.inr (.inl y) :: .inr (.inl x) :: st) h r h' := by
  intro p e R s m args below meth c H locs cells slots mc ms ls C hR hS hl hm e1 e2
  refine lv_lsub C.1 C.2.1 hdg ?_
  rw [di_lsub]
  exact G p e R s m args below meth c H locs cells slots mc ms ls C hR hS hl hm e1 e2

theorem ds_lmul {x y : Nat} (hdg : decode q.2.2.1 pc = .ok (.lmul, 1)) (G : dWp l D b q d (pc + 1) L (.inr (.inl (dLMul x y)) :: st) h r h') : dWp l D b q d pc L (.inr (.inl y) :: .inr (.inl x) :: st) h r h' := by
  intro p e R s m args below meth c H locs cells slots mc ms ls C hR hS hl hm e1 e2
  refine lv_lmul C.1 C.2.1 hdg ?_
  rw [di_lmul]
  exact G p e R s m args below meth c H locs cells slots mc ms ls C hR hS hl hm e1 e2

theorem ds_land {x y : Nat} (hdg : decode q.2.2.1 pc = .ok (.land, 1)) (G : dWp l D b q d (pc + 1) L (.inr (.inl (dLAnd x y)) :: st) h r h') : dWp l D b q d pc L (.inr (.inl y) :: .inr (.inl x) :: st) h r h' := by
  intro p e R s m args below meth c H locs cells slots mc ms ls C hR hS hl hm e1 e2
  refine lv_land C.1 C.2.1 hdg ?_
  rw [di_land]
  exact G p e R s m args below meth c H locs cells slots mc ms ls C hR hS hl hm e1 e2

theorem ds_lor {x y : Nat} (hdg : decode q.2.2.1 pc = .ok (.lor, 1)) (G : dWp l D b q d (pc + 1) L (.inr (.inl (dLOr x y)) :: st) h r h') : dWp l D b q d pc L (.inr (.inl y) :: .inr (.inl x) :: st) h r h' := by
  intro p e R s m args below meth c H locs cells slots mc ms ls C hR hS hl hm e1 e2
  refine lv_lor C.1 C.2.1 hdg ?_
  rw [di_lor]
  exact G p e R s m args below meth c H locs cells slots mc ms ls C hR hS hl hm e1 e2

theorem ds_lxor {x y : Nat} (hdg : decode q.2.2.1 pc = .ok (.lxor, 1)) (G : dWp l D b q d (pc + 1) L (.inr (.inl (dLXor x y)) :: st) h r h') : dWp l D b q d pc L (.inr (.inl y) :: .inr (.inl x) :: st) h r h' := by
  intro p e R s m args below meth c H locs cells slots mc ms ls C hR hS hl hm e1 e2
  refine lv_lxor C.1 C.2.1 hdg ?_
  rw [di_lxor]
  exact G p e R s m args below meth c H locs cells slots mc ms ls C hR hS hl hm e1 e2

theorem ds_idiv {x y : Nat} (hz : dZ y = false) (hdg : decode q.2.2.1 pc = .ok (.idiv, 1)) (G : dWp l D b q d (pc + 1) L (.inl (dDiv x y) :: st) h r h') : dWp l D b q d pc L (.inl y :: .inl x :: st) h r h' := by
  intro p e R s m args below meth c H locs cells slots mc ms ls C hR hS hl hm e1 e2
  refine lv_idiv C.1 C.2.1 hdg (di_z hz) ?_
  rw [di_div]
  exact G p e R s m args below meth c H locs cells slots mc ms ls C hR hS hl hm e1 e2

theorem ds_irem {x y : Nat} (hz : dZ y = false) (hdg : decode q.2.2.1 pc = .ok (.irem, 1)) (G : dWp l D b q d (pc + 1) L (.inl (dRem x y) :: st) h r h') : dWp l D b q d pc L (.inl y :: .inl x :: st) h r h' := by
  intro p e R s m args below meth c H locs cells slots mc ms ls C hR hS hl hm e1 e2
  refine lv_irem C.1 C.2.1 hdg (di_z hz) ?_
  rw [di_rem]
  exact G p e R s m args below meth c H locs cells slots mc ms ls C hR hS hl hm e1 e2

theorem ds_ldiv {x y : Nat} (hz : dLZ y = false) (hdg : decode q.2.2.1 pc = .ok (.ldiv, 1)) (G : dWp l D b q d (pc + 1) L (.inr (.inl (dLDiv x y)) :: st) h r h') : dWp l D b q d pc L (.inr (.inl y) :: .inr (.inl x) :: st) h r h' := by
  intro p e R s m args below meth c H locs cells slots mc ms ls C hR hS hl hm e1 e2
  refine lv_ldiv C.1 C.2.1 hdg (di_lz hz) ?_
  rw [di_ldiv]
  exact G p e R s m args below meth c H locs cells slots mc ms ls C hR hS hl hm e1 e2

theorem ds_lcmp {x y : Nat} (hdg : decode q.2.2.1 pc = .ok (.lcmp, 1)) (G : dWp l D b q d (pc + 1) L (.inl (dCmp x y) :: st) h r h') : dWp l D b q d pc L (.inr (.inl y) :: .inr (.inl x) :: st) h r h' := by
  intro p e R s m args below meth c H locs cells slots mc ms ls C hR hS hl hm e1 e2
  refine W.lcmp C.1 C.2.1 hdg ?_
  rw [di_cmp]
  exact G p e R s m args below meth c H locs cells slots mc ms ls C hR hS hl hm e1 e2

theorem ds_lshl {x y : Nat} (hdg : decode q.2.2.1 pc = .ok (.lshl, 1)) (G : dWp l D b q d (pc + 1) L (.inr (.inl (dLShl x y)) :: st) h r h') : dWp l D b q d pc L (.inl y :: .inr (.inl x) :: st) h r h' := by
  intro p e R s m args below meth c H locs cells slots mc ms ls C hR hS hl hm e1 e2
  refine lv_lshl C.1 C.2.1 hdg (di_lshl x y) ?_
  exact G p e R s m args below meth c H locs cells slots mc ms ls C hR hS hl hm e1 e2

theorem ds_lushr {x y : Nat} (hdg : decode q.2.2.1 pc = .ok (.lushr, 1)) (G : dWp l D b q d (pc + 1) L (.inr (.inl (dLUshr x y)) :: st) h r h') : dWp l D b q d pc L (.inl y :: .inr (.inl x) :: st) h r h' := by
  intro p e R s m args below meth c H locs cells slots mc ms ls C hR hS hl hm e1 e2
  refine lv_lushr C.1 C.2.1 hdg (di_lushr x y) ?_
  exact G p e R s m args below meth c H locs cells slots mc ms ls C hR hS hl hm e1 e2

theorem ds_ineg {x : Nat} (hdg : decode q.2.2.1 pc = .ok (.ineg, 1)) (G : dWp l D b q d (pc + 1) L (.inl (dNeg x) :: st) h r h') : dWp l D b q d pc L (.inl x :: st) h r h' := by
  intro p e R s m args below meth c H locs cells slots mc ms ls C hR hS hl hm e1 e2
  refine lv_ineg C.1 C.2.1 hdg ?_
  rw [di_neg]
  exact G p e R s m args below meth c H locs cells slots mc ms ls C hR hS hl hm e1 e2

theorem ds_i2b {x : Nat} (hdg : decode q.2.2.1 pc = .ok (.i2b, 1)) (G : dWp l D b q d (pc + 1) L (.inl (dI2b x) :: st) h r h') : dWp l D b q d pc L (.inl x :: st) h r h' := by
  intro p e R s m args below meth c H locs cells slots mc ms ls C hR hS hl hm e1 e2
  refine lv_i2b C.1 C.2.1 hdg (di_i2b x) ?_
  exact G p e R s m args below meth c H locs cells slots mc ms ls C hR hS hl hm e1 e2

theorem ds_i2l {x : Nat} (hdg : decode q.2.2.1 pc = .ok (.i2l, 1)) (G : dWp l D b q d (pc + 1) L (.inr (.inl (dI2l x)) :: st) h r h') : dWp l D b q d pc L (.inl x :: st) h r h' := by
  intro p e R s m args below meth c H locs cells slots mc ms ls C hR hS hl hm e1 e2
  refine lv_i2l C.1 C.2.1 hdg (di_i2l x) ?_
  exact G p e R s m args below meth c H locs cells slots mc ms ls C hR hS hl hm e1 e2

theorem ds_l2i {x : Nat} (hdg : decode q.2.2.1 pc = .ok (.l2i, 1)) (G : dWp l D b q d (pc + 1) L (.inl (dL2i x) :: st) h r h') : dWp l D b q d pc L (.inr (.inl x) :: st) h r h' := by
  intro p e R s m args below meth c H locs cells slots mc ms ls C hR hS hl hm e1 e2
  refine lv_l2i C.1 C.2.1 hdg (di_l2i x) ?_
  exact G p e R s m args below meth c H locs cells slots mc ms ls C hR hS hl hm e1 e2

theorem ds_if {cn : ClassFile.Cond} {off : Int} {x a : Nat} (hdg : decode q.2.2.1 pc = .ok (.ifCond cn off, 3)) (ht : (pc : Int) + off = (x : Int)) (G1 : dcd cn a 0 = true → dWp l D b q d x L st h r h') (G2 : dcd cn a 0 = false → dWp l D b q d (pc + 3) L st h r h') : dWp l D b q d pc L (.inl a :: st) h r h' := by
  intro p e R s m args below meth c H locs cells slots mc ms ls C hR hS hl hm e1 e2
  cases cn
  · exact lv_if_eq C.1 C.2.1 hdg ht (fun z => G1 (dcd_eq_t (k := 0) z) p e R s m args below meth c H locs cells slots mc ms ls C hR hS hl hm e1 e2) (fun z => G2 (dcd_eq_f (k := 0) z) p e R s m args below meth c H locs cells slots mc ms ls C hR hS hl hm e1 e2)
  · exact lv_if_ne C.1 C.2.1 hdg ht (fun z => G1 (dcd_ne_t (k := 0) z) p e R s m args below meth c H locs cells slots mc ms ls C hR hS hl hm e1 e2) (fun z => G2 (dcd_ne_f (k := 0) z) p e R s m args below meth c H locs cells slots mc ms ls C hR hS hl hm e1 e2)
  · exact lv_if_lt C.1 C.2.1 hdg ht (fun z => G1 (dcd_lt_t (k := 0) z) p e R s m args below meth c H locs cells slots mc ms ls C hR hS hl hm e1 e2) (fun z => G2 (dcd_lt_f (k := 0) z) p e R s m args below meth c H locs cells slots mc ms ls C hR hS hl hm e1 e2)
  · exact lv_if_ge C.1 C.2.1 hdg ht (fun z => G1 (dcd_ge_t (k := 0) z) p e R s m args below meth c H locs cells slots mc ms ls C hR hS hl hm e1 e2) (fun z => G2 (dcd_ge_f (k := 0) z) p e R s m args below meth c H locs cells slots mc ms ls C hR hS hl hm e1 e2)
  · exact lv_if_gt C.1 C.2.1 hdg ht (fun z => G1 (dcd_gt_t (k := 0) z) p e R s m args below meth c H locs cells slots mc ms ls C hR hS hl hm e1 e2) (fun z => G2 (dcd_gt_f (k := 0) z) p e R s m args below meth c H locs cells slots mc ms ls C hR hS hl hm e1 e2)
  · exact lv_if_le C.1 C.2.1 hdg ht (fun z => G1 (dcd_le_t (k := 0) z) p e R s m args below meth c H locs cells slots mc ms ls C hR hS hl hm e1 e2) (fun z => G2 (dcd_le_f (k := 0) z) p e R s m args below meth c H locs cells slots mc ms ls C hR hS hl hm e1 e2)

theorem ds_icmp {cn : ClassFile.Cond} {off : Int} {x a k : Nat} (hdg : decode q.2.2.1 pc = .ok (.if_icmp cn off, 3)) (ht : (pc : Int) + off = (x : Int)) (G1 : dcd cn a k = true → dWp l D b q d x L st h r h') (G2 : dcd cn a k = false → dWp l D b q d (pc + 3) L st h r h') : dWp l D b q d pc L (.inl k :: .inl a :: st) h r h' := by
  intro p e R s m args below meth c H locs cells slots mc ms ls C hR hS hl hm e1 e2
  cases cn
  · exact lv_icmp_eq C.1 C.2.1 hdg ht (fun z => G1 (dcd_eq_t z) p e R s m args below meth c H locs cells slots mc ms ls C hR hS hl hm e1 e2) (fun z => G2 (dcd_eq_f z) p e R s m args below meth c H locs cells slots mc ms ls C hR hS hl hm e1 e2)
  · exact lv_icmp_ne C.1 C.2.1 hdg ht (fun z => G1 (dcd_ne_t z) p e R s m args below meth c H locs cells slots mc ms ls C hR hS hl hm e1 e2) (fun z => G2 (dcd_ne_f z) p e R s m args below meth c H locs cells slots mc ms ls C hR hS hl hm e1 e2)
  · exact lv_icmp_lt C.1 C.2.1 hdg ht (fun z => G1 (dcd_lt_t z) p e R s m args below meth c H locs cells slots mc ms ls C hR hS hl hm e1 e2) (fun z => G2 (dcd_lt_f z) p e R s m args below meth c H locs cells slots mc ms ls C hR hS hl hm e1 e2)
  · exact lv_icmp_ge C.1 C.2.1 hdg ht (fun z => G1 (dcd_ge_t z) p e R s m args below meth c H locs cells slots mc ms ls C hR hS hl hm e1 e2) (fun z => G2 (dcd_ge_f z) p e R s m args below meth c H locs cells slots mc ms ls C hR hS hl hm e1 e2)
  · exact lv_icmp_gt C.1 C.2.1 hdg ht (fun z => G1 (dcd_gt_t z) p e R s m args below meth c H locs cells slots mc ms ls C hR hS hl hm e1 e2) (fun z => G2 (dcd_gt_f z) p e R s m args below meth c H locs cells slots mc ms ls C hR hS hl hm e1 e2)
  · exact lv_icmp_le C.1 C.2.1 hdg ht (fun z => G1 (dcd_le_t z) p e R s m args below meth c H locs cells slots mc ms ls C hR hS hl hm e1 e2) (fun z => G2 (dcd_le_f z) p e R s m args below meth c H locs cells slots mc ms ls C hR hS hl hm e1 e2)

theorem ds_goto {off : Int} {x : Nat} (hdg : decode q.2.2.1 pc = .ok (.goto off, 3)) (ht : (pc : Int) + off = (x : Int)) (G : dWp l D b q d x L st h r h') : dWp l D b q d pc L st h r h' := by
  intro p e R s m args below meth c H locs cells slots mc ms ls C hR hS hl hm e1 e2
  refine lv_goto C.1 C.2.1 hdg ht ?_
  exact G p e R s m args below meth c H locs cells slots mc ms ls C hR hS hl hm e1 e2

theorem ds_dup {v : dV} (hdg : decode q.2.2.1 pc = .ok (.dup, 1)) (hv : disl v = false) (G : dWp l D b q d (pc + 1) L (v :: v :: st) h r h') : dWp l D b q d pc L (v :: st) h r h' := by
  intro p e R s m args below meth c H locs cells slots mc ms ls C hR hS hl hm e1 e2
  refine lv_dup C.1 C.2.1 hdg (by rw [dcat1, hv]; rfl) ?_
  exact G p e R s m args below meth c H locs cells slots mc ms ls C hR hS hl hm e1 e2

theorem ds_pop {v : dV} (hdg : decode q.2.2.1 pc = .ok (.pop, 1)) (hv : disl v = false) (G : dWp l D b q d (pc + 1) L st h r h') : dWp l D b q d pc L (v :: st) h r h' := by
  intro p e R s m args below meth c H locs cells slots mc ms ls C hR hS hl hm e1 e2
  refine lv_pop C.1 C.2.1 hdg (by rw [dcat1, hv]; rfl) ?_
  exact G p e R s m args below meth c H locs cells slots mc ms ls C hR hS hl hm e1 e2

theorem ds_dup2_2 {v : dV} (hdg : decode q.2.2.1 pc = .ok (.dup2, 1)) (hv : disl v = true) (G : dWp l D b q d (pc + 1) L (v :: v :: st) h r h') : dWp l D b q d pc L (v :: st) h r h' := by
  intro p e R s m args below meth c H locs cells slots mc ms ls C hR hS hl hm e1 e2
  refine lv_dup2_2 C.1 C.2.1 hdg (by rw [dcat1, hv]; rfl) ?_
  exact G p e R s m args below meth c H locs cells slots mc ms ls C hR hS hl hm e1 e2

theorem ds_dup2_11 {v w : dV} (hdg : decode q.2.2.1 pc = .ok (.dup2, 1)) (hv : disl v = false) (hw : disl w = false) (G : dWp l D b q d (pc + 1) L (v :: w :: v :: w :: st) h r h') : dWp l D b q d pc L (v :: w :: st) h r h' := by
  intro p e R s m args below meth c H locs cells slots mc ms ls C hR hS hl hm e1 e2
  refine lv_dup2_11 C.1 C.2.1 hdg (by rw [dcat1, hv]; rfl) (by rw [dcat1, hw]; rfl) ?_
  exact G p e R s m args below meth c H locs cells slots mc ms ls C hR hS hl hm e1 e2

end DS
end
section
/-! ===== fields, rows, what is made, calls and answers on the machine ===== -/
theorem dCl_at : ∀ ci, ci < 14 → diCl[ci]? = some (cR ci, cT ci, cN ci) := fun ci h => match ci, h with
  | 0, _ => rfl
  | 1, _ => rfl
  | 2, _ => rfl
  | 3, _ => rfl
  | 4, _ => rfl
  | 5, _ => rfl
  | 6, _ => rfl
  | 7, _ => rfl
  | 8, _ => rfl
  | 9, _ => rfl
  | 10, _ => rfl
  | 11, _ => rfl
  | 12, _ => rfl
  | 13, _ => rfl
  | n + 14, h => absurd h (by omega)
theorem cT_ty : ∀ ci, ci < 14 → ∀ k, k < cN ci → parseFieldDescriptor (cT ci k).2.2.1 = some (cY ci k) := fun ci h => match ci, h with
  | 0, _ => tyX0_ok
  | 1, _ => tyX1_ok
  | 2, _ => tyX2_ok
  | 3, _ => tyX3_ok
  | 4, _ => tyX4_ok
  | 5, _ => tyX5_ok
  | 6, _ => tyX6_ok
  | 7, _ => tyX7_ok
  | 8, _ => tyX8_ok
  | 9, _ => tyX9_ok
  | 10, _ => tyX10_ok
  | 11, _ => tyX11_ok
  | 12, _ => tyX12_ok
  | 13, _ => tyX13_ok
  | n + 14, h => absurd h (by omega)
theorem cT_nm : ∀ ci, ci < 14 → ∀ x, x < cN ci → ∀ y, y < cN ci → x ≠ y → (cT ci x).2.1 ≠ (cT ci y).2.1 := fun ci h => match ci, h with
  | 0, _ => nmX0
  | 1, _ => nmX1
  | 2, _ => nmX2
  | 3, _ => nmX3
  | 4, _ => nmX4
  | 5, _ => nmX5
  | 6, _ => nmX6
  | 7, _ => nmX7
  | 8, _ => nmX8
  | 9, _ => nmX9
  | 10, _ => nmX10
  | 11, _ => nmX11
  | 12, _ => nmX12
  | 13, _ => nmX13
  | n + 14, h => absurd h (by omega)
theorem cY_tc : ∀ ci, ci < 14 → ∀ k, k < cN ci → tcode (cY ci k) < 4 := by decide +kernel
theorem cR_mh : ∀ ci, ci < 14 → cR ci ≠ "java/lang/invoke/MethodHandle" ∧ cR ci ≠ "java/lang/invoke/VarHandle" := by decide +kernel
theorem dCR.obj {D : dD} {b : Nat → Nat} {a ci n ct : Nat} {H : Heap} (h : dCR D b a (ci + 4, n, ct) H) (hci : ci < 14) : t_OB a (D.1.1 ci) (cN ci) (D.1.2 ci) H (dFld b ci ct) := by
  rcases h with ⟨h1, -⟩ | ⟨cj, -, h2, h3⟩ | ⟨h1, -⟩
  · exact absurd h1 (by show ¬ ci + 4 < 4; omega)
  · have e : cj = ci := by
      have : ci + 4 = cj + 4 := h2
      omega
    subst e
    exact h3
  · exact absurd h1 (by show ¬ ci + 4 = 18; omega)
theorem dCR.exc {D : dD} {b : Nat → Nat} {a n ct : Nat} {H : Heap} (h : dCR D b a (18, n, ct) H) : ∃ ce : Cell, H[a]? = some ce ∧ ce.cls = D.2 4 ∧ ce.vm = .none := by
  rcases h with ⟨h1, -⟩ | ⟨cj, h1, h2, -⟩ | ⟨-, h3⟩
  · exact absurd h1 (by show ¬ 18 < 4; omega)
  · exact absurd h2 (by show ¬ 18 = cj + 4; omega)
  · exact h3
theorem dCR.arr {D : dD} {b : Nat → Nat} {a kd n ct : Nat} {H : Heap} (hk : kd < 4) (h : dCR D b a (kd, n, ct) H) : H[a]? = some (arrV (D.2 kd) n (dEl kd ct)) := by
  rcases h with ⟨-, h2⟩ | ⟨cj, -, h2, -⟩ | ⟨h2, -⟩
  · exact h2
  · exact absurd h2 (by show ¬ kd = cj + 4; omega)
  · exact absurd h2 (by show ¬ kd = 18; omega)
theorem dV_at {b : Nat → Nat} {ci ct k : Nat} (hk : k < cN ci) : vp_V ((List.range (cN ci)).map (dFld b ci ct)) k = dFld b ci ct k := by
  simp [vp_V, hk]
theorem dP_of {D : dD} {b : Nat → Nat} {a ci ct : Nat} {H : Heap} (hci : ci < 14) (h : t_OB a (D.1.1 ci) (cN ci) (D.1.2 ci) H (dFld b ci ct)) : va_P D.1 diCl [(a, .inr (ci, (List.range (cN ci)).map (dFld b ci ct)))] H := by
  intro k x hx
  match k, hx with
  | 0, hx =>
    cases hx
    exact ⟨_, dCl_at ci hci, h.to (fun k hk => (dV_at hk).symm)⟩
  | k + 1, hx => cases hx
theorem dcast {b : Nat → Nat} {ty : FieldType} {w : Nat} (h : tcode ty < 4) : dv b (fv (tcode ty) 0) = defaultValue ty := by
  cases ty <;> first | rfl | (exact absurd h (by decide))
theorem dix {i n : Nat} (h1 : i % 4294967296 < n) (h2 : i % 4294967296 < 2147483648) : ¬ (Int32.ofNat i < 0 ∨ n ≤ (Int32.ofNat i).toNatClampNeg) ∧ (Int32.ofNat i).toNatClampNeg = i % 4294967296 := by
  rw [← di_imod i]
  have hc : (Int32.ofNat (i % 4294967296)).toNatClampNeg = i % 4294967296 := nI_clamp (show i % 4294967296 < 2 ^ 31 from h2)
  refine ⟨?_, hc⟩
  rw [hc]
  rintro (q | q)
  · rw [Int32.lt_iff_toInt_lt, di_iv] at q
    rw [if_pos (by omega)] at q
    have : (0 : Int32).toInt = 0 := rfl
    omega
  · omega
theorem ds_v0 (v : Nat) : Value.int (Int32.ofNat v) = .int (Int32.ofNat (v % 4294967296)) := by rw [di_imod]
theorem ds_v1 (v : Nat) : Value.long (Int64.ofNat v) = .long (Int64.ofNat (v % 18446744073709551616)) := by rw [di_jmod]
theorem ds_v2 (v : Nat) : narrow .byte (.int (Int32.ofNat v)) = .int (Int32.ofNat (dI2b (v % 256))) := by
  show Value.int ((Int32.ofNat v).toInt8.toInt32) = _
  rw [di_i2b, di_i2b_eq, di_i2b_eq, Nat.mod_mod]
theorem ds_v3 (v : Nat) : narrow .boolean (.int (Int32.ofNat v)) = .int (Int32.ofNat (v % 2)) := by
  show Value.int (Int32.ofNat v &&& 1) = _
  rw [show (1 : Int32) = Int32.ofNat 1 from rfl, di_and0, show v &&& 1 = v % 2 from Nat.and_two_pow_sub_one_eq_mod v 1]
section DC
variable {l : Launch} {D : dD} {b : Nat → Nat} {q : dMI} {d pc : Nat} {L : dL} {st : List dV} {h h1 : dH} {r : Option dV} {h' : dH} {a n ct ci k : Nat}
theorem ds_getfield {i tc : Nat} (hdg : decode q.2.2.1 pc = .ok (.getfield i, 3)) (ho : q.1 < 14) (hf : (i, ci, k) ∈ dFT q.1) (hci : ci < 14) (hk : k < cN ci) (htc : tcode (cY ci k) = tc) (hc : hat h a = some (ci + 4, n, ct)) (G : dWp l D b q d (pc + 3) L (fv tc (wd 64 ct k) :: st) h r h') : dWp l D b q d pc L (.inr (.inr (Nat.succ a)) :: st) h r h' := by
  intro p e R s m args below meth c H locs cells slots mc ms ls C hR hS hl hm e1 e2
  have hO := (hR.2.2 a _ hc).obj hci
  refine va_get (D := D.1) (ws := [(b a, .inr (ci, (List.range (cN ci)).map (dFld b ci ct)))]) (ci := ci) (v := dv b (fv tc (wd 64 ct k))) (C := cR ci) (T := cT ci) (N := cN ci) C.1 C.2.1 C.2.2.2.2.1 (fun w hw => List.mem_cons_of_mem _ (dTB_u hci hw)) C.2.2.2.1 C.2.2.2.2.2.2.2.2.1.1 (dP_of hci hO) 0 rfl (dCl_at ci hci) k hk (C.2.2.2.2.1 _ (List.mem_cons_of_mem _ (dTB_f ho hf))) (fun _ z => z) (by simp [hk, dFld, htc]) hdg ?_
  exact G p e R s m args below meth c H locs cells slots mc ms ls C hR hS hl hm e1 e2
theorem ds_putfield {i w : Nat} {v : dV} (hdg : decode q.2.2.1 pc = .ok (.putfield i, 3)) (ho : q.1 < 14) (hf : (i, ci, k) ∈ dFT q.1) (hci : ci < 14) (hk : k < cN ci) (hfin : (cT ci k).2.2.2 = true → q.2.1.name = "<init>" ∧ (cT ci k).1 = cR q.1) (hc : hat h a = some (ci + 4, n, ct)) (hw : w < 2 ^ 64) (hval : dv b (fv (tcode (cY ci k)) w) = dv b v) (hfit : fits (cY ci k) (dv b v) = true) (hnar : narrow (cY ci k) (dv b v) = dv b v)
    (z1 : h1.1 = h.1) (z2 : h1.2.1 = h.2.1) (hw1 : hwf h1) (eh : ∀ j, hat h1 j = if j = a then some (ci + 4, n, wst 64 ct k w) else hat h j) (G : dWp l D b q d (pc + 3) L st h1 r h') : dWp l D b q d pc L (v :: .inr (.inr (Nat.succ a)) :: st) h r h' := by
  intro p e R s m args below meth c H locs cells slots mc ms ls C hR hS hl hm e1 e2
  obtain ⟨cell, q1, q2, q3, q4⟩ := (hR.2.2 a _ hc).obj hci
  obtain ⟨hSl, hfc, kC, hkC, hkind⟩ := C.2.2.2.2.2.2.2.2.1.1.1 ci _ (dCl_at ci hci)
  obtain ⟨cf, kf, fi, f, hi, hsl⟩ := hSl k hk
  have hts := C.2.2.2.2.1
  have hin : ∀ w ∈ u_ws (cR ci) (cT ci) (cN ci), w ∈ dTs q := fun w hw => List.mem_cons_of_mem _ (dTB_u hci hw)
  have hap : ∀ x y, x < cN ci → y < cN ci → x ≠ y → (D.1.2 ci) x ≠ (D.1.2 ci) y := va_apart (D := D.1) (cl := diCl) (tys := []) (own := cR ci) hts hin (cY ci) (cT_ty ci hci) (cT_nm ci hci) C.2.2.2.2.2.2.2.2.1.1 (dCl_at ci hci)
  have hlink := hts _ (List.mem_cons_of_mem _ (dTB_f ho hf))
  have hlay := hts _ (hin _ (u_in_lay hk))
  have hd := cT_ty ci hci k hk
  have hst := (u_facts hfc hkC (u_lays hts hin hk) hi).1
  have hdone : ∀ (H1 : Heap), H1[b a]? = some (cell.setSlot (D.1.2 ci k) (dv b v)) → H1.size = H.size → (∀ x, x ≠ b a → H1[x]? = H[x]?) → W p l e R s m args below meth c H1 (locs ++ [⟨b a, D.1.2 ci k⟩]) cells slots (dE D b r h' below args s mc ms) (F0 m (pc + 3) ls (st.map (dv b))) := by
    intro H1 x1 x2 x3
    refine G p e R s m args below meth c H1 _ cells slots mc ms ls C (hR.set hc x2 x3 (Or.inr (Or.inl ⟨ci, hci, rfl, ?_⟩)) z1 hw1 eh) (hS.put x3 (by have := hR.at (Nat.le_of_lt (hat_lt hR.2.1 hc)); omega)) hl hm (by omega) (by omega)
    refine t_OB.to (V := updV (dFld b ci ct) k (dv b v)) ⟨_, x1, q2, q3, t_set q4 hap hk _⟩ (fun j hj => ?_)
    show updV _ _ _ j = dv b (fv (tcode (cY ci j)) (wd 64 (wst 64 ct k w) j))
    rw [wd_wst j hw]
    by_cases hjk : j = k
    · subst hjk
      simp [updV, hval]
    · simp [updV, hjk, dFld]
  unfold u_lay at hlay
  cases hfl : (cT ci k).2.2.2
  · rw [if_neg (by rw [hfl]; decide)] at hlay
    have h6 := u_store hfc hkC hkind hlay hi hd hnar hfit
    refine W.putK C.1 C.2.1 (f := f) ⟨C.2.2.2.1, hlink, ⟨_, _, _, hi⟩, hst⟩ (by rw [q2]; exact h6) q1 q3 (by rw [hsl]; exact k2_hasslot (q4 k hk)) rfl rfl hdg fun H' x1 x2 x3 => ?_
    rw [hsl] at x1 ⊢
    exact hdone H' x1 x2 x3
  · rw [if_pos hfl] at hlay
    obtain ⟨hi1, hi2⟩ := hfin hfl
    have hcf : m.cls = cf := by
      obtain ⟨_, _, c', _, _, _, -, -, hf', -, -, -, hown2, -⟩ := Cond.laysFinal_spec hlay
      have y1 : c' = cf := by have := hi.symm.trans hf'; simp at this; exact this.1.symm
      rw [hi2] at hown2
      rw [← y1]; exact Option.some.inj (C.2.2.2.1.symm.trans hown2)
    have h6 := u_fits hfc hkC hkind (Or.inr hlay) hi hd hnar hfit
    refine W.putFinK C.1 C.2.1 C.2.2.2.1 hlink hi hst hcf (C.2.2.2.2.2.2.2.1.trans hi1) (by rw [q2]; exact h6) q1 q3 (by rw [hsl]; exact k2_hasslot (q4 k hk)) rfl rfl hdg fun H' x1 x2 x3 => ?_
    rw [hsl] at x1 ⊢
    exact hdone H' x1 x2 x3
theorem ds_new {i : Nat} (hn : h.1 < 1073741824) (hdg : decode q.2.2.1 pc = .ok (.new i, 3)) (ho : q.1 < 14) (hx : (i, ci) ∈ dCT q.1) (hci : ci < 14) (z1 : h1.1 = h.1 + 1) (z2 : h1.2.1 = h.2.1 + cN ci) (hw1 : hwf h1) (eh : ∀ j, hat h1 j = if j = h.1 then some (ci + 4, cN ci, 0) else hat h j) (y1 : h1.1 ≤ h'.1) (y2 : h1.2.1 ≤ h'.2.1) (G : dWp l D b q d (pc + 3) L (.inr (.inr (Nat.succ h.1)) :: st) h1 r h') : dWp l D b q d pc L st h r h' := by
  intro p e R s m args below meth c H locs cells slots mc ms ls C hR hS hl hm e1 e2
  have hts := C.2.2.2.2.1
  have hin : ∀ w ∈ u_ws (cR ci) (cT ci) (cN ci), w ∈ dTs q := fun w hw => List.mem_cons_of_mem _ (dTB_u hci hw)
  have hKn := C.2.2.2.2.2.2.2.2.1.1.1 ci _ (dCl_at ci hci)
  have w1 : Cond.classLink (cR q.1) i (cR ci) ∈ dTs q := List.mem_cons_of_mem _ (dTB_l ho (by unfold dWL; exact List.mem_append.mpr (Or.inl (List.mem_map.mpr ⟨(i, ci), hx, rfl⟩))))
  have w2 : Cond.instantiable (cR ci) (cN ci) ∈ dTs q := List.mem_cons_of_mem _ (dTB_n hci (by simp))
  have w3 : Cond.initialized (cR ci) ∈ dTs q := List.mem_cons_of_mem _ (dTB_n hci (by simp))
  refine W.newcK C.1 C.2.1 C.2.2.2.1 (hts _ w1) (hts _ w2) (hts _ w3) rfl hdg (by have := hm.2.2.1; omega) (by have := hm.2.2.2; omega) hKn.2.1 rfl fun H1 kC hkC x1 x2 x3 => ?_
  rw [show (Value.ref H.size : Value) = dv b (.inr (.inr (Nat.succ h.1))) by rw [hR.1.1, ← hR.at (Nat.le_refl _)]; rfl]
  refine G p e R s m args below meth c H1 locs (cells + 1) (slots + cN ci) mc ms ls C (hR.push hn x2 x3 (Or.inr (Or.inl ⟨ci, hci, rfl, ?_⟩)) z1 hw1 eh) (hS.push hR.1.1 x3) hl hm (by omega) (by omega)
  refine (u_born (cY ci) hts hin hKn hkC x1 (cT_ty ci hci)).to (fun j hj => ?_)
  show _ = dv b (fv _ (wd 64 0 j))
  rw [wd_0, dcast (w := 0) (cY_tc ci hci j hj)]
theorem dEl_0 {kd j : Nat} (hk : kd < 4) : dEl kd 0 j = defaultValue (dTy kd) := by
  rcases (show kd = 0 ∨ kd = 1 ∨ kd = 2 ∨ kd = 3 by omega) with rfl | rfl | rfl | rfl <;> (simp only [dEl, dTy, wd_0]; rfl)
theorem ds_newarray {t : ArrayType} {kd x N : Nat} (hn : h.1 < 1073741824) (hdg : decode q.2.2.1 pc = .ok (.newarray t, 2)) (hk : kd < 4) (ht : newarray.typeOf t = dTy kd) (hN : x % 4294967296 = N) (hle : N ≤ 67108864) (z1 : h1.1 = h.1 + 1) (z2 : h1.2.1 = h.2.1 + N) (hw1 : hwf h1) (eh : ∀ j, hat h1 j = if j = h.1 then some (kd, N, 0) else hat h j) (y1 : h1.1 ≤ h'.1) (y2 : h1.2.1 ≤ h'.2.1) (G : dWp l D b q d (pc + 2) L (.inr (.inr (Nat.succ h.1)) :: st) h1 r h') : dWp l D b q d pc L (.inl x :: st) h r h' := by
  intro p e R s m args below meth c H locs cells slots mc ms ls C hR hS hl hm e1 e2
  have hts := C.2.2.2.2.1
  have hi := dix (i := x) (n := N + 1) (by omega) (by omega)
  have w1 : Cond.arrayClass (newarray.typeOf t) ∈ dTs q := by
    rw [ht]
    rcases (show kd = 0 ∨ kd = 1 ∨ kd = 2 ∨ kd = 3 by omega) with rfl | rfl | rfl | rfl <;> exact List.mem_cons_of_mem _ (List.mem_append.mpr (Or.inl (by simp [dTy])))
  refine va_newaK C.1 C.2.1 (hts _ w1) rfl hdg rfl (fun z => hi.1 (Or.inl z)) (hi.2.trans hN) ?_ (by have := hm.2.2.1; omega) (by have := hm.2.2.2; omega) rfl fun H1 cA x1 x2 x3 hAr hNm => ?_
  · rw [ht]
    rcases (show kd = 0 ∨ kd = 1 ∨ kd = 2 ∨ kd = 3 by omega) with rfl | rfl | rfl | rfl <;> (simp only [dTy, componentBytes]; omega)
  · have hcA : cA = D.2 kd := by
      rw [ht] at hNm
      exact Option.some.inj (hNm.symm.trans (C.2.2.2.2.2.2.2.2.1.2.1 kd hk).2)
    subst hcA
    rw [show (Value.ref H.size : Value) = dv b (.inr (.inr (Nat.succ h.1))) by rw [hR.1.1, ← hR.at (Nat.le_refl _)]; rfl]
    refine G p e R s m args below meth c H1 locs (cells + 1) (slots + N) mc ms ls C (hR.push hn x2 x3 (Or.inl ⟨hk, ?_⟩) z1 hw1 eh) (hS.push hR.1.1 x3) hl hm (by omega) (by omega)
    rw [x1, ht]
    congr 2
    funext j
    exact (dEl_0 hk).symm
theorem ds_alen {kd : Nat} (hdg : decode q.2.2.1 pc = .ok (.arraylength, 1)) (hk : kd < 4) (hc : hat h a = some (kd, n, ct)) (G : dWp l D b q d (pc + 1) L (.inl n :: st) h r h') : dWp l D b q d pc L (.inr (.inr (Nat.succ a)) :: st) h r h' := by
  intro p e R s m args below meth c H locs cells slots mc ms ls C hR hS hl hm e1 e2
  refine W.alen (n := Int32.ofNat n) C.1 C.2.1 ((hR.2.2 a _ hc).arr hk) ((C.2.2.2.2.2.2.2.2.1.2.1 kd hk).1 n (dEl kd ct)) (by rw [arrV_size]; try rfl) rfl rfl hdg ?_
  exact G p e R s m args below meth c H locs cells slots mc ms ls C hR hS hl hm e1 e2

theorem ds_iaload {i x : Nat} (hdg : decode q.2.2.1 pc = .ok (.iaload, 1)) (hc : hat h a = some (0, n, ct)) (hx : x % 4294967296 = i) (h1 : i < n) (h2 : i < 2147483648) (G : dWp l D b q d (pc + 1) L (.inl (wd 32 ct i) :: st) h r h') : dWp l D b q d pc L (.inl x :: .inr (.inr (Nat.succ a)) :: st) h r h' := by
  intro p e R s m args below meth c H locs cells slots mc ms ls C hR hS hl hm e1 e2
  subst hx
  have hi := dix h1 h2
  refine W.iald (v := dEl 0 ct (x % 4294967296)) C.1 C.2.1 ((hR.2.2 a _ hc).arr (by decide)) ((C.2.2.2.2.2.2.2.2.1.2.1 0 (by decide)).1 n (dEl 0 ct)) (fun z => by cases z) (by rw [arrV_size]; exact hi.1) (by rw [hi.2, arrV_read _ _ h1]) rfl rfl hdg ?_
  exact G p e R s m args below meth c H locs cells slots mc ms ls C hR hS hl hm e1 e2

theorem ds_laload {i x : Nat} (hdg : decode q.2.2.1 pc = .ok (.laload, 1)) (hc : hat h a = some (1, n, ct)) (hx : x % 4294967296 = i) (h1 : i < n) (h2 : i < 2147483648) (G : dWp l D b q d (pc + 1) L (.inr (.inl (wd 64 ct i)) :: st) h r h') : dWp l D b q d pc L (.inl x :: .inr (.inr (Nat.succ a)) :: st) h r h' := by
  intro p e R s m args below meth c H locs cells slots mc ms ls C hR hS hl hm e1 e2
  subst hx
  have hi := dix h1 h2
  refine W.lald (v := dEl 1 ct (x % 4294967296)) C.1 C.2.1 ((hR.2.2 a _ hc).arr (by decide)) ((C.2.2.2.2.2.2.2.2.1.2.1 1 (by decide)).1 n (dEl 1 ct)) (fun z => by cases z) (by rw [arrV_size]; exact hi.1) (by rw [hi.2, arrV_read _ _ h1]) rfl rfl hdg ?_
  exact G p e R s m args below meth c H locs cells slots mc ms ls C hR hS hl hm e1 e2

theorem ds_baload2 {i x : Nat} (hdg : decode q.2.2.1 pc = .ok (.baload, 1)) (hc : hat h a = some (2, n, ct)) (hx : x % 4294967296 = i) (h1 : i < n) (h2 : i < 2147483648) (G : dWp l D b q d (pc + 1) L (.inl (dI2b (wd 8 ct i)) :: st) h r h') : dWp l D b q d pc L (.inl x :: .inr (.inr (Nat.succ a)) :: st) h r h' := by
  intro p e R s m args below meth c H locs cells slots mc ms ls C hR hS hl hm e1 e2
  subst hx
  have hi := dix h1 h2
  refine W.bald (v := dEl 2 ct (x % 4294967296)) C.1 C.2.1 ((hR.2.2 a _ hc).arr (by decide)) ((C.2.2.2.2.2.2.2.2.1.2.1 2 (by decide)).1 n (dEl 2 ct)) (fun z => by cases z) (by rw [arrV_size]; exact hi.1) (by rw [hi.2, arrV_read _ _ h1]) rfl rfl hdg ?_
  exact G p e R s m args below meth c H locs cells slots mc ms ls C hR hS hl hm e1 e2

theorem ds_baload3 {i x : Nat} (hdg : decode q.2.2.1 pc = .ok (.baload, 1)) (hc : hat h a = some (3, n, ct)) (hx : x % 4294967296 = i) (h1 : i < n) (h2 : i < 2147483648) (G : dWp l D b q d (pc + 1) L (.inl (wd 8 ct i) :: st) h r h') : dWp l D b q d pc L (.inl x :: .inr (.inr (Nat.succ a)) :: st) h r h' := by
  intro p e R s m args below meth c H locs cells slots mc ms ls C hR hS hl hm e1 e2
  subst hx
  have hi := dix h1 h2
  refine W.zald (v := dEl 3 ct (x % 4294967296)) C.1 C.2.1 ((hR.2.2 a _ hc).arr (by decide)) ((C.2.2.2.2.2.2.2.2.1.2.1 3 (by decide)).1 n (dEl 3 ct)) (fun z => by cases z) (by rw [arrV_size]; exact hi.1) (by rw [hi.2, arrV_read _ _ h1]) rfl rfl hdg ?_
  exact G p e R s m args below meth c H locs cells slots mc ms ls C hR hS hl hm e1 e2

theorem ds_iastore {i x v : Nat} (hdg : decode q.2.2.1 pc = .ok (.iastore, 1)) (hc : hat h a = some (0, n, ct)) (hx : x % 4294967296 = i) (g1 : i < n) (g2 : i < 2147483648) (z1 : h1.1 = h.1) (z2 : h1.2.1 = h.2.1) (hw1 : hwf h1) (eh : ∀ j, hat h1 j = if j = a then some (0, n, wst 32 ct i (v % 4294967296)) else hat h j) (G : dWp l D b q d (pc + 1) L st h1 r h') : dWp l D b q d pc L (.inl v :: .inl x :: .inr (.inr (Nat.succ a)) :: st) h r h' := by
  intro p e R s m args below meth c H locs cells slots mc ms ls C hR hS hl hm e1 e2
  subst hx
  have hi := dix g1 g2
  refine W.iast C.1 C.2.1 ((hR.2.2 a _ hc).arr (by decide)) ((C.2.2.2.2.2.2.2.2.1.2.1 0 (by decide)).1 n (dEl 0 ct)) (fun z => by cases z) (by rw [arrV_size]; exact hi.1) rfl rfl hdg fun H1 x1 x2 x3 => ?_
  rw [hi.2] at x1 ⊢
  refine G p e R s m args below meth c H1 _ cells slots mc ms ls C (hR.set hc x2 x3 (Or.inl ⟨show 0 < 4 by decide, ?_⟩) z1 hw1 eh) (hS.put x3 (by have := hR.at (Nat.le_of_lt (hat_lt hR.2.1 hc)); omega)) hl hm (by omega) (by omega)
  rw [x1, arrV_store]
  congr 2
  funext j
  have hlt : v % 4294967296 < 2 ^ 32 := by omega
  by_cases hj : j = x % 4294967296
  · simp only [updV, if_pos hj, dEl, wd_wst j hlt]
    exact ds_v0 v
  · simp only [updV, if_neg hj, dEl, wd_wst j hlt]

theorem ds_lastore {i x v : Nat} (hdg : decode q.2.2.1 pc = .ok (.lastore, 1)) (hc : hat h a = some (1, n, ct)) (hx : x % 4294967296 = i) (g1 : i < n) (g2 : i < 2147483648) (z1 : h1.1 = h.1) (z2 : h1.2.1 = h.2.1) (hw1 : hwf h1) (eh : ∀ j, hat h1 j = if j = a then some (1, n, wst 64 ct i (v % 18446744073709551616)) else hat h j) (G : dWp l D b q d (pc + 1) L st h1 r h') : dWp l D b q d pc L (.inr (.inl v) :: .inl x :: .inr (.inr (Nat.succ a)) :: st) h r h' := by
  intro p e R s m args below meth c H locs cells slots mc ms ls C hR hS hl hm e1 e2
  subst hx
  have hi := dix g1 g2
  refine W.last C.1 C.2.1 ((hR.2.2 a _ hc).arr (by decide)) ((C.2.2.2.2.2.2.2.2.1.2.1 1 (by decide)).1 n (dEl 1 ct)) (fun z => by cases z) (by rw [arrV_size]; exact hi.1) rfl rfl hdg fun H1 x1 x2 x3 => ?_
  rw [hi.2] at x1 ⊢
  refine G p e R s m args below meth c H1 _ cells slots mc ms ls C (hR.set hc x2 x3 (Or.inl ⟨show 1 < 4 by decide, ?_⟩) z1 hw1 eh) (hS.put x3 (by have := hR.at (Nat.le_of_lt (hat_lt hR.2.1 hc)); omega)) hl hm (by omega) (by omega)
  rw [x1, arrV_store]
  congr 2
  funext j
  have hlt : v % 18446744073709551616 < 2 ^ 64 := by omega
  by_cases hj : j = x % 4294967296
  · simp only [updV, if_pos hj, dEl, wd_wst j hlt]
    exact ds_v1 v
  · simp only [updV, if_neg hj, dEl, wd_wst j hlt]

theorem ds_bastore2 {i x v : Nat} (hdg : decode q.2.2.1 pc = .ok (.bastore, 1)) (hc : hat h a = some (2, n, ct)) (hx : x % 4294967296 = i) (g1 : i < n) (g2 : i < 2147483648) (z1 : h1.1 = h.1) (z2 : h1.2.1 = h.2.1) (hw1 : hwf h1) (eh : ∀ j, hat h1 j = if j = a then some (2, n, wst 8 ct i (v % 256)) else hat h j) (G : dWp l D b q d (pc + 1) L st h1 r h') : dWp l D b q d pc L (.inl v :: .inl x :: .inr (.inr (Nat.succ a)) :: st) h r h' := by
  intro p e R s m args below meth c H locs cells slots mc ms ls C hR hS hl hm e1 e2
  subst hx
  have hi := dix g1 g2
  refine W.bast C.1 C.2.1 ((hR.2.2 a _ hc).arr (by decide)) ((C.2.2.2.2.2.2.2.2.1.2.1 2 (by decide)).1 n (dEl 2 ct)) (fun z => by cases z) (by rw [arrV_size]; exact hi.1) rfl rfl hdg fun H1 x1 x2 x3 => ?_
  rw [hi.2] at x1 ⊢
  refine G p e R s m args below meth c H1 _ cells slots mc ms ls C (hR.set hc x2 x3 (Or.inl ⟨show 2 < 4 by decide, ?_⟩) z1 hw1 eh) (hS.put x3 (by have := hR.at (Nat.le_of_lt (hat_lt hR.2.1 hc)); omega)) hl hm (by omega) (by omega)
  rw [x1, arrV_store]
  congr 2
  funext j
  have hlt : v % 256 < 2 ^ 8 := by omega
  by_cases hj : j = x % 4294967296
  · simp only [updV, if_pos hj, dEl, wd_wst j hlt]
    exact ds_v2 v
  · simp only [updV, if_neg hj, dEl, wd_wst j hlt]

theorem ds_bastore3 {i x v : Nat} (hdg : decode q.2.2.1 pc = .ok (.bastore, 1)) (hc : hat h a = some (3, n, ct)) (hx : x % 4294967296 = i) (g1 : i < n) (g2 : i < 2147483648) (z1 : h1.1 = h.1) (z2 : h1.2.1 = h.2.1) (hw1 : hwf h1) (eh : ∀ j, hat h1 j = if j = a then some (3, n, wst 8 ct i (v % 2)) else hat h j) (G : dWp l D b q d (pc + 1) L st h1 r h') : dWp l D b q d pc L (.inl v :: .inl x :: .inr (.inr (Nat.succ a)) :: st) h r h' := by
  intro p e R s m args below meth c H locs cells slots mc ms ls C hR hS hl hm e1 e2
  subst hx
  have hi := dix g1 g2
  refine W.zast C.1 C.2.1 ((hR.2.2 a _ hc).arr (by decide)) ((C.2.2.2.2.2.2.2.2.1.2.1 3 (by decide)).1 n (dEl 3 ct)) (fun z => by cases z) (by rw [arrV_size]; exact hi.1) rfl rfl hdg fun H1 x1 x2 x3 => ?_
  rw [hi.2] at x1 ⊢
  refine G p e R s m args below meth c H1 _ cells slots mc ms ls C (hR.set hc x2 x3 (Or.inl ⟨show 3 < 4 by decide, ?_⟩) z1 hw1 eh) (hS.put x3 (by have := hR.at (Nat.le_of_lt (hat_lt hR.2.1 hc)); omega)) hl hm (by omega) (by omega)
  rw [x1, arrV_store]
  congr 2
  funext j
  have hlt : v % 2 < 2 ^ 8 := by omega
  by_cases hj : j = x % 4294967296
  · simp only [updV, if_pos hj, dEl, wd_wst j hlt]
    exact ds_v3 v
  · simp only [updV, if_neg hj, dEl, wd_wst j hlt]

end DC
end
section
/-! ===== calls and answers on the machine ===== -/
noncomputable def dal : Nat → List dV → dL
  | _, [] => []
  | i, v :: t => (i, v) :: dal (if disl v = true then i + 2 else i + 1) t
noncomputable def dsz : List dV → Nat
  | [] => 0
  | v :: t => (if disl v = true then 2 else 1) + dsz t
theorem dargs_eq {β : Type} (as : List dV) (i : Nat) (k : dL → Nat → β) : dargs as i k = k (dal i as) (i + dsz as) := by
  induction as generalizing i k with
  | nil => rfl
  | cons v t ih =>
    show cond (disl v) (dargs t (Nat.succ (Nat.succ i)) (fun u n => k ((i, v) :: u) n)) (dargs t (Nat.succ i) (fun u n => k ((i, v) :: u) n)) = _
    cases e : disl v
    · show dargs t (Nat.succ i) _ = _
      rw [ih]
      simp only [dal, dsz, e]
      rw [show Nat.succ i + dsz t = i + (1 + dsz t) by omega]
      rfl
    · show dargs t (Nat.succ (Nat.succ i)) _ = _
      rw [ih]
      simp only [dal, dsz, e]
      rw [show Nat.succ (Nat.succ i) + dsz t = i + (2 + dsz t) by omega]
      rfl
theorem dal_lv (b : Nat → Nat) (as : List dV) (i : Nat) : lv_args i (as.map (dv b)) = dLv b (dal i as) := by
  induction as generalizing i with
  | nil => rfl
  | cons v t ih =>
    show (i, dv b v) :: lv_args (if (dv b v).category = 2 then i + 2 else i + 1) (t.map (dv b)) = (i, dv b v) :: dLv b (dal (if disl v = true then i + 2 else i + 1) t)
    rw [ih, dcat1]
    cases disl v <;> rfl
theorem dsz_lg (b : Nat → Nat) (as : List dV) : (lg_sl (as.map (dv b))).length = dsz as := by
  induction as with
  | nil => rfl
  | cons v t ih =>
    simp only [lg_sl, List.map_cons, List.flatMap_cons, List.length_append, dsz] at ih ⊢
    rw [ih, dcat1]
    cases disl v <;> rfl
theorem dcat_eq (b : Nat → Nat) (st : List dV) : ((st.map (dv b)).map fun v => v.category).sum = dcat st := by
  induction st with
  | nil => rfl
  | cons v t ih =>
    show (dv b v).category + ((t.map (dv b)).map fun v => v.category).sum = Nat.add (cond (disl v) 2 1) (dcat t)
    rw [ih, dcat1]
    cases disl v <;> rfl
theorem dpop_spec {n : Nat} {st acc : List dV} {k : List dV → List dV → dR} {w : Option dV × dH} (hz : dpop n st acc k = some w) : ∃ as rest, st = as.reverse ++ rest ∧ as.length = n ∧ k (as ++ acc) rest = some w := by
  induction n generalizing st acc with
  | zero => exact ⟨[], st, rfl, rfl, hz⟩
  | succ n ih =>
    cases st with
    | nil => cases hz
    | cons v t =>
      obtain ⟨as, rest, h1, h2, h3⟩ := ih (st := t) (acc := v :: acc) hz
      refine ⟨as ++ [v], rest, by rw [h1]; simp, by simp [h2], by simpa using h3⟩
def dpush (r : Option dV) (st : List dV) : List dV := match r with
  | none => st
  | some v => v :: st
theorem dgo_eq (nxt : dCode) (rec : dRec) (d : Nat) (L : dL) (r : List dV) (v : Option dV) (h : dH) : dgo nxt rec d L r v h = nxt rec d L (dpush v r) h := by cases v <;> rfl
/-- a method's contract: what the program of words answers, the machine answers -/
def dMet (l : Launch) (D : dD) (b : Nat → Nat) (q : dMI) (d : Nat) (as : List dV) (h : dH) (v : Option dV) (h1 : dH) : Prop :=
  Met l q.2.1 (dTs q) ({ frames := d, cells := h1.1 - h.1, slots := h1.2.1 - h.2.1, locals := d * 64 } : Room) (va_Pc (as.map (dv b)) (fun U => dRl D b h U.heap ∧ dKK D b U U.heap)) (dQ D b v h1) (h1.1 - h.1) (h1.2.1 - h.2.1) (fun x => b 0 ≤ x)
theorem dTs_p {t : dMI} (h : t ∈ dMs) : dTs t = Cond.code t.2.1 t.2.2.1 t.2.2.2.1 t.2.2.2.2 :: dTB := by
  show dWC t :: dTB = _
  rw [dMs_c h]
theorem dMet_of {l : Launch} {D : dD} {b : Nat → Nat} {q : dMI} {d : Nat} {as : List dV} {h : dH} {v : Option dV} {h1 : dH} (hq : q ∈ dMs) (hv0 : dthr v = false) (hp : plainName q.2.1.cls = true) (hc : q.2.1.cls = cR q.1) (hn : dsz as ≤ q.2.2.2.1) (g1 : h.1 ≤ h1.1) (g2 : h.2.1 ≤ h1.2.1) (G : dWp l D b q d 0 (dal 0 as) [] h v h1) : dMet l D b q d as h v h1 := by
  refine Met.ofW (cc := q.2.2.1) (maxL := q.2.2.2.1) (ret := q.2.2.2.2) hp (dTs_p hq) ?_
  intro p e s m args below meth c s₁ B hml hv
  obtain ⟨rfl, hR, hK⟩ := hv
  rw [lg_entry_eq]
  have hlv := lv_entry (as.map (dv b)) (n := q.2.2.2.1) (by rw [dsz_lg]; exact hn)
  rw [dal_lv] at hlv
  have hown : s.vm.findClass q.2.1.cls = some m.cls := findClass_of_methodNamed B.named
  rw [hc] at hown
  have ht : c.exceptionTable.toList = tableOf (dHH q) := by
    obtain ⟨meth9, c9, h1, h2, -, -, -, -, h7, -⟩ := Cond.code_spec B.named (atoms_spec (ws := dTs q) B.pre _ (by rw [dTs_p hq]; exact List.mem_cons_self))
    cases Option.some.inj (h1.symm.trans B.method)
    cases Option.some.inj (h2.symm.trans (Stand.of_body B).code)
    rw [Array.isEmpty_iff.mp h7, dMs_p hq]; rfl
  have hG := G p e ({ frames := d, cells := h1.1 - h.1, slots := h1.2.1 - h.2.1, locals := d * 64 } : Room) s m _ below meth c s.heap [] 0 0 (h1.1 - h.1) (h1.2.1 - h.2.1) _ ⟨B.exec, B.bytes, hml, hown, atoms_spec (ws := dTs q) B.pre, B.returns, B.notSynchronized, (name_of_methodNamed B.named B.method).1, hK, ht⟩ hR ⟨by rw [hR.1.1]; omega, fun _ _ => rfl, fun x hx => by cases hx⟩ hlv ⟨Nat.le_refl _, Nat.le_refl _, Nat.le_refl _, Nat.le_refl _⟩ (by omega) (by omega)
  rw [dE_n hv0] at hG
  exact hG
theorem dblind {D : dD} {b : Nat → Nat} {as : List Value} {h : dH} : FrameBlind (va_Pc as (fun U => dRl D b h U.heap ∧ dKK D b U U.heap)) := fun a U g mk x => ⟨x.1, x.2.1, dKK.same (u := U) (U := U.calling g mk a) rfl x.2.2⟩
theorem ds_after {p : Program} {l : Launch} {e : Env} {R : Room} {s : State} {m : MethodId} {args : Array Value} {below : List Frame} {meth : Method} {c : Code} {H : Heap} {locs : List Loc} {cells slots mc1 ms1 pc : Nat} {ls : Array Slot} {rest st0 : List Value} {Q : State → Prop} {D : dD} {b : Nat → Nat} {v : Option dV} {h1 : dH} {a : Array Value}
    (hr : va_Run p l e R s m args below meth c H locs cells slots mc1 ms1 (F0 m pc ls st0) rest (dQ D b v h1 a) (fun x => b 0 ≤ x)) (hS : dS b s.heap H locs)
    (kk : ∀ (H1 : Heap) (locs1 : List Loc), dRl D b h1 H1 → dS b s.heap H1 locs1 → W p l e R s m args below meth c H1 locs1 (cells + mc1) (slots + ms1) Q (F0 m (pc + 3) ls ((v.map (dv b)).toList ++ rest))) : W p l e R s m args below meth c H locs cells slots Q (F0 m pc ls st0) := by
  intro T hT X
  obtain ⟨v9, st₀, t, T', L, h0, X', hL, x1, x2, ⟨hv, hR, hk⟩, st⟩ := hr T hT X
  cases hv
  rw [h0] at hk
  obtain ⟨t2, a1, b1⟩ := kk T'.heap (locs ++ L) (by rw [x1]; exact hR) ⟨hS.1, fun x hx => by rw [x1, hk x hx]; exact hS.2.1 x hx, fun x hx => by
      rcases List.mem_append.mp hx with g | g
      · exact hS.2.2 x g
      · exact hL x g⟩ T' rfl X'
  exact ⟨t2, st t2 a1, b1⟩
theorem dmap_rev (b : Nat → Nat) (as rest : List dV) : (as.reverse ++ rest).map (dv b) = (as.map (dv b)).reverse ++ rest.map (dv b) := by simp
theorem dmap_rev2 (b : Nat → Nat) (a : Nat) (as rest : List dV) : (as.reverse ++ .inr (.inr (Nat.succ a)) :: rest).map (dv b) = (as.map (dv b)).reverse ++ .ref (b a) :: rest.map (dv b) := by
  rw [dmap_rev]; rfl
theorem dpush_map (b : Nat → Nat) (v : Option dV) (st : List dV) : (dpush v st).map (dv b) = (v.map (dv b)).toList ++ st.map (dv b) := by cases v <;> rfl
section DX
variable {l : Launch} {D : dD} {b : Nat → Nat} {q t : dMI} {d pc i y : Nat} {L : dL} {st as : List dV} {h h1 : dH} {r v : Option dV} {h' : dH} {a n ct ci : Nat}
/-- what is known of a method that is called -/
def dlnk (q t : dMI) (i y : Nat) (as : List dV) (ks : List Nat) : Prop := dMis[y]? = some t ∧ t ∈ dMs ∧ (∃ k, k ∈ ks ∧ (i, y, k) ∈ dMT q.1) ∧ (t.2.1.cls ≠ "java/lang/invoke/MethodHandle" ∧ t.2.1.cls ≠ "java/lang/invoke/VarHandle") ∧ (parseMethodDescriptor t.2.1.desc).map (fun d => d.parameters.length) = some as.length ∧ t.2.2.2.1 ≤ 40
theorem dTs_c (q : dMI) {t : dMI} (h : t ∈ dMis) : GoodIn (dTs q) (dTs t) := by
  intro w hw
  rcases List.mem_cons.mp hw with rfl | hw
  · exact ⟨List.mem_cons_of_mem _ (dTB_c h), dTB_gd (dTB_c h)⟩
  · exact ⟨List.mem_cons_of_mem _ hw, dTB_gd hw⟩
theorem dWM_0 {o i y : Nat} {t : dMI} (h : dMis[y]? = some t) : dWM o (i, y, 0) = [.methodLink (cR o) i t.2.1, .static t.2.1, .initialized t.2.1.cls] := by
  unfold dWM
  dsimp only
  rw [h]
  rfl
theorem dWM_1 {o i y : Nat} {t : dMI} (h : dMis[y]? = some t) : dWM o (i, y, 1) = [.methodLink (cR o) i t.2.1, .instanceMethod t.2.1, .selects t.2.1.cls t.2.1 t.2.1, .initialized t.2.1.cls] := by
  unfold dWM
  dsimp only
  rw [h]
  rfl
theorem dWM_2 {o i y : Nat} {t : dMI} (h : dMis[y]? = some t) : dWM o (i, y, 2) = [.methodLink (cR o) i t.2.1, .instanceMethod t.2.1, .initialized t.2.1.cls] := by
  unfold dWM
  dsimp only
  rw [h]
  rfl
theorem dWM_3 {o i y : Nat} {t : dMI} (h : dMis[y]? = some t) : dWM o (i, y, 3) = [.static t.2.1, .initialized t.2.1.cls] := by
  unfold dWM
  dsimp only
  rw [h]
  rfl
theorem droom {R : Room} {d mc ms : Nat} {mL : Nat} (hm : dRm R (d + 1) mc ms) (hL : mL ≤ 40) : d + 1 ≤ R.frames ∧ 8 + (mL + 11) + d * 64 ≤ R.locals := by
  have h1 := hm.1
  have h2 := hm.2.1
  exact ⟨h1, by omega⟩
theorem ds_static (hdg : decode q.2.2.1 pc = .ok (.invokestatic i, 3)) (ho : q.1 < 14) (K : dlnk q t i y as [0]) (hM : dMet l D b t d as h v h1) (g1 : h.1 ≤ h1.1) (g2 : h.2.1 ≤ h1.2.1) (y1 : h1.1 ≤ h'.1) (y2 : h1.2.1 ≤ h'.2.1) (hc : dcat st ≤ 8) (G : dWp l D b q (d + 1) (pc + 3) L (dpush v st) h1 r h') : dWp l D b q (d + 1) pc L (as.reverse ++ st) h r h' := by
  intro p e R s m args below meth c H locs cells slots mc ms ls C hR hS hl hm e1 e2
  obtain ⟨k1, k2, ⟨k, hk, hk2⟩, k4, k5, k6⟩ := K
  simp at hk; subst hk
  have hts := C.2.2.2.2.1
  have hG := dTs_c q (dMs_sub k2)
  have hw : ∀ w ∈ dWM q.1 (i, y, 0), w.before args s = true := fun w hw => hts w (List.mem_cons_of_mem _ (dTB_m ho hk2 hw))
  rw [dWM_0 k1] at hw
  have a1 := hw (.methodLink (cR q.1) i t.2.1) (by simp)
  have a2 := hw (.static t.2.1) (by simp)
  have a3 := hw (.initialized t.2.1.cls) (by simp)
  have cb := callB_of (R := R) (own := cR q.1) (index := i) (y := t.2.1) (rm := { frames := d, cells := h1.1 - h.1, slots := h1.2.1 - h.2.1, locals := d * 64 }) as.length hts hG (dTs_p k2) rfl rfl a3 a1 ⟨k4.1, k4.2, k5⟩ (droom hm k6)
  rw [dmap_rev]
  refine ds_after (va_runS ⟨C.1, C.2.1, C.2.2.1, C.2.2.2.1, hts⟩ hM ⟨cb, a2⟩ ⟨dblind, fun U hU hW => ⟨rfl, by rw [hU]; exact hR, by rw [hU]; exact dKK.warm hW (dKK.kept hS.2.1 C.2.2.2.2.2.2.2.2.1)⟩⟩ rfl (List.length_map _) hl.1 rfl (lv_room (by rw [dcat_eq]; exact hc)) hdg ⟨by have := hm.2.2.1; omega, by have := hm.2.2.2; omega⟩) hS fun H1 locs1 hR1 hS1 => ?_
  rw [← dpush_map]
  exact G p e R s m args below meth c H1 locs1 _ _ mc ms ls C hR1 hS1 hl hm (by omega) (by omega)
theorem ds_nest (hdg : decode q.2.2.1 pc = .ok (.invokestatic i, 3)) (ho : q.1 < 14) (K : dlnk q t i y as [3]) (hN : (q.1, i, y) ∈ dNT) (hM : dMet l D b t d as h v h1) (g1 : h.1 ≤ h1.1) (g2 : h.2.1 ≤ h1.2.1) (y1 : h1.1 ≤ h'.1) (y2 : h1.2.1 ≤ h'.2.1) (hc : dcat st ≤ 8) (G : dWp l D b q (d + 1) (pc + 3) L (dpush v st) h1 r h') : dWp l D b q (d + 1) pc L (as.reverse ++ st) h r h' := by
  intro p e R s m args below meth c H locs cells slots mc ms ls C hR hS hl hm e1 e2
  obtain ⟨k1, k2, ⟨k, hk, hk2⟩, k4, k5, k6⟩ := K
  simp at hk; subst hk
  have hts := C.2.2.2.2.1
  have hG := dTs_c q (dMs_sub k2)
  have hw : ∀ w ∈ dWM q.1 (i, y, 3), w.before args s = true := fun w hw => hts w (List.mem_cons_of_mem _ (dTB_m ho hk2 hw))
  rw [dWM_3 k1] at hw
  have hnw := C.2.2.2.2.2.2.2.2.1.2.2.1 _ hN
  have hnm : dNm y = t.2.1 := by unfold dNm; rw [k1]
  dsimp only at hnw
  rw [hnm] at hnw
  have a2 := hw (.static t.2.1) (by simp)
  have a3 := hw (.initialized t.2.1.cls) (by simp)
  have cb := va_cnB (R := R) (own := cR q.1) (index := i) (y := t.2.1) (rm := { frames := d, cells := h1.1 - h.1, slots := h1.2.1 - h.2.1, locals := d * 64 }) as.length hts hG (dTs_p k2) rfl rfl hnw a3 ⟨k4.1, k4.2, k5⟩ (droom hm k6)
  rw [dmap_rev]
  refine ds_after (va_runSN ⟨C.1, C.2.1, C.2.2.1, C.2.2.2.1, hts⟩ hM ⟨cb, a2, trivial⟩ ⟨dblind, fun U hU hW => ⟨rfl, by rw [hU]; exact hR, by rw [hU]; exact dKK.warm hW (dKK.kept hS.2.1 C.2.2.2.2.2.2.2.2.1)⟩⟩ rfl (List.length_map _) hl.1 rfl (lv_room (by rw [dcat_eq]; exact hc)) hdg ⟨by have := hm.2.2.1; omega, by have := hm.2.2.2; omega⟩) hS fun H1 locs1 hR1 hS1 => ?_
  rw [← dpush_map]
  exact G p e R s m args below meth c H1 locs1 _ _ mc ms ls C hR1 hS1 hl hm (by omega) (by omega)
theorem ds_virtual (hdg : decode q.2.2.1 pc = .ok (.invokevirtual i, 3)) (ho : q.1 < 14) (K : dlnk q t i y as [1]) (hci : ci < 14) (hcl : t.2.1.cls = cR ci) (ha : hat h a = some (ci + 4, n, ct)) (hM : dMet l D b t d (.inr (.inr (Nat.succ a)) :: as) h v h1) (g1 : h.1 ≤ h1.1) (g2 : h.2.1 ≤ h1.2.1) (y1 : h1.1 ≤ h'.1) (y2 : h1.2.1 ≤ h'.2.1) (hc : dcat st ≤ 8) (G : dWp l D b q (d + 1) (pc + 3) L (dpush v st) h1 r h') : dWp l D b q (d + 1) pc L (as.reverse ++ .inr (.inr (Nat.succ a)) :: st) h r h' := by
  intro p e R s m args below meth c H locs cells slots mc ms ls C hR hS hl hm e1 e2
  obtain ⟨k1, k2, ⟨k, hk, hk2⟩, k4, k5, k6⟩ := K
  simp at hk; subst hk
  have hts := C.2.2.2.2.1
  have hG := dTs_c q (dMs_sub k2)
  have hw : ∀ w ∈ dWM q.1 (i, y, 1), w.before args s = true := fun w hw => hts w (List.mem_cons_of_mem _ (dTB_m ho hk2 hw))
  rw [dWM_1 k1] at hw
  have a1 := hw (.methodLink (cR q.1) i t.2.1) (by simp)
  have a2 := hw (.instanceMethod t.2.1) (by simp)
  have a3 := hw (.initialized t.2.1.cls) (by simp)
  have a4 := hw (.selects t.2.1.cls t.2.1 t.2.1) (by simp)
  have cb := callB_of (R := R) (own := cR q.1) (index := i) (y := t.2.1) (rm := { frames := d, cells := h1.1 - h.1, slots := h1.2.1 - h.2.1, locals := d * 64 }) as.length hts hG (dTs_p k2) rfl rfl a3 a1 ⟨k4.1, k4.2, k5⟩ (droom hm k6)
  obtain ⟨cell, q1, q2, q3, -⟩ := (hR.2.2 a _ ha).obj hci
  have hfc := (C.2.2.2.2.2.2.2.2.1.1.1 ci _ (dCl_at ci hci)).2.1
  rw [dmap_rev2]
  refine ds_after (va_runV (C := t.2.1.cls) (b := b a) (As := as.map (dv b)) ⟨C.1, C.2.1, C.2.2.1, C.2.2.2.1, hts⟩ hM ⟨cb, a2, a4⟩ ⟨dblind, ⟨cell, q1, by rw [q3]; rfl, by rw [q2, hcl]; exact hfc⟩, fun U hU hW => ⟨rfl, by rw [hU]; exact hR, by rw [hU]; exact dKK.warm hW (dKK.kept hS.2.1 C.2.2.2.2.2.2.2.2.1)⟩⟩ rfl (List.length_map _) hl.1 rfl (lv_room (by rw [dcat_eq]; exact hc)) hdg ⟨by have := hm.2.2.1; omega, by have := hm.2.2.2; omega⟩) hS fun H1 locs1 hR1 hS1 => ?_
  rw [← dpush_map]
  exact G p e R s m args below meth c H1 locs1 _ _ mc ms ls C hR1 hS1 hl hm (by omega) (by omega)
theorem ds_special (hdg : decode q.2.2.1 pc = .ok (.invokespecial i, 3)) (ho : q.1 < 14) (K : dlnk q t i y as [2]) (hin : t.2.1.name = "<init>") (hrt : t.2.2.2.2 = none) (hM : dMet l D b t d (.inr (.inr (Nat.succ a)) :: as) h v h1) (g1 : h.1 ≤ h1.1) (g2 : h.2.1 ≤ h1.2.1) (y1 : h1.1 ≤ h'.1) (y2 : h1.2.1 ≤ h'.2.1) (hc : dcat st ≤ 8) (G : dWp l D b q (d + 1) (pc + 3) L (dpush v st) h1 r h') : dWp l D b q (d + 1) pc L (as.reverse ++ .inr (.inr (Nat.succ a)) :: st) h r h' := by
  intro p e R s m args below meth c H locs cells slots mc ms ls C hR hS hl hm e1 e2
  obtain ⟨k1, k2, ⟨k, hk, hk2⟩, k4, k5, k6⟩ := K
  simp at hk; subst hk
  have hts := C.2.2.2.2.1
  have hG := dTs_c q (dMs_sub k2)
  have hw : ∀ w ∈ dWM q.1 (i, y, 2), w.before args s = true := fun w hw => hts w (List.mem_cons_of_mem _ (dTB_m ho hk2 hw))
  rw [dWM_2 k1] at hw
  have a1 := hw (.methodLink (cR q.1) i t.2.1) (by simp)
  have a2 := hw (.instanceMethod t.2.1) (by simp)
  have a3 := hw (.initialized t.2.1.cls) (by simp)
  have hrw : dTs t = Cond.code t.2.1 t.2.2.1 t.2.2.2.1 none :: dTB := by rw [← hrt]; exact dTs_p k2
  have cb := callB_of (R := R) (own := cR q.1) (index := i) (y := t.2.1) (rm := { frames := d, cells := h1.1 - h.1, slots := h1.2.1 - h.2.1, locals := d * 64 }) as.length hts hG hrw rfl rfl a3 a1 ⟨k4.1, k4.2, k5⟩ (droom hm k6)
  rw [dmap_rev2]
  refine ds_after (va_runI (b := b a) (As := as.map (dv b)) ⟨C.1, C.2.1, C.2.2.1, C.2.2.2.1, hts⟩ hM ⟨cb, hin, a2⟩ ⟨dblind, fun U hU hW => ⟨rfl, by rw [hU]; exact hR, by rw [hU]; exact dKK.warm hW (dKK.kept hS.2.1 C.2.2.2.2.2.2.2.2.1)⟩⟩ rfl (List.length_map _) hl.1 rfl (lv_room (by rw [dcat_eq]; exact hc)) hdg ⟨by have := hm.2.2.1; omega, by have := hm.2.2.2; omega⟩) hS fun H1 locs1 hR1 hS1 => ?_
  rw [← dpush_map]
  exact G p e R s m args below meth c H1 locs1 _ _ mc ms ls C hR1 hS1 hl hm (by omega) (by omega)
theorem dv_s (b : Nat → Nat) (k : Nat) : dv b (.inr (.inr (Nat.succ k))) = .ref (b k) := rfl
theorem dstr_inv {a : Nat} {k : Nat → Nat → dR} {z : Option dV × dH} (h : dstr a k = some z) : ∃ w n ct, a = dT0 + w ∧ dStr[w]? = some (n, ct) ∧ k n ct = some z := by
  unfold dstr at h
  generalize hw : a % 1048576 = w at h
  cases hb : Nat.beq (dT0 + w) a
  · rw [hb] at h; cases h
  · rw [hb] at h
    have hle := Nat.eq_of_beq_eq_true hb
    rw [nth_eq] at h
    cases e : dStr[w]? with
    | none => rw [e] at h; cases h
    | some q =>
      rw [e] at h
      exact ⟨w, q.1, q.2, hle.symm, e, h⟩
theorem dStr_at {w n ct : Nat} (h : dStr[w]? = some (n, ct)) : w < dStr.length ∧ dLen.getD w 0 = n ∧ ∀ j, j < n → (dByt.getD w []).getD j 0 = Int32.ofNat (wd 8 ct j) := by
  have hw := (List.getElem?_eq_some_iff.mp h).1
  refine ⟨hw, ?_, fun j hj => ?_⟩
  · simp [dLen, List.getD, List.getElem?_map, h]
  · simp [dByt, List.getD, List.getElem?_map, h, hj]
theorem dStr_len : ∀ e ∈ dStr, e.1 < 2147483648 := by decide +kernel
theorem ds_ldt {w : Nat} (hdg : decode q.2.2.1 pc = .ok (.ldc i, 2)) (hm2 : (q.1, i, w) ∈ dSR) (G : dWp l D b q d (pc + 2) L (.inr (.inr (Nat.succ (dT0 + w))) :: st) h r h') : dWp l D b q d pc L st h r h' := by
  generalize hk : dT0 + w = k at G
  intro p e R s m args below meth c H locs cells slots mc ms ls C hR hS hl hm e1 e2
  have hz := C.2.2.2.2.2.2.2.2.1.2.2.2.1 (q.1, i, w) hm2
  dsimp only at hz
  rw [hk] at hz
  exact va_ldcS C.1 C.2.1 C.2.2.2.1 hz hdg (G p e R s m args below meth c H locs cells slots mc ms ls C hR hS hl hm e1 e2)
theorem ds_ldtw {w : Nat} (hdg : decode q.2.2.1 pc = .ok (.ldc_w i, 3)) (hm2 : (q.1, i, w) ∈ dSR) (G : dWp l D b q d (pc + 3) L (.inr (.inr (Nat.succ (dT0 + w))) :: st) h r h') : dWp l D b q d pc L st h r h' := by
  generalize hk : dT0 + w = k at G
  intro p e R s m args below meth c H locs cells slots mc ms ls C hR hS hl hm e1 e2
  have hz := C.2.2.2.2.2.2.2.2.1.2.2.2.1 (q.1, i, w) hm2
  dsimp only at hz
  rw [hk] at hz
  intro T hT X
  obtain ⟨t, a1, b1⟩ := G p e R s m args below meth c H locs cells slots mc ms ls C hR hS hl hm e1 e2 T hT X
  exact ⟨t, X.ldcStringW C.1 C.2.2.2.1 hz.1 hz.2 rfl (by rw [C.2.1]; exact hdg) t a1, b1⟩
theorem ds_strlen {w : Nat} (hdg : decode q.2.2.1 pc = .ok (.invokevirtual i, 3)) (hm2 : (q.1, i, 1) ∈ dSM) (ht : dStr[w]? = some (n, ct)) (hd : 4 ≤ d) (hc : dcat st ≤ 8) (y1 : h.1 ≤ h'.1) (y2 : h.2.1 ≤ h'.2.1) (G : dWp l D b q d (pc + 3) L (.inl n :: st) h r h') : dWp l D b q d pc L (.inr (.inr (Nat.succ (dT0 + w))) :: st) h r h' := by
  intro p e R s m args below meth c H locs cells slots mc ms ls C hR hS hl hm e1 e2
  rw [List.map_cons, dv_s]
  obtain ⟨hw, hlen, -⟩ := dStr_at ht
  have hts := C.2.2.2.2.1
  have h1 := hm.1
  have h2 := hm.2.1
  have hj : ∀ w ∈ dTJ, w ∈ dTs q := fun w hw => List.mem_cons_of_mem _ (dTB_j hw)
  have hT : dKT2 b s H := (dKK.kept hS.2.1 C.2.2.2.2.2.2.2.2.1).2.2.2.2.1
  have cb := callB_of (R := R) (own := cR q.1) (index := i) (y := yJ0_length_8abf5) (rm := k2_rm 1 22) 0 hts (dGJ (k := Cond.code yJ0_length_8abf5 cJ0_length_8abf5 1 (some .int)) hj (by decide +kernel)) rfl rfl rfl (hts _ (hj (.initialized RJ0) (by decide +kernel))) (hts _ (List.mem_cons_of_mem _ (dTB_s hm2))) ⟨by decide, by decide, by decide +kernel⟩ ⟨by show 1 + 1 ≤ _; omega, by show 8 + (1 + 11) + 22 ≤ _; omega⟩
  obtain ⟨cell, g1, g2, g3, -⟩ := (hT.2.2.1 w hw).1
  refine dt_after (v := some (.int (Int32.ofNat (dLen.getD w 0)))) (va_runV (C := RJ0) (b := b (dT0 + w)) (As := []) (rest := st.map (dv b)) ⟨C.1, C.2.1, C.2.2.1, C.2.2.2.1, hts⟩ (jt_length l (adK := fun z => b (dT0 + z)) (adV := fun z => b (dT1 + z)) (A := fun q => b 0 ≤ q) (byt := dByt) hw) ⟨cb, hts _ (hj (.instanceMethod yJ0_length_8abf5) (by decide +kernel)), hts _ (hj (.selects RJ0 yJ0_length_8abf5 yJ0_length_8abf5) (by decide +kernel))⟩ ⟨dTblind, ⟨cell, g1, g2, g3⟩, fun U hU hW => ⟨rfl, by show dKT2 b U U.heap; rw [hU]; exact dTxt.moved hW.alike hT⟩⟩ rfl rfl hl.1 rfl (lv_room (by rw [dcat_eq]; exact hc)) hdg ⟨by have := hm.2.2.1; omega, by have := hm.2.2.2; omega⟩) ?_
  rw [hlen]
  exact G p e R s m args below meth c H locs cells slots mc ms ls C hR hS hl hm e1 e2
theorem ds_charAt {w x j : Nat} (hdg : decode q.2.2.1 pc = .ok (.invokevirtual i, 3)) (hm2 : (q.1, i, 2) ∈ dSM) (ht : dStr[w]? = some (n, ct)) (hx : x % 4294967296 = j) (hjn : j < n) (hd : 4 ≤ d) (hc : dcat st ≤ 8) (y1 : h.1 ≤ h'.1) (y2 : h.2.1 ≤ h'.2.1) (G : dWp l D b q d (pc + 3) L (.inl (wd 8 ct j) :: st) h r h') : dWp l D b q d pc L (.inl x :: .inr (.inr (Nat.succ (dT0 + w))) :: st) h r h' := by
  intro p e R s m args below meth c H locs cells slots mc ms ls C hR hS hl hm e1 e2
  rw [List.map_cons, List.map_cons, dv_s]
  subst hx
  obtain ⟨hw, hlen, hby⟩ := dStr_at ht
  have hn : n < 2147483648 := dStr_len _ (List.mem_of_getElem? ht)
  have hi := dix (i := x) (n := n) hjn (by omega)
  have hts := C.2.2.2.2.1
  have h1 := hm.1
  have h2 := hm.2.1
  have hj : ∀ w ∈ dTJ, w ∈ dTs q := fun w hw => List.mem_cons_of_mem _ (dTB_j hw)
  have hT : dKT2 b s H := (dKK.kept hS.2.1 C.2.2.2.2.2.2.2.2.1).2.2.2.2.1
  have cb := callB_of (R := R) (own := cR q.1) (index := i) (y := yJ0_charAt_5068e) (rm := k2_rm 3 64) 1 hts (dGJ (k := Cond.code yJ0_charAt_5068e cJ0_charAt_5068e 2 (some .char)) hj (by decide +kernel)) rfl rfl rfl (hts _ (hj (.initialized RJ0) (by decide +kernel))) (hts _ (List.mem_cons_of_mem _ (dTB_s hm2))) ⟨by decide, by decide, by decide +kernel⟩ ⟨by show 3 + 1 ≤ _; omega, by show 8 + (2 + 11) + 64 ≤ _; omega⟩
  obtain ⟨cell, g1, g2, g3, -⟩ := (hT.2.2.1 w hw).1
  have hwd : wd 8 ct (x % 4294967296) < 256 := wd_lt 8 ct _
  have hlt : Int32.ofNat x < Int32.ofNat (dLen.getD w 0) := by
    rw [hlen, Int32.lt_iff_toInt_lt, di_iv, di_iv, if_pos (by omega), if_pos (by omega)]
    omega
  refine dt_after (v := some (.int (Int32.ofNat (wd 8 ct (x % 4294967296))))) (va_runV (C := RJ0) (b := b (dT0 + w)) (As := [.int (Int32.ofNat x)]) (rest := st.map (dv b)) ⟨C.1, C.2.1, C.2.2.1, C.2.2.2.1, hts⟩ (jt_charAt l (adK := fun z => b (dT0 + z)) (adV := fun z => b (dT1 + z)) (A := fun q => b 0 ≤ q) (byt := dByt) hw (fun z => hi.1 (Or.inl z)) hlt (by rw [hlen]; exact hi.1) (by rw [hi.2]; exact hby _ hjn) hwd) ⟨cb, hts _ (hj (.instanceMethod yJ0_charAt_5068e) (by decide +kernel)), hts _ (hj (.selects RJ0 yJ0_charAt_5068e yJ0_charAt_5068e) (by decide +kernel))⟩ ⟨dTblind, ⟨cell, g1, g2, g3⟩, fun U hU hW => ⟨rfl, by show dKT2 b U U.heap; rw [hU]; exact dTxt.moved hW.alike hT⟩⟩ rfl rfl hl.1 rfl (lv_room (by rw [dcat_eq]; exact hc)) hdg ⟨by have := hm.2.2.1; omega, by have := hm.2.2.2; omega⟩) ?_
  exact G p e R s m args below meth c H locs cells slots mc ms ls C hR hS hl hm e1 e2
theorem dix9_eq {B : List Int32} {ct t : Nat} (ht : t < 4294967296) : ∀ (n k : Nat), (∀ j, k ≤ j → j < k + n → B.getD j 0 = Int32.ofNat (wd 8 ct j)) → dIx B (Int32.ofNat t) n k = Int32.ofNat (dix9 ct t n k) := by
  intro n
  induction n with
  | zero => intro k _; rfl
  | succ n ih =>
    intro k hB
    have h8 : wd 8 ct k < 256 := wd_lt 8 ct k
    show (if B.getD k 0 = Int32.ofNat t then Int32.ofNat k else dIx B (Int32.ofNat t) n (k + 1)) = Int32.ofNat (cond (Nat.beq (wd 8 ct k) t) k (dix9 ct t n (k + 1)))
    rw [hB k (Nat.le_refl _) (by omega)]
    by_cases he : wd 8 ct k = t
    · rw [if_pos (by rw [he]), show Nat.beq (wd 8 ct k) t = true from Nat.beq_eq ▸ he]; rfl
    · rw [if_neg (fun z => he (by have := di_ieq.mp z; omega)), show Nat.beq (wd 8 ct k) t = false from Bool.eq_false_iff.mpr fun z => he (Nat.eq_of_beq_eq_true z)]
      exact ih (k + 1) fun j h1 h2 => hB j (by omega) (by omega)
theorem ds_indexOf {w x j : Nat} (hdg : decode q.2.2.1 pc = .ok (.invokevirtual i, 3)) (hm2 : (q.1, i, 3) ∈ dSM) (ht : dStr[w]? = some (n, ct)) (hx : x % 4294967296 = j) (hd : 5 ≤ d) (hc : dcat st ≤ 8) (y1 : h.1 ≤ h'.1) (y2 : h.2.1 ≤ h'.2.1) (G : dWp l D b q d (pc + 3) L (.inl (cond (Nat.blt j 256) (dix9 ct (dI2b j) n 0) 4294967295) :: st) h r h') : dWp l D b q d pc L (.inl x :: .inr (.inr (Nat.succ (dT0 + w))) :: st) h r h' := by
  intro p e R s m args below meth c H locs cells slots mc ms ls C hR hS hl hm e1 e2
  rw [List.map_cons, List.map_cons, dv_s]
  subst hx
  obtain ⟨hw, hlen, hby⟩ := dStr_at ht
  have hn : n < 2147483648 := dStr_len _ (List.mem_of_getElem? ht)
  have hts := C.2.2.2.2.1
  have h1 := hm.1
  have h2 := hm.2.1
  have hj : ∀ w ∈ dTI, w ∈ dTs q := fun w hw => List.mem_cons_of_mem _ (dTB_x hw)
  have hT : dKT2 b s H := (dKK.kept hS.2.1 C.2.2.2.2.2.2.2.2.1).2.2.2.2.1
  have cb := callB_of (R := R) (own := cR q.1) (index := i) (y := yJ0_indexOf_0f7a4) (rm := k2_rm 3 140) 1 hts (dGI2 (k := Cond.code yJ0_indexOf_0f7a4 cJ0_indexOf_0f7a4 2 (some .int)) hj (by decide +kernel)) rfl rfl rfl (hts _ (hj (.initialized RJ0) (by decide +kernel))) (hts _ (List.mem_cons_of_mem _ (dTB_s hm2))) ⟨by decide, by decide, by decide +kernel⟩ ⟨by show 3 + 1 ≤ _; omega, by show 8 + (2 + 11) + 140 ≤ _; omega⟩
  obtain ⟨cell, g1, g2, g3, -⟩ := (hT.2.2.1 w hw).1
  have hv : dIxF (dByt.getD w []) (dLen.getD w 0) (Int32.ofNat x) = Int32.ofNat (cond (Nat.blt (x % 4294967296) 256) (dix9 ct (dI2b (x % 4294967296)) n 0) 4294967295) := by
    have hz : (0 : Int32).toInt = 0 := by decide
    have hz2 : (255 : Int32).toInt = 255 := by decide
    by_cases hlt : x % 4294967296 < 256
    · rw [di_blt.mpr hlt, dIxF, if_neg (by
        rw [Int32.lt_iff_toInt_lt, Int32.lt_iff_toInt_lt, hz, hz2, di_iv, if_pos (by omega)]
        omega), hlen, show (Int32.ofNat x).toInt8.toInt32 = Int32.ofNat (dI2b (x % 4294967296)) by rw [← di_imod x, di_i2b]]
      refine dix9_eq ?_ n 0 fun j _ h => hby j (by omega)
      rw [di_i2b_eq]
      split <;> omega
    · rw [show Nat.blt (x % 4294967296) 256 = false from Bool.eq_false_iff.mpr fun z => hlt (di_blt.mp z), dIxF, if_pos]
      · rfl
      · rw [Int32.lt_iff_toInt_lt, Int32.lt_iff_toInt_lt, hz, hz2, di_iv]
        split <;> omega
  refine dt_after (v := some (.int (dIxF (dByt.getD w []) (dLen.getD w 0) (Int32.ofNat x)))) (va_runV (C := RJ0) (b := b (dT0 + w)) (As := [.int (Int32.ofNat x)]) (rest := st.map (dv b)) ⟨C.1, C.2.1, C.2.2.1, C.2.2.2.1, hts⟩ (jt_iOf l (adK := fun z => b (dT0 + z)) (adV := fun z => b (dT1 + z)) (A := fun q => b 0 ≤ q) (byt := dByt) hw (by rw [hlen]; exact hn)) ⟨cb, hts _ (hj (.instanceMethod yJ0_indexOf_0f7a4) (by decide +kernel)), hts _ (hj (.selects RJ0 yJ0_indexOf_0f7a4 yJ0_indexOf_0f7a4) (by decide +kernel))⟩ ⟨dTblind, ⟨cell, g1, g2, g3⟩, fun U hU hW => ⟨rfl, by show dKT2 b U U.heap; rw [hU]; exact dTxt.moved hW.alike hT⟩⟩ rfl rfl hl.1 rfl (lv_room (by rw [dcat_eq]; exact hc)) hdg ⟨by have := hm.2.2.1; omega, by have := hm.2.2.2; omega⟩) ?_
  rw [hv]
  exact G p e R s m args below meth c H locs cells slots mc ms ls C hR hS hl hm e1 e2
theorem ds_mmax {x y : Nat} (hdg : decode q.2.2.1 pc = .ok (.invokestatic i, 3)) (hm2 : (q.1, i, 1) ∈ dMM) (hd : 1 ≤ d) (hc : dcat st ≤ 8) (y1 : h.1 ≤ h'.1) (y2 : h.2.1 ≤ h'.2.1) (G : dWp l D b q d (pc + 3) L (.inl (dMax x y) :: st) h r h') : dWp l D b q d pc L (.inl y :: .inl x :: st) h r h' := by
  intro p e R s m args below meth c H locs cells slots mc ms ls C hR hS hl hm e1 e2
  have hts := C.2.2.2.2.1
  have h1 := hm.1
  have h2 := hm.2.1
  have h3 := hm.2.2.1
  have h4 := hm.2.2.2
  refine va_mmax C.1 C.2.1 (C.2.2.1.trans hl.1.symm) C.2.2.2.1 (hts _ (List.mem_cons_of_mem _ (dTB_mm hm2))) (hts (.static Lib.Math.max.name) (List.mem_cons_of_mem _ (dTB_x (by decide +kernel)))) (hts (.initialized "java/lang/Math") (List.mem_cons_of_mem _ (dTB_x (by decide +kernel)))) (hts (.code Lib.Math.max.name Lib.Math.max.code 2 (some .int)) (List.mem_cons_of_mem _ (dTB_x (by decide +kernel)))) (by omega) (by rw [dcat_eq]; omega) (by omega) (by omega) hdg ?_
  rw [di_max]
  exact G p e R s m args below meth c H locs cells slots mc ms ls C hR hS hl hm e1 e2
theorem ds_mmin {x y : Nat} (hdg : decode q.2.2.1 pc = .ok (.invokestatic i, 3)) (hm2 : (q.1, i, 2) ∈ dMM) (hd : 1 ≤ d) (hc : dcat st ≤ 8) (y1 : h.1 ≤ h'.1) (y2 : h.2.1 ≤ h'.2.1) (G : dWp l D b q d (pc + 3) L (.inl (dMin x y) :: st) h r h') : dWp l D b q d pc L (.inl y :: .inl x :: st) h r h' := by
  intro p e R s m args below meth c H locs cells slots mc ms ls C hR hS hl hm e1 e2
  have hts := C.2.2.2.2.1
  have h1 := hm.1
  have h2 := hm.2.1
  have h3 := hm.2.2.1
  have h4 := hm.2.2.2
  refine va_mmin C.1 C.2.1 (C.2.2.1.trans hl.1.symm) C.2.2.2.1 (hts _ (List.mem_cons_of_mem _ (dTB_mm hm2))) (hts (.static Lib.Math.min.name) (List.mem_cons_of_mem _ (dTB_x (by decide +kernel)))) (hts (.initialized "java/lang/Math") (List.mem_cons_of_mem _ (dTB_x (by decide +kernel)))) (hts (.code Lib.Math.min.name Lib.Math.min.code 2 (some .int)) (List.mem_cons_of_mem _ (dTB_x (by decide +kernel)))) (by omega) (by rw [dcat_eq]; omega) (by omega) (by omega) hdg ?_
  rw [di_min]
  exact G p e R s m args below meth c H locs cells slots mc ms ls C hR hS hl hm e1 e2
theorem ds_mmaxl {x y : Nat} (hdg : decode q.2.2.1 pc = .ok (.invokestatic i, 3)) (hm2 : (q.1, i, 3) ∈ dMM) (hd : 1 ≤ d) (hc : dcat st ≤ 8) (y1 : h.1 ≤ h'.1) (y2 : h.2.1 ≤ h'.2.1) (G : dWp l D b q d (pc + 3) L (.inr (.inl (dLMax x y)) :: st) h r h') : dWp l D b q d pc L (.inr (.inl y) :: .inr (.inl x) :: st) h r h' := by
  intro p e R s m args below meth c H locs cells slots mc ms ls C hR hS hl hm e1 e2
  have hts := C.2.2.2.2.1
  have h1 := hm.1
  have h2 := hm.2.1
  have h3 := hm.2.2.1
  have h4 := hm.2.2.2
  refine va_mmax_long C.1 C.2.1 (C.2.2.1.trans hl.1.symm) C.2.2.2.1 (hts _ (List.mem_cons_of_mem _ (dTB_mm hm2))) (hts (.static Lib.MathLoose.max_long.x) (List.mem_cons_of_mem _ (dTB_tm (by decide +kernel)))) (hts (.initialized "java/lang/Math") (List.mem_cons_of_mem _ (dTB_x (by decide +kernel)))) (hts (.code Lib.MathLoose.max_long.x Lib.MathLoose.max_long.code 4 (some .long)) (List.mem_cons_of_mem _ (dTB_tm (by decide +kernel)))) (by omega) (by rw [dcat_eq]; omega) (by omega) (by omega) hdg ?_
  rw [di_lmax]
  exact G p e R s m args below meth c H locs cells slots mc ms ls C hR hS hl hm e1 e2
theorem ds_mminl {x y : Nat} (hdg : decode q.2.2.1 pc = .ok (.invokestatic i, 3)) (hm2 : (q.1, i, 4) ∈ dMM) (hd : 1 ≤ d) (hc : dcat st ≤ 8) (y1 : h.1 ≤ h'.1) (y2 : h.2.1 ≤ h'.2.1) (G : dWp l D b q d (pc + 3) L (.inr (.inl (dLMin x y)) :: st) h r h') : dWp l D b q d pc L (.inr (.inl y) :: .inr (.inl x) :: st) h r h' := by
  intro p e R s m args below meth c H locs cells slots mc ms ls C hR hS hl hm e1 e2
  have hts := C.2.2.2.2.1
  have h1 := hm.1
  have h2 := hm.2.1
  have h3 := hm.2.2.1
  have h4 := hm.2.2.2
  refine va_mmin_long C.1 C.2.1 (C.2.2.1.trans hl.1.symm) C.2.2.2.1 (hts _ (List.mem_cons_of_mem _ (dTB_mm hm2))) (hts (.static Lib.MathLoose.min_long.x) (List.mem_cons_of_mem _ (dTB_tm (by decide +kernel)))) (hts (.initialized "java/lang/Math") (List.mem_cons_of_mem _ (dTB_x (by decide +kernel)))) (hts (.code Lib.MathLoose.min_long.x Lib.MathLoose.min_long.code 4 (some .long)) (List.mem_cons_of_mem _ (dTB_tm (by decide +kernel)))) (by omega) (by rw [dcat_eq]; omega) (by omega) (by omega) hdg ?_
  rw [di_lmin]
  exact G p e R s m args below meth c H locs cells slots mc ms ls C hR hS hl hm e1 e2
theorem ds_objinit (hdg : decode q.2.2.1 pc = .ok (.invokespecial i, 3)) (ho : q.1 < 14) (hi : i ∈ dOT q.1) (hc : dcat st ≤ 8) (G : dWp l D b q (d + 1) (pc + 3) L st h r h') : dWp l D b q (d + 1) pc L (.inr (.inr (Nat.succ a)) :: st) h r h' := by
  intro p e R s m args below meth c H locs cells slots mc ms ls C hR hS hl hm e1 e2
  have hts := C.2.2.2.2.1
  have w1 : Cond.instanceMethod objectInit ∈ dTs q := List.mem_cons_of_mem _ (List.mem_append.mpr (Or.inl (by simp)))
  have w2 : Cond.code objectInit ⟨#[0xb1]⟩ 1 none ∈ dTs q := List.mem_cons_of_mem _ (List.mem_append.mpr (Or.inl (by simp)))
  have h1 := hm.1
  have h2 := hm.2.1
  refine W.objInit C.1 C.2.1 C.2.2.2.1 (hts _ (List.mem_cons_of_mem _ (dTB_i ho hi))) (hts _ w1) (hts _ w2) rfl (hl.1.trans C.2.2.1.symm) rfl hdg (by omega) (by
    have h3 := dcat_eq b st
    show 2 * 0 + _ + 12 ≤ _
    rw [h3]; omega) ?_
  exact G p e R s m args below meth c H locs cells slots mc ms ls C hR hS hl hm e1 e2
theorem dend {C9 : Prop} {s : State} {H : Heap} {locs : List Loc} {D : dD} {b : Nat → Nat} {h : dH} {v : Option dV} {args : Array Value} (hR : dRl D b h H) (hS : dS b s.heap H locs) : ∀ t : State, t.heap = H → s.WarmedH t.vm → dQ D b v h args s (.returned (v.map (dv b))) t :=
  fun t ht _ => ⟨rfl, by rw [ht]; exact hR, fun x hx => by rw [ht]; exact hS.2.1 x hx⟩
theorem ds_return (hdg : decode q.2.2.1 pc = .ok (.return_, 1)) (hr : q.2.2.2.2 = none) : dWp l D b q d pc L [] h none h := by
  intro p e R s m args below meth c H locs cells slots mc ms ls C hR hS hl hm e1 e2
  obtain rfl : mc = cells := by omega
  obtain rfl : ms = slots := by omega
  exact W.vret C.1 C.2.1 (C.2.2.2.2.2.1.trans hr) (dend (C9 := True) (v := none) hR hS) hS.2.2 hdg C.2.2.2.2.2.2.1
theorem ds_ireturn {x : Nat} {ty : FieldType} (hdg : decode q.2.2.1 pc = .ok (.ireturn, 1)) (hr : q.2.2.2.2 = some ty) (hn : narrow ty (.int (Int32.ofNat x)) = .int (Int32.ofNat x)) : dWp l D b q d pc L [.inl x] h (some (.inl x)) h := by
  intro p e R s m args below meth c H locs cells slots mc ms ls C hR hS hl hm e1 e2
  obtain rfl : mc = cells := by omega
  obtain rfl : ms = slots := by omega
  exact W.zret C.1 C.2.1 (C.2.2.2.2.2.1.trans hr) hn (dend (C9 := True) (v := some (.inl x)) hR hS) hS.2.2 hdg C.2.2.2.2.2.2.1
theorem ds_lreturn {x : Nat} (hdg : decode q.2.2.1 pc = .ok (.lreturn, 1)) (hr : q.2.2.2.2 = some .long) : dWp l D b q d pc L [.inr (.inl x)] h (some (.inr (.inl x))) h := by
  intro p e R s m args below meth c H locs cells slots mc ms ls C hR hS hl hm e1 e2
  obtain rfl : mc = cells := by omega
  obtain rfl : ms = slots := by omega
  exact W.lret C.1 C.2.1 (C.2.2.2.2.2.1.trans hr) (dend (C9 := True) (v := some (.inr (.inl x))) hR hS) hS.2.2 hdg C.2.2.2.2.2.2.1
end DX
end
section
/-! ===== throwing and catching ===== -/
def dQn (D : dD) (b : Nat → Nat) (v : Option dV) (h1 : dH) : Array Value → State → Outcome → State → Prop := fun a st o t => dthr v = false ∧ dQ D b v h1 a st o t
def dXn (D : dD) (b : Nat → Nat) (v : Option dV) (h1 : dH) : String → State → State → Prop := fun E st t => dthr v = true ∧ dXc D b h1 E st t
/-- a method's contract, whether it returns or throws -/
def dMetG (l : Launch) (D : dD) (b : Nat → Nat) (q : dMI) (d : Nat) (as : List dV) (h : dH) (v : Option dV) (h1 : dH) : Prop :=
  vx_Met l q.2.1 (dTs q) ({ frames := d, cells := h1.1 - h.1, slots := h1.2.1 - h.2.1, locals := d * 64 } : Room) (va_Pc (as.map (dv b)) (fun U => dRl D b h U.heap ∧ dKK D b U U.heap)) (dQn D b v h1) (dXn D b v h1) (h1.1 - h.1) (h1.2.1 - h.2.1) (fun x => b 0 ≤ x)
theorem dE_G {p : Program} {l : Launch} {e : Env} {R : Room} {s : State} {m : MethodId} {args : Array Value} {below : List Frame} {meth : Method} {c : Code} {H : Heap} {locs : List Loc} {cells slots mc ms : Nat} {D : dD} {b : Nat → Nat} {r : Option dV} {h' : dH} {g : JFrame} (k : W p l e R s m args below meth c H locs cells slots (dE D b r h' below args s mc ms) g) : W p l e R s m args below meth c H locs cells slots (vx_MQ below (dQn D b r h') (dXn D b r h') args s mc ms (fun x => b 0 ≤ x)) g := by
  intro T hT X
  obtain ⟨t, a1, z⟩ := k T hT X
  refine ⟨t, a1, ?_⟩
  cases hv : dthr r
  · rw [dE_n hv] at z
    obtain ⟨o, b1, b2, b3, b4⟩ := z
    exact ⟨o, b1, b2, Or.inl ⟨⟨hv, b3⟩, b4⟩⟩
  · rw [dE_x hv] at z
    obtain ⟨o, b1, b2, b3⟩ := z
    refine ⟨o, b1, b2, ?_⟩
    rcases b3 with ⟨f, -⟩ | ⟨q, ho, E, ce, L, hx, hr⟩
    · exact f.elim
    · exact Or.inr ⟨q, ho, E, ce, L, ⟨hv, hx⟩, hr⟩
theorem dMetG_of {l : Launch} {D : dD} {b : Nat → Nat} {q : dMI} {d : Nat} {as : List dV} {h : dH} {v : Option dV} {h1 : dH} (hp : plainName q.2.1.cls = true) (hc : q.2.1.cls = cR q.1) (hn : dsz as ≤ q.2.2.2.1) (g1 : h.1 ≤ h1.1) (g2 : h.2.1 ≤ h1.2.1) (G : dWp l D b q d 0 (dal 0 as) [] h v h1) : dMetG l D b q d as h v h1 := by
  have key : ∀ (p : Program) (e : Env) (s : State) (m : MethodId) (args : Array Value) (below : List Frame) (meth : Method) (c : Code) (s₁ : State), BodyLoose p l q.2.1 (headSpec (dTs q) ({ frames := d, cells := h1.1 - h.1, slots := h1.2.1 - h.2.1, locals := d * 64 } : Room)) q.2.2.1 q.2.2.2.1 q.2.2.2.2 e s m args below meth c s₁ → c.maxLocals = q.2.2.2.1 → c.exceptionTable.toList = tableOf (dHH q) → va_Pc (as.map (dv b)) (fun U => dRl D b h U.heap ∧ dKK D b U U.heap) args s → W p l e (headSpec (dTs q) ({ frames := d, cells := h1.1 - h.1, slots := h1.2.1 - h.2.1, locals := d * 64 } : Room)).room s m args below meth c s.heap [] 0 0 (vx_MQ below (dQn D b v h1) (dXn D b v h1) args s (h1.1 - h.1) (h1.2.1 - h.2.1) (fun x => b 0 ≤ x)) (entryFrame m args q.2.2.2.1) := by
    intro p e s m args below meth c s₁ B hml ht hv
    obtain ⟨rfl, hR, hK⟩ := hv
    rw [lg_entry_eq]
    have hlv := lv_entry (as.map (dv b)) (n := q.2.2.2.1) (by rw [dsz_lg]; exact hn)
    rw [dal_lv] at hlv
    have hown : s.vm.findClass q.2.1.cls = some m.cls := findClass_of_methodNamed B.named
    rw [hc] at hown
    exact dE_G (G p e ({ frames := d, cells := h1.1 - h.1, slots := h1.2.1 - h.2.1, locals := d * 64 } : Room) s m _ below meth c s.heap [] 0 0 (h1.1 - h.1) (h1.2.1 - h.2.1) _ ⟨B.exec, B.bytes, hml, hown, atoms_spec (ws := dTs q) B.pre, B.returns, B.notSynchronized, (name_of_methodNamed B.named B.method).1, hK, ht⟩ hR ⟨by rw [hR.1.1]; omega, fun _ _ => rfl, fun x hx => by cases hx⟩ hlv ⟨Nat.le_refl _, Nat.le_refl _, Nat.le_refl _, Nat.le_refl _⟩ (by omega) (by omega))
  cases hh : dHH q with
  | nil =>
    have hw : dTs q = Cond.code q.2.1 q.2.2.1 q.2.2.2.1 q.2.2.2.2 :: dTB := by
      show dWCh q (dHH q) :: dTB = _
      rw [hh]; rfl
    refine vx_ofW (cc := q.2.2.1) (maxL := q.2.2.2.1) (ret := q.2.2.2.2) hp hw ?_
    intro p e s m args below meth c s₁ B hml hx hv
    exact key p e s m args below meth c s₁ B hml (by rw [hh]; exact List.eq_nil_iff_forall_not_mem.mpr hx) hv
  | cons z zs =>
    have hw : dTs q = Cond.codeWith q.2.1 q.2.2.1 q.2.2.2.1 q.2.2.2.2 (z :: zs) :: dTB := by
      show dWCh q (dHH q) :: dTB = _
      rw [hh]; rfl
    refine vx_ofWH (cc := q.2.2.1) (maxL := q.2.2.2.1) (ret := q.2.2.2.2) (hh := z :: zs) hp hw ?_
    intro p e s m args below meth c s₁ B hml hv
    exact key p e s m args below meth c s₁ B hml (by rw [hh]; exact vx_table (x := q.2.1) B (atoms_spec (ws := dTs q) B.pre _ (by rw [hw]; exact List.mem_cons_self))) hv
theorem ds_afterG {p : Program} {l : Launch} {e : Env} {R : Room} {s : State} {m : MethodId} {args : Array Value} {below : List Frame} {meth : Method} {c : Code} {H : Heap} {locs : List Loc} {cells slots mc1 ms1 pc : Nat} {ls : Array Slot} {rest st0 : List Value} {Q : State → Prop} {D : dD} {b : Nat → Nat} {v : Option dV} {h1 : dH} {a : Array Value}
    (hr : vx_Run p l e R s m args below meth c H locs cells slots mc1 ms1 (F0 m pc ls st0) rest (dQn D b v h1 a) (dXn D b v h1) (fun x => b 0 ≤ x)) (hS : dS b s.heap H locs)
    (kk : dthr v = false → ∀ (H1 : Heap) (locs1 : List Loc), dRl D b h1 H1 → dS b s.heap H1 locs1 → W p l e R s m args below meth c H1 locs1 (cells + mc1) (slots + ms1) Q (F0 m (pc + 3) ls ((v.map (dv b)).toList ++ rest)))
    (kx : dthr v = true → ∀ (H1 : Heap) (locs1 : List Loc) (q9 : Nat) (ce : Cell), dRl D b h1 H1 → dS b s.heap H1 locs1 → H1[q9]? = some ce → ce.vm = .none → s.vm.findClass xE = some ce.cls → vx_W p l e R s m args below meth c H1 locs1 (cells + mc1) (slots + ms1) Q (F0 m pc ls rest) q9) : W p l e R s m args below meth c H locs cells slots Q (F0 m pc ls st0) := by
  intro T hT X
  rcases hr T hT X with ⟨v9, st₀, t, T', L, h0, X', hL, x1, x2, ⟨hn, hv, hR, hk⟩, st⟩ | ⟨q9, st₀, t, T', L, E, ce, h0, X', hL, x1, x2, ⟨hn, rfl, hR, hk⟩, hce, hcv, hcl, st⟩
  · cases hv
    rw [h0] at hk
    obtain ⟨t2, a1, b1⟩ := kk hn T'.heap (locs ++ L) (by rw [x1]; exact hR) ⟨hS.1, fun x hx => by rw [x1, hk x hx]; exact hS.2.1 x hx, fun x hx => by
        rcases List.mem_append.mp hx with g | g
        · exact hS.2.2 x g
        · exact hL x g⟩ T' rfl X'
    exact ⟨t2, st t2 a1, b1⟩
  · rw [h0] at hk
    obtain ⟨t2, a1, b1⟩ := kx hn T'.heap (locs ++ L) q9 ce (by rw [x1]; exact hR) ⟨hS.1, fun x hx => by rw [x1, hk x hx]; exact hS.2.1 x hx, fun x hx => by
        rcases List.mem_append.mp hx with g | g
        · exact hS.2.2 x g
        · exact hL x g⟩ (by rw [x1]; exact hce) hcv hcl T' rfl X'
    exact ⟨t2, st.trans a1, b1⟩
/-- what comes when an exception is thrown at a place -/
def dThrow (l : Launch) (D : dD) (b : Nat → Nat) (q : dMI) (d pc : Nat) (L : dL) (h1 : dH) (r : Option dV) (h' : dH) : Prop :=
  ∀ (p : Program) (e : Env) (R : Room) (s : State) (m : MethodId) (args : Array Value) (below : List Frame) (meth : Method) (c : Code) (H1 : Heap) (locs1 : List Loc) (cells slots mc ms : Nat) (ls : Array Slot) (q9 : Nat) (ce : Cell) (rest : List Value),
    dCx p s m args meth c q D b → dRl D b h1 H1 → dS b s.heap H1 locs1 → lv_has ls q.2.2.2.1 (dLv b L) → dRm R d mc ms → mc + h1.1 = cells + h'.1 → ms + h1.2.1 = slots + h'.2.1 → H1[q9]? = some ce → ce.vm = .none → s.vm.findClass xE = some ce.cls →
    vx_W p l e R s m args below meth c H1 locs1 cells slots (dE D b r h' below args s mc ms) (F0 m pc ls rest) q9
theorem dfree_out {q : dMI} {pc : Nat} (hf : dfree q pc = true) : ∀ x ∈ tableOf (dHH q), covers x pc = false := by
  intro x hx
  obtain ⟨z, hz, rfl⟩ := List.mem_map.mp hx
  have h1 := List.all_eq_true.mp hf z hz
  simp only [Bool.not_eq_true', Bool.and_eq_false_iff] at h1
  show (decide (z.1 ≤ pc) && decide (pc < z.2.1)) = false
  rw [Bool.and_eq_false_iff]
  rcases h1 with h1 | h1
  · left
    exact decide_eq_false fun g => by rw [Nat.ble_eq_true_of_le g] at h1; cases h1
  · right
    exact decide_eq_false fun g => by rw [di_blt.mpr g] at h1; cases h1
theorem dThrow_out {l : Launch} {D : dD} {b : Nat → Nat} {q : dMI} {d pc : Nat} {L : dL} {h1 : dH} {v : Option dV} (hf : dfree q pc = true) (hv : dthr v = true) : dThrow l D b q d pc L h1 v h1 := by
  intro p e R s m args below meth c H1 locs1 cells slots mc ms ls q9 ce rest C hR hS hl hm e1 e2 hce hcv hcl
  rw [dE_x hv]
  refine vx_out (by rw [C.2.2.2.2.2.2.2.2.2]; exact dfree_out hf) C.2.2.2.2.2.2.1 hce hcv hcl (fun t ht _ => ⟨rfl, by rw [ht]; exact hR, fun x hx => by rw [ht]; exact hS.2.1 x hx⟩) hS.2.2 (by omega) (by omega)
theorem dflt_tl (b : Nat → Nat) (x : Nat) (L : dL) : (dLv b L).filter (fun q => !(q.1 == x) && !(q.1 + 1 == x && q.2.category == 2)) = dLv b (L.filter (dp1 x)) := by
  have h := dflt1 b x (.inl 0) L
  simp only [dLv, List.map_cons, List.cons.injEq] at h
  exact h.2
theorem dThrow_catch {l : Launch} {D : dD} {b : Nat → Nat} {q : dMI} {d pc n t : Nat} {L : dL} {h1 : dH} {r : Option dV} {h' : dH} (hk : dhook q pc n t = true) (G : dWp l D b q d t (L.filter (dp1 n)) [] h1 r h') : dThrow l D b q d pc L h1 r h' := by
  intro p e R s m args below meth c H1 locs1 cells slots mc ms ls q9 ce rest C hR hS hl hm e1 e2 hce hcv hcl
  unfold dhook at hk
  split at hk
  · rename_i z hz
    simp only [Bool.and_eq_true, decide_eq_true_eq] at hk
    obtain ⟨k1, k2, ⟨k3, k4⟩, k5, k6⟩ := hk
    have hts := C.2.2.2.2.1
    have hE := C.2.2.2.2.2.2.2.2.1.2.2.2.2.2
    have w1 : Cond.classLink (cR q.1) z.2.2.2 xE ∈ dTs q := by
      rw [k3, k4]
      exact List.mem_cons_of_mem _ (dTB_xw (by decide +kernel))
    have w2 : va_Nw (.castable xE xE) s := hE.2.1 _ (by decide +kernel)
    have hgo : ∀ (ls2 : Array Slot), lv_has ls2 q.2.2.2.1 ((n, Value.ref q9) :: dLv b (L.filter (dp1 n))) → W p l e R s m args below meth c H1 locs1 cells slots (dE D b r h' below args s mc ms) (F0 m t ls2 []) := fun ls2 hl2 =>
      G p e R s m args below meth c H1 locs1 cells slots mc ms ls2 C hR hS ⟨hl2.1, hl2.2.1, fun x hx => hl2.2.2 x (List.mem_cons_of_mem _ hx)⟩ hm e1 e2
    refine vx_catch C.2.2.2.1 [] ⟨z.1, z.2.1, z.2.2.1, z.2.2.2⟩ [] (by rw [C.2.2.2.2.2.2.2.2.2, hz]; rfl) (fun z hz => nomatch hz) (by
      show (decide (z.1 ≤ pc) && decide (pc < z.2.1)) = true
      rw [decide_eq_true (Nat.le_of_ble_eq_true k1), decide_eq_true (di_blt.mp k2)]; rfl) (by show z.2.2.2 ≠ 0; rw [k3]; decide) (hts _ w1) (va_Nw.use rfl w2) hce hcv hcl ?_
    show W p l e R s m args below meth c H1 locs1 cells slots (dE D b r h' below args s mc ms) (F0 m z.2.2.1 ls [.ref q9])
    rcases (Bool.or_eq_true _ _).mp k6 with k6 | k6
    · simp only [Bool.and_eq_true, decide_eq_true_eq] at k6
      obtain ⟨k7, k8⟩ := k6
      have k8 := Nat.eq_of_beq_eq_true k8
      subst k8
      exact lv_astore C.1 C.2.1 k7 hl (di_blt.mp k5) (by rw [dflt_tl]) hgo
    · split at k6
      · simp only [Bool.and_eq_true, decide_eq_true_eq] at k6
        obtain ⟨k7, k8⟩ := k6
        have k8 := Nat.eq_of_beq_eq_true k8
        subst k8
        exact lv_astore_n C.1 C.2.1 k7 rfl hl (di_blt.mp k5) (by rw [dflt_tl]) hgo
      · cases k6
  · cases hk
section DXT
variable {l : Launch} {D : dD} {b : Nat → Nat} {q t : dMI} {d pc i y : Nat} {L : dL} {st as : List dV} {h h1 : dH} {r v : Option dV} {h' : dH} {a n ct ci : Nat}
theorem ds_athrow (hdg : decode q.2.2.1 pc = .ok (.athrow, 1)) (hf : dfree q pc = true) (ha : hat h a = some (18, n, ct)) (hv : dthr v = true) : dWp l D b q d pc L (.inr (.inr (Nat.succ a)) :: st) h v h := by
  intro p e R s m args below meth c H locs cells slots mc ms ls C hR hS hl hm e1 e2
  obtain ⟨ce, c1, c2, c3⟩ := (hR.2.2 a _ ha).exc
  have hE := C.2.2.2.2.2.2.2.2.1.2.2.2.2.2
  rw [List.map_cons, dv_s]
  exact vx_athrow C.1 C.2.1 hdg (dThrow_out (l := l) (d := d) (L := L) hf hv p e R s m args below meth c H locs cells slots mc ms ls (b a) ce _ C hR hS hl hm e1 e2 c1 c3 (by rw [c2]; exact hE.1))
/-- what is known of a method that is called, whether it has handlers or not -/
def dlnkG (q t : dMI) (i y : Nat) (as : List dV) (ks : List Nat) : Prop := dMis[y]? = some t ∧ t ∈ dMis ∧ (∃ k, k ∈ ks ∧ (i, y, k) ∈ dMT q.1) ∧ (t.2.1.cls ≠ "java/lang/invoke/MethodHandle" ∧ t.2.1.cls ≠ "java/lang/invoke/VarHandle") ∧ (parseMethodDescriptor t.2.1.desc).map (fun d => d.parameters.length) = some as.length ∧ t.2.2.2.1 ≤ 40
theorem ds_virtG (hdg : decode q.2.2.1 pc = .ok (.invokevirtual i, 3)) (ho : q.1 < 14) (K : dlnkG q t i y as [1]) (hci : ci < 14) (hcl : t.2.1.cls = cR ci) (ha : hat h a = some (ci + 4, n, ct)) (hM : dMetG l D b t d (.inr (.inr (Nat.succ a)) :: as) h v h1) (g1 : h.1 ≤ h1.1) (g2 : h.2.1 ≤ h1.2.1) (y1 : h1.1 ≤ h'.1) (y2 : h1.2.1 ≤ h'.2.1) (hc : dcat st ≤ 8) (Gn : dthr v = false → dWp l D b q (d + 1) (pc + 3) L (dpush v st) h1 r h') (Gx : dthr v = true → dThrow l D b q (d + 1) pc L h1 r h') : dWp l D b q (d + 1) pc L (as.reverse ++ .inr (.inr (Nat.succ a)) :: st) h r h' := by
  intro p e R s m args below meth c H locs cells slots mc ms ls C hR hS hl hm e1 e2
  obtain ⟨k1, k2, ⟨k, hk, hk2⟩, k4, k5, k6⟩ := K
  simp at hk; subst hk
  have hts := C.2.2.2.2.1
  have hG := dTs_c q k2
  have hw : ∀ w ∈ dWM q.1 (i, y, 1), w.before args s = true := fun w hw => hts w (List.mem_cons_of_mem _ (dTB_m ho hk2 hw))
  have hwm : ∀ w ∈ dWM q.1 (i, y, 1), w ∈ dTs q := fun w hw => List.mem_cons_of_mem _ (dTB_m ho hk2 hw)
  rw [dWM_1 k1] at hw hwm
  have a1 := hw (.methodLink (cR q.1) i t.2.1) (by simp)
  have a2 := hw (.instanceMethod t.2.1) (by simp)
  have a3 := hw (.initialized t.2.1.cls) (by simp)
  have a4 := hw (.selects t.2.1.cls t.2.1 t.2.1) (by simp)
  obtain ⟨cell, q1, q2, q3, -⟩ := (hR.2.2 a _ ha).obj hci
  have hfc := (C.2.2.2.2.2.2.2.2.1.1.1 ci _ (dCl_at ci hci)).2.1
  have hpre : PreV s H t.2.1.cls (b a) (va_Pc ((.inr (.inr (Nat.succ a)) :: as : List dV).map (dv b)) (fun U => dRl D b h U.heap ∧ dKK D b U U.heap)) (as.map (dv b)) := ⟨dblind, ⟨cell, q1, by rw [q3]; rfl, by rw [q2, hcl]; exact hfc⟩, fun U hU hW => ⟨rfl, by rw [hU]; exact hR, by rw [hU]; exact dKK.warm hW (dKK.kept hS.2.1 C.2.2.2.2.2.2.2.2.1)⟩⟩
  have hfin : ∀ a9, vx_Run p l e R s m args below meth c H locs cells slots (h1.1 - h.1) (h1.2.1 - h.2.1) (F0 m pc ls ((as.map (dv b)).reverse ++ .ref (b a) :: st.map (dv b))) (st.map (dv b)) (dQn D b v h1 a9) (dXn D b v h1) (fun x => b 0 ≤ x) → W p l e R s m args below meth c H locs cells slots (dE D b r h' below args s mc ms) (F0 m pc ls ((as.map (dv b)).reverse ++ .ref (b a) :: st.map (dv b))) := fun a9 run =>
    ds_afterG run hS (fun hv H1 locs1 hR1 hS1 => by
      rw [← dpush_map]
      exact Gn hv p e R s m args below meth c H1 locs1 _ _ mc ms ls C hR1 hS1 hl hm (by omega) (by omega)) (fun hv H1 locs1 q9 ce hR1 hS1 hce hcv hcl9 => Gx hv p e R s m args below meth c H1 locs1 _ _ mc ms ls q9 ce _ C hR1 hS1 hl hm (by omega) (by omega) hce hcv hcl9)
  rw [dmap_rev2]
  cases hh : dHH t with
  | nil =>
    have hwt : dTs t = Cond.code t.2.1 t.2.2.1 t.2.2.2.1 t.2.2.2.2 :: dTB := by
      show dWCh t (dHH t) :: dTB = _
      rw [hh]; rfl
    have cb := callB_of (R := R) (own := cR q.1) (index := i) (y := t.2.1) (rm := { frames := d, cells := h1.1 - h.1, slots := h1.2.1 - h.2.1, locals := d * 64 }) as.length hts hG hwt rfl rfl a3 a1 ⟨k4.1, k4.2, k5⟩ (droom hm k6)
    exact hfin _ (vx_runV (C := t.2.1.cls) (b := b a) (As := as.map (dv b)) ⟨C.1, C.2.1, C.2.2.1, C.2.2.2.1, hts⟩ hM ⟨cb, a2, a4⟩ hpre rfl (List.length_map _) hl.1 rfl (lv_room (by rw [dcat_eq]; exact hc)) hdg ⟨by have := hm.2.2.1; omega, by have := hm.2.2.2; omega⟩)
  | cons z zs =>
    have hwt : dTs t = Cond.codeWith t.2.1 t.2.2.1 t.2.2.2.1 t.2.2.2.2 (z :: zs) :: dTB := by
      show dWCh t (dHH t) :: dTB = _
      rw [hh]; rfl
    have hGV : GoodIn (dTs q) (wsV (cR q.1) i t.2.1.cls t.2.1 (dTs t)) := by
      intro w hw9
      unfold wsV at hw9
      have hgw : w ∈ dTs q := by
        rcases List.mem_append.mp hw9 with g | g
        · exact hwm w (by simpa using g)
        · exact (hG w g).1
      rcases List.mem_append.mp hw9 with g | g
      · exact ⟨hgw, dTB_gd (dTB_m ho hk2 (by rw [dWM_1 k1]; simpa using g))⟩
      · exact hG w g
    have cw := vx_cwVW (R := R) (own := cR q.1) (C := t.2.1.cls) (index := i) (y := t.2.1) (rm := { frames := d, cells := h1.1 - h.1, slots := h1.2.1 - h.2.1, locals := d * 64 }) as.length hts hGV hwt rfl rfl ⟨rfl, k4.1, k4.2, k5⟩ (droom hm k6)
    exact hfin _ (vx_runVX (C := t.2.1.cls) (b := b a) (As := as.map (dv b)) ⟨C.1, C.2.1, C.2.2.1, C.2.2.2.1, hts⟩ hM cw hpre rfl (List.length_map _) hl.1 rfl (lv_room (by rw [dcat_eq]; exact hc)) hdg ⟨by have := hm.2.2.1; omega, by have := hm.2.2.2; omega⟩)
end DXT
end
section
/-! ===== an exception made ===== -/
section
variable {p : Program} {l : Launch} {e : Env} {R : Room} {s : State} {m : MethodId} {args : Array Value} {below : List Frame} {meth : Method} {c : Code} {H : Heap} {locs : List Loc} {cells slots : Nat}
/-- a frame seen from a rebased start, seen from the first start again -/
theorem vx_back9 {T S : State} {R' : Room} {k n : Nat} (X : Stand p l e R s m args below meth c T locs cells slots) (Y : Stand p l e R' ((T.setVm s.vm).setFrames (.invoking m args :: below)) m args below meth c T [] 0 0) (Z : Stand p l e R' ((T.setVm s.vm).setFrames (.invoking m args :: below)) m args below meth c S [] k n) :
    Stand p l e R s m args below meth c S locs (cells + k) (slots + n) := by
  have hW0 : s.WarmedH ((T.setVm s.vm).setFrames (.invoking m args :: below)).vm := State.WarmedH.refl s
  refine { admits := X.admits, cas := X.cas, clock := X.clock, frames := X.frames, room := X.room, hears := X.hears, method := X.method, code := X.code, here := Z.here, tail := Z.tail, warmed := State.WarmedH.trans hW0 Z.warmed, limits := Z.limits.trans (Y.limits.symm.trans X.limits), bytes := Z.bytes.trans (Y.bytes.symm.trans X.bytes), same := ?_ }
  obtain ⟨e1, e2⟩ := Z.same
  rw [State.setFrames_setFrames] at e1
  have h2 : (T.setVm s.vm).sameButNew (S.setVm s.vm) [] k n := ⟨e1, e2⟩
  have h3 := X.same.trans h2
  rw [List.append_nil] at h3
  exact h3
end
section
variable {p : Program} {l : Launch} {e : Env} {R : Room} {s : State} {m : MethodId} {args : Array Value} {below : List Frame} {meth : Method} {c : Code} {H : Heap} {locs : List Loc} {cells slots : Nat} {Q : State → Prop} {ls : Array Slot} {rest : List Value}
/-- 'new E("text")' that isn't thrown at once, whatever else the heap holds (after the kit's vx_makeS) -/
theorem dx_make {cc : ByteArray} {pc : Nat} (hexec : p.tables.exec = Jvm.exec) (hb : c.code = cc) (hl : l.stackTraces = false) {own cls text : String} {names : List String} {ik is ic sa : Nat} {A : Nat → Prop} {cX9 : ClassId}
    (hown : s.vm.findClass own = some m.cls) (hcls : Bundle.fit cls = true) (hnames : ∀ n ∈ names, Bundle.fit n = true)
    (hk : (Cond.classLink own ik cls).before args s = true) (hini : (Cond.initialized cls).before args s = true) (hstr : vk_R own is text sa s) (hat : ∀ w ∈ vx_atS own ic cls names, w.before args s = true)
    (hgood : ∀ w ∈ Cond.classLink own ik cls :: Cond.initialized cls :: vx_atS own ic cls names, vx_ot w = true)
    (hU : vx_Zq Bundle.tN "UNASSIGNED_STACK" Bundle.steD A s s.heap) (hN : vx_Zq Bundle.tN "SUPPRESSED_SENTINEL" Bundle.listD A s s.heap) (hS : ∀ a : Nat, a < s.heap.size → ¬ A a → H[a]? = s.heap[a]?) (hsize : ls.size = c.maxLocals)
    (d0 : decode cc pc = .ok (.new ik, 3)) (d3 : decode cc (pc + 3) = .ok (.dup, 1)) (d4 : decode cc (pc + 4) = .ok (.ldc is, 2)) (d6 : decode cc (pc + 6) = .ok (.invokespecial ic, 3)) (hcX9 : s.vm.findClass cls = some cX9)
    (hRframes : names.length + 3 < R.frames) (hRlocals : (rest.map fun v => v.category).sum + (13 * (names.length + 1) + 43) ≤ R.locals) (hRcells : cells + 1 ≤ R.cells) (hRslots : slots + 6 ≤ R.slots)
    (kk : ∀ (H1 : Heap) (ce : Cell), H1.size = H.size + 1 → (∀ q : Nat, q < H.size → H1[q]? = H[q]?) → H1[H.size]? = some ce → ce.cls = cX9 → ce.vm = .none → W p l e R s m args below meth c H1 locs (cells + 1) (slots + 6) Q (F0 m (pc + 9) ls (.ref H.size :: rest))) :
    W p l e R s m args below meth c H locs cells slots Q (F0 m pc ls rest) := by
  intro T hT X
  subst hT
  have htr : e.platform.stackTraces = false := (show e.platform.stackTraces = l.stackTraces by rw [X.admits.platform]).trans hl
  have Y := vx_rebase X (R' := { frames := R.frames, locals := R.locals, cells := 1, slots := 6 }) (Nat.le_refl _) (Nat.le_refl _) hRcells hRslots
  obtain ⟨s', hA'⟩ : ∃ z, z = (T.setVm s.vm).setFrames (.invoking m args :: below) := ⟨_, rfl⟩
  rw [← hA'] at Y
  have hvm : s'.vm = s.vm := by rw [hA']; rfl
  have hhp : s'.heap = T.heap := by rw [hA']; rfl
  have hW0 : s.WarmedH s'.vm := by rw [hvm]; exact State.WarmedH.refl s
  have hat' : ∀ w ∈ vx_atS own ic cls names, w.before args s' = true := fun w hw => vx_ot_at hW0 hvm.symm (hgood w (List.mem_cons_of_mem _ (List.mem_cons_of_mem _ hw))) (hat w hw)
  have hk' : (Cond.classLink own ik cls).before args s' = true := vx_ot_at hW0 hvm.symm (hgood _ List.mem_cons_self) hk
  have hini' : (Cond.initialized cls).before args s' = true := vx_ot_at hW0 hvm.symm (hgood _ (List.mem_cons_of_mem _ List.mem_cons_self)) hini
  have hU' : vx_Zq Bundle.tN "UNASSIGNED_STACK" Bundle.steD A s' s'.heap := by rw [hhp]; exact vx_Zq.moved hW0.alike (hU.kept hS)
  have hN' : vx_Zq Bundle.tN "SUPPRESSED_SENTINEL" Bundle.listD A s' s'.heap := by rw [hhp]; exact vx_Zq.moved hW0.alike (hN.kept hS)
  have h : ∀ w ∈ Bundle.ownAtoms own ic cls names, w.before args s' = true := vx_own hat' (vx_isRefq hU'.1) (vx_isRefq hN'.1) hU'.2.word hN'.2.word
  have hown' : s'.vm.findClass own = some m.cls := by rw [hvm]; exact hown
  have hins : (Cond.instantiable cls 6).before args s' = true := h _ (by simp [Bundle.ownAtoms])
  obtain ⟨vm₁, cX, kX, hfX, hkX, -, -, X₁, st1⟩ := Y.newCold hexec (own := own) (C := cls) (index := ik) (n := 6) hown' hk' hins hini'
    (g := F0 m pc ls rest) rfl (by rw [hb]; exact d0) (Nat.le_refl _) (Nat.le_refl _)
  generalize hT1 : (T.setVm vm₁).pushCell { cls := cX, slots := kX.instanceTypes.map defaultValue, vm := .none } = T1 at X₁ st1
  have hcat : (Value.ref T.heap.size).category = 1 := rfl
  have hcellA : T1.heap[T.heap.size]? = some (freshCell cX kX) := by rw [← hT1]; exact State.heap_pushCell_size _ _
  have d3' : decode c.code (pc + 3) = .ok (.dup, 1) := by rw [hb]; exact d3
  have d4' : decode c.code (pc + 4) = .ok (.ldc is, 2) := by rw [hb]; exact d4
  have hstr' : vk_R own is text sa s' := vk_R.warm hW0 hstr
  obtain ⟨V, ce, L, Z, hL, hlt, hcl9, hvm9, st⟩ := vx_ctorMadeS X₁ hexec htr (own := own) (cls := cls) (names := names) (ic := ic) hown' hcls hnames h (fun x hx => nomatch hx) hfX hkX hcellA (by rw [hhp]; exact Nat.le_refl _) (msg := .ref sa) rfl
    (g := { method := m, pc := pc + 6, locals := ls, stack := .ref sa :: .ref T.heap.size :: .ref T.heap.size :: rest, locked := none }) rfl hsize (rest := rest) rfl
    (by rw [hb]; exact d6) hRframes (by simp only [List.map_cons, List.sum_cons, hcat]; omega)
  have Z0 := Stand.forget (locs := []) Z (fun y hy => by rw [hL y hy, hhp]; exact Nat.le_refl _)
  obtain ⟨f1, f2⟩ := vx_frame Z0.same
  rw [hhp] at f1 f2
  have hcid : ce.cls = cX9 := by
    rw [hcl9]
    rw [hvm] at hfX
    exact Option.some.inj (hfX.symm.trans hcX9)
  have hh : (V.setCell T.heap.size ce).heap[T.heap.size]? = some ce := heapAt_setCell_self (s := V) ce hlt
  subst hA'
  have X5 := vx_back9 X Y Z0
  have X6 : Stand p l e R s m args below meth c (V.setCell T.heap.size ce) locs (cells + 1) (slots + 6) := { X5 with same := X5.same.mono (by omega) (by omega) }
  have f3 : (V.setCell T.heap.size ce).heap.size = T.heap.size + 1 := by
    have g1 := Z0.same.2.2.1
    have g2 := (Array.getElem?_eq_some_iff.mp hh).1
    have g3 : (V.setCell T.heap.size ce).heap.size ≤ T.heap.size + 1 := g1
    omega
  obtain ⟨t, a1, b1⟩ := kk (V.setCell T.heap.size ce).heap ce f3 (fun q hq => f2 q hq (fun z hz => nomatch hz)) hh hcid hvm9 _ rfl X6
  refine ⟨t, st1 _ ?_, b1⟩
  show Steps p.tables e below (T1.setTop { method := m, pc := pc + 3, locals := ls, stack := .ref T.heap.size :: rest, locked := none }) _
  jvm_step X₁.here [X₁.here.top, hexec, d3', Value.category]
  exact X₁.ldcString hexec (own := own) (text := text) (index := is) (a := sa) hown' hstr'.1 hstr'.2
    (g := { method := m, pc := pc + 4, locals := ls, stack := .ref T.heap.size :: .ref T.heap.size :: rest, locked := none }) rfl d4' _ (st _ a1)
end
theorem dXA_at {q : dMI} {s : State} {args : Array Value} (hts : ∀ w ∈ dTs q, w.before args s = true) (hB : ∀ w ∈ dXB, va_Nw w s) : ∀ w ∈ dXA, w.before args s = true := by
  intro w hw
  cases hg : goodWord w
  · have hb : w ∈ dXB := List.mem_filter.mpr ⟨hw, by show (!goodWord w) = true; rw [hg]; rfl⟩
    exact va_Nw.use (dXt_tab (dXB_t hb)) (hB w hb)
  · exact hts w (List.mem_cons_of_mem _ (dTB_xw (List.mem_filter.mpr ⟨hw, hg⟩)))
theorem dXA_good {w : Cond} (hw : w ∈ dXA) : vx_ot w = true := by
  have h := List.all_eq_true.mp dXA_ot w hw
  rcases (Bool.or_eq_true _ _).mp h with h | h
  · exact h
  · unfold vx_ot
    rw [dXt_tab h]; rfl
theorem dXA_mem {o ik is w ic : Nat} (h : (o, ik, is, w, ic) ∈ dXN) : ∀ x ∈ Cond.classLink (cR o) ik xE :: Cond.initialized xE :: vx_atS (cR o) ic xE xU, x ∈ dXA := by
  intro x hx
  exact List.mem_append.mpr (Or.inr (List.mem_flatMap.mpr ⟨_, h, hx⟩))
section DXM
variable {l : Launch} {D : dD} {b : Nat → Nat} {q : dMI} {d pc : Nat} {L : dL} {st : List dV} {h h1 : dH} {r : Option dV} {h' : dH}
theorem ds_xnew (hfl : l.stackTraces = false) {ik is w ic : Nat} (hn : h.1 < 1073741824) (hxn : (q.1, ik, is, w, ic) ∈ dXN) (hsr : (q.1, is, w) ∈ dSR) (d0 : decode q.2.2.1 pc = .ok (.new ik, 3)) (d3 : decode q.2.2.1 (pc + 3) = .ok (.dup, 1)) (d4 : decode q.2.2.1 (pc + 4) = .ok (.ldc is, 2)) (d6 : decode q.2.2.1 (pc + 6) = .ok (.invokespecial ic, 3)) (hd : 10 ≤ d) (hc : dcat st ≤ 8)
    (z1 : h1.1 = h.1 + 1) (z2 : h1.2.1 = h.2.1 + 6) (hw1 : hwf h1) (eh : ∀ j, hat h1 j = if j = h.1 then some (18, 6, 0) else hat h j) (y1 : h1.1 ≤ h'.1) (y2 : h1.2.1 ≤ h'.2.1) (G : dWp l D b q d (pc + 9) L (.inr (.inr (Nat.succ h.1)) :: st) h1 r h') : dWp l D b q d pc L st h r h' := by
  intro p e R s m args below meth c H locs cells slots mc ms ls C hR hS hl hm e1 e2
  have hts := C.2.2.2.2.1
  have hK := C.2.2.2.2.2.2.2.2.1
  have hE := hK.2.2.2.2.2
  have hat := dXA_at hts hE.2.1
  have hmem := dXA_mem hxn
  have m1 := hm.1
  have m2 := hm.2.1
  have m3 := hm.2.2.1
  have m4 := hm.2.2.2
  have w1 : (Cond.classLink (cR q.1) ik xE).before args s = true := hat _ (hmem _ List.mem_cons_self)
  have w2 : (Cond.initialized xE).before args s = true := hat _ (hmem _ (List.mem_cons_of_mem _ List.mem_cons_self))
  have w3 : vk_R (cR q.1) is (dTn.getD w "") (b (dT0 + w)) s := hK.2.2.2.1 (q.1, is, w) hsr
  have w4 : ∀ x ∈ vx_atS (cR q.1) ic xE xU, x.before args s = true := fun x hx => hat x (hmem x (List.mem_cons_of_mem _ (List.mem_cons_of_mem _ hx)))
  have w5 : ∀ x ∈ Cond.classLink (cR q.1) ik xE :: Cond.initialized xE :: vx_atS (cR q.1) ic xE xU, vx_ot x = true := fun x hx => dXA_good (hmem x hx)
  have w6 : Bundle.fit xE = true := by decide +kernel
  have w7 : ∀ n ∈ xU, Bundle.fit n = true := by decide +kernel
  have w8 : xU.length + 3 < R.frames := by
    have : xU.length = 2 := rfl
    omega
  have w9 : ((st.map (dv b)).map fun v => v.category).sum + (13 * (xU.length + 1) + 43) ≤ R.locals := by
    have : xU.length = 2 := rfl
    rw [dcat_eq]
    omega
  refine dx_make (own := cR q.1) (cls := xE) (names := xU) (text := dTn.getD w "") (ik := ik) (is := is) (ic := ic) (sa := b (dT0 + w)) (A := fun q => b 0 ≤ q) (cX9 := D.2 4) C.1 C.2.1 hfl C.2.2.2.1 w6 w7 w1 w2 w3 w4 w5 hE.2.2.1 hE.2.2.2 (fun a _ ha => hS.2.1 a (Nat.not_le.mp ha)) (hl.1.trans C.2.2.1.symm) d0 d3 d4 d6 hE.1 w8 w9 (by omega) (by omega) ?_
  intro H1 ce x2 x3 x1 xc xv
  have hz : Value.ref H.size = dv b (.inr (.inr (Nat.succ h.1))) := by
    rw [dv_s, hR.at (Nat.le_refl _), hR.1.1]
  rw [hz]
  exact G p e R s m args below meth c H1 locs (cells + 1) (slots + 6) mc ms ls C (hR.push hn x2 x3 (Or.inr (Or.inr ⟨rfl, ce, x1, xc, xv⟩)) z1 hw1 eh) (hS.push hR.1.1 x3) hl hm (by omega) (by omega)
end DXM
end
section
/-! ===== System.arraycopy of bytes ===== -/
theorem dfit_b : ∀ w, w < 256 → fits .byte (.int (Int32.ofNat (dI2b w))) = true := by decide +kernel
section DCP
variable {l : Launch} {D : dD} {b : Nat → Nat} {q : dMI} {d pc : Nat} {L : dL} {st : List dV} {h h1 : dH} {r : Option dV} {h' : dH}
theorem ds_acopy {i xs xd xn a1 a2 n1 n2 ct1 ct2 : Nat} (hdg : decode q.2.2.1 pc = .ok (.invokestatic i, 3)) (hm2 : (q.1, i) ∈ dAC) (hd : 1 ≤ d) (hcat : dcat st ≤ 8) (hc1 : hat h a1 = some (2, n1, ct1)) (hc2 : hat h a2 = some (2, n2, ct2)) (s1 : xs % 4294967296 < 2147483648) (s2 : xd % 4294967296 < 2147483648) (s3 : xn % 4294967296 < 2147483648) (g1 : xs % 4294967296 + xn % 4294967296 ≤ n1) (g2 : xd % 4294967296 + xn % 4294967296 ≤ n2) (z1 : h1.1 = h.1) (z2 : h1.2.1 = h.2.1) (hw1 : hwf h1) (eh : ∀ j, hat h1 j = if j = a2 then some (2, n2, dcp ct1 ct2 (xs % 4294967296) (xd % 4294967296) (xn % 4294967296)) else hat h j) (G : dWp l D b q d (pc + 3) L st h1 r h') : dWp l D b q d pc L (.inl xn :: .inl xd :: .inr (.inr (Nat.succ a2)) :: .inl xs :: .inr (.inr (Nat.succ a1)) :: st) h r h' := by
  intro p e R s m args below meth c H locs cells slots mc ms ls C hR hS hl hm e1 e2
  have hts := C.2.2.2.2.1
  have w1 : Cond.methodLink (cR q.1) i arraycopyName ∈ dTs q := List.mem_cons_of_mem _ (dTB_ac hm2)
  have w2 : Cond.native arraycopyName ∈ dTs q := List.mem_cons_of_mem _ (dTB_xc (by simp [dWC9]))
  have w3 : Cond.static arraycopyName ∈ dTs q := List.mem_cons_of_mem _ (dTB_xc (by simp [dWC9]))
  have w4 : Cond.initialized "java/lang/System" ∈ dTs q := List.mem_cons_of_mem _ (dTB_xc (by simp [dWC9]))
  have i1 := dix (i := xs) (n := xs % 4294967296 + 1) (by omega) s1
  have i2 := dix (i := xd) (n := xd % 4294967296 + 1) (by omega) s2
  have i3 := dix (i := xn) (n := xn % 4294967296 + 1) (by omega) s3
  have k1 : ¬ Int32.ofNat xs < 0 := fun z => i1.1 (Or.inl z)
  have k2 : ¬ Int32.ofNat xd < 0 := fun z => i2.1 (Or.inl z)
  have k3 : ¬ Int32.ofNat xn < 0 := fun z => i3.1 (Or.inl z)
  have nn : ∀ z : Int32, ¬ z < 0 → z.toInt = (z.toNatClampNeg : Int) := by
    intro z hz
    have hz0 : (0 : Int) ≤ z.toInt := by
      have := Int32.not_lt.mp hz
      simpa using Int32.le_iff_toInt_le.mp this
    show z.toInt = ((z.toInt.toNat : Nat) : Int)
    omega
  have hA1 := (hR.2.2 a1 _ hc1).arr (by decide)
  have hA2 := (hR.2.2 a2 _ hc2).arr (by decide)
  have hT2 := (C.2.2.2.2.2.2.2.2.1.2.1 2 (by decide)).1
  intro T hT X
  obtain ⟨-, k0, hk0, cm0, hkk0⟩ := hT2 n1 (dEl 2 ct1)
  obtain ⟨-, k9, hk9, cm9, hkk9⟩ := hT2 n2 (dEl 2 ct2)
  obtain ⟨vm', X', step⟩ := X.arraycopy C.1 C.2.2.2.1 (hts _ w1) (hts _ w2) (hts _ w3) (hts _ w4) (src := b a1) (dst := b a2) (cs := arrV (D.2 2) n1 (dEl 2 ct1)) (cd := arrV (D.2 2) n2 (dEl 2 ct2)) (srcPos := Int32.ofNat xs) (destPos := Int32.ofNat xd) (n := Int32.ofNat xn) (by rw [hT]; exact hA1) (by rw [hT]; exact hA2)
    (fun _ h => by cases h) (fun _ h => by cases h) (fun h => by cases h) (fun h => by cases h) hk0 hk9 hkk0 hkk9 (by simp [refKind, dTy]) k1 k2 k3
    (by rw [nn _ k1, nn _ k3, arrV_size, i1.2, i3.2]; omega)
    (by rw [nn _ k2, nn _ k3, arrV_size, i2.2, i3.2]; omega)
    (fun vm₁ _ j hj => by
      rw [i3.2] at hj
      have e9 : (arrV (D.2 2) n1 (dEl 2 ct1)).slots.getD ((Int32.ofNat xs).toNatClampNeg + j) .null = dEl 2 ct1 ((Int32.ofNat xs).toNatClampNeg + j) := by
        rw [Array.getD_eq_getD_getElem?, arrV_read _ _ (by rw [i1.2]; omega)]
        rfl
      refine ⟨?_, ?_⟩
      · rw [e9]
        exact dfit_b _ (wd_lt 8 _ _)
      · rw [e9]
        exact trivial)
    (g := F0 m pc ls (.int (Int32.ofNat xn) :: .int (Int32.ofNat xd) :: .ref (b a2) :: .int (Int32.ofNat xs) :: .ref (b a1) :: st.map (dv b))) rfl (by show ls.size = _; rw [hl.1, C.2.2.1]) (rest := st.map (dv b)) rfl (by rw [C.2.1]; exact hdg) (by have := hm.1; omega) (by
      have h3 := dcat_eq b st
      have h4 := hm.2.1
      show 2 * 0 + ((st.map (dv b)).map fun v => v.category).sum + _ ≤ _
      rw [h3]
      have h5 : nativeFrameWords "java/lang/System" "arraycopy" 5 + 11 ≤ 40 := by decide +kernel
      omega)
  have ec : copied (arrV (D.2 2) n1 (dEl 2 ct1)) (arrV (D.2 2) n2 (dEl 2 ct2)) (Int32.ofNat xs) (Int32.ofNat xd) (Int32.ofNat xn) = arrV (D.2 2) n2 (dEl 2 (dcp ct1 ct2 (xs % 4294967296) (xd % 4294967296) (xn % 4294967296))) := by
    have := va_copied (fun z : Value => z) (D.2 2) (D.2 2) (sp := (Int32.ofNat xs).toNatClampNeg) (dp := (Int32.ofNat xd).toNatClampNeg) (n := (Int32.ofNat xn).toNatClampNeg) (n0 := n1) (n1 := n2) (dEl 2 ct1) (dEl 2 ct2) (by rw [i1.2, i3.2]; exact g1)
    refine Eq.trans this ?_
    congr 1
    funext j
    rw [i1.2, i2.2, i3.2]
    show (if xd % 4294967296 ≤ j ∧ j < xd % 4294967296 + xn % 4294967296 then dEl 2 ct1 (xs % 4294967296 + (j - xd % 4294967296)) else dEl 2 ct2 j) = Value.int (Int32.ofNat (dI2b (wd 8 (dcp ct1 ct2 (xs % 4294967296) (xd % 4294967296) (xn % 4294967296)) j)))
    rw [wd_dcp]
    split <;> rfl
  rw [ec] at X' step
  have hb2 : b 0 ≤ b a2 := by have := hR.at (Nat.le_of_lt (hat_lt hR.2.1 hc2)); omega
  have hlt : b a2 < H.size := (Array.getElem?_eq_some_iff.mp hA2).1
  generalize hcell : arrV (D.2 2) n2 (dEl 2 (dcp ct1 ct2 (xs % 4294967296) (xd % 4294967296) (xn % 4294967296))) = cell at X' step
  have hheap : ((T.setVm vm').setCell (b a2) cell).heap = H.setIfInBounds (b a2) cell := by rw [← hT]; rfl
  have oq : ∀ q : Nat, q ≠ b a2 → (H.setIfInBounds (b a2) cell)[q]? = H[q]? := fun q hq => by simp [Array.getElem?_setIfInBounds, Ne.symm hq]
  obtain ⟨t, t1, t2⟩ := G p e R s m args below meth c (H.setIfInBounds (b a2) cell) _ cells slots mc ms ls C (hR.set hc2 (by simp) oq (Or.inl ⟨show 2 < 4 by decide, by rw [← hcell]; simp [Array.getElem?_setIfInBounds, hlt]⟩) z1 hw1 eh) ⟨hS.1, fun q hq => (oq q (by omega)).trans (hS.2.1 q hq), fun x hx => by
      rcases List.mem_append.mp hx with g | g
      · exact hS.2.2 x g
      · obtain ⟨z, -, hz⟩ := List.mem_map.mp g
        rw [← hz]
        exact hb2⟩ hl hm (by omega) (by omega) _ hheap X'
  exact ⟨t, step t t1, t2⟩
end DCP
end
section
/-! ===== a call of Integer.bitCount ===== -/
section DBT
variable {l : Launch} {D : dD} {b : Nat → Nat} {q : dMI} {d pc : Nat} {L : dL} {st : List dV} {h : dH} {r : Option dV} {h' : dH}
theorem dGB {Ts : List Cond} (hT : ∀ w ∈ dWB0, w ∈ Ts) : GoodIn Ts (Cond.code dBitY dBitC 1 (some .int) :: dWB0) := by
  have hg : dWB0.all goodWord = true := by decide +kernel
  intro w hw
  have h : w ∈ dWB0 := by
    rcases List.mem_cons.mp hw with rfl | h
    · simp [dWB0]
    · exact h
  exact ⟨hT w h, good_of_word (List.all_eq_true.mp hg w h)⟩
theorem ds_bitc {i x : Nat} (hdg : decode q.2.2.1 pc = .ok (.invokestatic i, 3)) (hm2 : (q.1, i) ∈ dBC) (hd : 1 ≤ d) (hc : dcat st ≤ 8) (y1 : h.1 ≤ h'.1) (y2 : h.2.1 ≤ h'.2.1) (G : dWp l D b q d (pc + 3) L (.inl (dBit x) :: st) h r h') : dWp l D b q d pc L (.inl x :: st) h r h' := by
  intro p e R s m args below meth c H locs cells slots mc ms ls C hR hS hl hm e1 e2
  have hts := C.2.2.2.2.1
  have h1 := hm.1
  have h2 := hm.2.1
  have hj : ∀ w ∈ dWB0, w ∈ dTs q := fun w hw => List.mem_cons_of_mem _ (dTB_b0 hm2 hw)
  have cb := callB_of (R := R) (own := cR q.1) (index := i) (y := dBitY) (rm := k2_rm 0 0) 1 hts (dGB hj) rfl rfl rfl (hts _ (hj (.initialized "java/lang/Integer") (by simp [dWB0]))) (hts _ (List.mem_cons_of_mem _ (dTB_bc hm2))) ⟨by decide, by decide, by decide +kernel⟩ ⟨by show 0 + 1 ≤ _; omega, by show 8 + (1 + 11) + 0 ≤ _; omega⟩
  refine dt_after (v := some (.int (Int32.ofNat (dBit x)))) (va_runS (As := [.int (Int32.ofNat x)]) (rest := st.map (dv b)) ⟨C.1, C.2.1, C.2.2.1, C.2.2.2.1, hts⟩ (jt_bit l x) ⟨cb, hts _ (hj (.static dBitY) (by simp [dWB0]))⟩ ⟨fun a U g mk z => ⟨z.1, trivial⟩, fun U hU hW => ⟨rfl, trivial⟩⟩ rfl rfl hl.1 rfl (lv_room (by rw [dcat_eq]; exact hc)) hdg ⟨by have := hm.2.2.1; omega, by have := hm.2.2.2; omega⟩) ?_
  exact G p e R s m args below meth c H locs cells slots mc ms ls C hR hS hl hm e1 e2
end DBT
end
section
/-! ===== what the program of words answers, the machine answers ===== -/
theorem vI_inv {v : dV} {k : Nat → dR} {z : Option dV × dH} (h : vI v k = some z) : ∃ n, v = .inl n ∧ k n = some z := by
  match v, h with
  | .inl n, h => exact ⟨n, rfl, h⟩
theorem vL_inv {v : dV} {k : Nat → dR} {z : Option dV × dH} (h : vL v k = some z) : ∃ n, v = .inr (.inl n) ∧ k n = some z := by
  match v, h with
  | .inr (.inl n), h => exact ⟨n, rfl, h⟩
theorem vR_inv {v : dV} {k : Nat → dR} {z : Option dV × dH} (h : vR v k = some z) : ∃ n, v = .inr (.inr n) ∧ k n = some z := by
  match v, h with
  | .inr (.inr n), h => exact ⟨n, rfl, h⟩
theorem vA_inv {v : dV} {k : Nat → dR} {z : Option dV × dH} (h : vA v k = some z) : ∃ n, v = .inr (.inr (Nat.succ n)) ∧ k n = some z := by
  obtain ⟨n, rfl, h⟩ := vR_inv h
  cases n with
  | zero => cases h
  | succ n => exact ⟨n, rfl, h⟩
theorem pop_inv {st : List dV} {k : dV → List dV → dR} {z : Option dV × dH} (h : pop st k = some z) : ∃ v r, st = v :: r ∧ k v r = some z := by
  cases st with
  | nil => cases h
  | cons v r => exact ⟨v, r, rfl, h⟩
theorem emp_inv {st : List dV} {x : dR} {z : Option dV × dH} (h : emp st x = some z) : st = [] ∧ x = some z := by
  cases st with
  | nil => exact ⟨rfl, h⟩
  | cons v r => cases h
theorem opt_inv {α : Type} {o : Option α} {k : α → dR} {z : Option dV × dH} (h : opt o k = some z) : ∃ a, o = some a ∧ k a = some z := by
  cases o with
  | none => cases h
  | some a => exact ⟨a, rfl, h⟩
theorem cel_inv {o : Option dC} {k : Nat → Nat → Nat → dR} {z : Option dV × dH} (h : cel o k = some z) : ∃ kd n ct, o = some (kd, n, ct) ∧ k kd n ct = some z := by
  cases o with
  | none => cases h
  | some c => exact ⟨c.1, c.2.1, c.2.2, rfl, h⟩
theorem d1_inv {st : List dV} {k : Nat → List dV → dR} {z : Option dV × dH} (h : d1 st k = some z) : ∃ a r, st = .inl a :: r ∧ k a r = some z := by
  obtain ⟨v, r, rfl, h2⟩ := pop_inv h
  obtain ⟨n, rfl, h3⟩ := vI_inv h2
  exact ⟨_, _, rfl, h3⟩
theorem d2_inv {st : List dV} {k : Nat → Nat → List dV → dR} {z : Option dV × dH} (h : d2 st k = some z) : ∃ a b r, st = .inl b :: .inl a :: r ∧ k a b r = some z := by
  obtain ⟨v, r, rfl, h2⟩ := pop_inv h
  obtain ⟨n, rfl, h3⟩ := vI_inv h2
  obtain ⟨v, r, rfl, h4⟩ := pop_inv h3
  obtain ⟨n, rfl, h5⟩ := vI_inv h4
  exact ⟨_, _, _, rfl, h5⟩
theorem d2l_inv {st : List dV} {k : Nat → Nat → List dV → dR} {z : Option dV × dH} (h : d2l st k = some z) : ∃ a b r, st = .inr (.inl b) :: .inr (.inl a) :: r ∧ k a b r = some z := by
  obtain ⟨v, r, rfl, h2⟩ := pop_inv h
  obtain ⟨n, rfl, h3⟩ := vL_inv h2
  obtain ⟨v, r, rfl, h4⟩ := pop_inv h3
  obtain ⟨n, rfl, h5⟩ := vL_inv h4
  exact ⟨_, _, _, rfl, h5⟩
theorem d1l_inv {st : List dV} {k : Nat → List dV → dR} {z : Option dV × dH} (h : d1l st k = some z) : ∃ a r, st = .inr (.inl a) :: r ∧ k a r = some z := by
  obtain ⟨v, r, rfl, h2⟩ := pop_inv h
  obtain ⟨n, rfl, h3⟩ := vL_inv h2
  exact ⟨_, _, rfl, h3⟩
theorem dil_inv {st : List dV} {k : Nat → Nat → List dV → dR} {z : Option dV × dH} (h : dil st k = some z) : ∃ a b r, st = .inl b :: .inr (.inl a) :: r ∧ k a b r = some z := by
  obtain ⟨v, r, rfl, h2⟩ := pop_inv h
  obtain ⟨n, rfl, h3⟩ := vI_inv h2
  obtain ⟨v, r, rfl, h4⟩ := pop_inv h3
  obtain ⟨n, rfl, h5⟩ := vL_inv h4
  exact ⟨_, _, _, rfl, h5⟩
theorem d1a_inv {st : List dV} {k : Nat → List dV → dR} {z : Option dV × dH} (h : d1a st k = some z) : ∃ a r, st = .inr (.inr (Nat.succ a)) :: r ∧ k a r = some z := by
  obtain ⟨v, r, rfl, h2⟩ := pop_inv h
  obtain ⟨n, rfl, h3⟩ := vA_inv h2
  exact ⟨_, _, rfl, h3⟩
theorem dia_inv {st : List dV} {k : Nat → Nat → List dV → dR} {z : Option dV × dH} (h : dia st k = some z) : ∃ a i r, st = .inl i :: .inr (.inr (Nat.succ a)) :: r ∧ k a (i % 4294967296) r = some z := by
  obtain ⟨v, r, rfl, h2⟩ := pop_inv h
  obtain ⟨i, rfl, h3⟩ := vI_inv h2
  obtain ⟨v, r, rfl, h4⟩ := pop_inv h3
  obtain ⟨a, rfl, h5⟩ := vA_inv h4
  rw [fo_eq] at h5
  exact ⟨_, _, _, rfl, h5⟩
theorem diia_inv {st : List dV} {k : Nat → Nat → Nat → List dV → dR} {z : Option dV × dH} (h : diia st k = some z) : ∃ a i v r, st = .inl v :: .inl i :: .inr (.inr (Nat.succ a)) :: r ∧ k a (i % 4294967296) v r = some z := by
  obtain ⟨v, r, rfl, h2⟩ := pop_inv h
  obtain ⟨x, rfl, h3⟩ := vI_inv h2
  obtain ⟨a, i, r, rfl, h4⟩ := dia_inv h3
  exact ⟨_, _, _, _, rfl, h4⟩
theorem dlia_inv {st : List dV} {k : Nat → Nat → Nat → List dV → dR} {z : Option dV × dH} (h : dlia st k = some z) : ∃ a i v r, st = .inr (.inl v) :: .inl i :: .inr (.inr (Nat.succ a)) :: r ∧ k a (i % 4294967296) v r = some z := by
  obtain ⟨v, r, rfl, h2⟩ := pop_inv h
  obtain ⟨x, rfl, h3⟩ := vL_inv h2
  obtain ⟨a, i, r, rfl, h4⟩ := dia_inv h3
  exact ⟨_, _, _, _, rfl, h4⟩
theorem dco_inv {c : Bool} {x : dR} {z : Option dV × dH} (h : cond c x none = some z) : c = true ∧ x = some z := by
  cases c
  · cases h
  · exact ⟨rfl, h⟩
theorem din_inv {i n : Nat} {x : dR} {z : Option dV × dH} (h : din i n x = some z) : i < n ∧ i < 2147483648 ∧ x = some z := by
  obtain ⟨h1, h⟩ := dco_inv h
  obtain ⟨h2, h⟩ := dco_inv h
  exact ⟨di_blt.mp h1, di_blt.mp h2, h⟩
theorem fe_inv {b : Nat → Nat} {tc : Nat} {v : dV} {k : Nat → dR} {z : Option dV × dH} (h : fe tc v k = some z) : ∃ w, w < 2 ^ 64 ∧ k w = some z ∧ ∀ ty, tcode ty = tc → dv b (fv (tcode ty) w) = dv b v ∧ fits ty (dv b v) = true ∧ narrow ty (dv b v) = dv b v := by
  unfold fe at h
  split at h
  · obtain ⟨n, rfl, h2⟩ := vI_inv h
    clear h
    have h := h2
    rw [fo_eq] at h
    refine ⟨_, Nat.lt_trans (Nat.mod_lt n (by decide)) (by decide), h, fun ty e => ?_⟩
    cases ty <;> first | (exact absurd e (by decide)) | (simp [tcode] at e; done) | skip
    exact ⟨congrArg Value.int (di_imod n), rfl, rfl⟩
  · obtain ⟨n, rfl, h2⟩ := vL_inv h
    clear h
    have h := h2
    rw [fo_eq] at h
    refine ⟨_, Nat.mod_lt n (by decide), h, fun ty e => ?_⟩
    cases ty <;> first | (exact absurd e (by decide)) | (simp [tcode] at e; done) | skip
    exact ⟨congrArg Value.long (di_jmod n), rfl, rfl⟩
  · obtain ⟨n, rfl, h2⟩ := vI_inv h
    clear h
    have h := h2
    obtain ⟨h1, h2⟩ := dco_inv h
    clear h
    have h := h2
    rw [fo_eq] at h
    refine ⟨_, Nat.lt_trans (Nat.mod_lt n (by decide)) (by decide), h, fun ty e => ?_⟩
    cases ty <;> first | (exact absurd e (by decide)) | (simp [tcode] at e; done) | skip
    refine ⟨congrArg Value.int (di_imod n), ?_⟩
    have hn : n % 4294967296 ≤ 1 := Nat.le_of_ble_eq_true h1
    have he : dv b (.inl n) = .int (Int32.ofNat (n % 4294967296)) := congrArg Value.int (di_imod n).symm
    rw [he]
    rcases (show n % 4294967296 = 0 ∨ n % 4294967296 = 1 by omega) with q | q <;> rw [q] <;> exact ⟨by decide, by decide⟩
  · obtain ⟨n, rfl, h2⟩ := vR_inv h
    clear h
    have h := h2
    obtain ⟨h1, h2⟩ := dco_inv h
    clear h
    have h := h2
    refine ⟨n, di_blt.mp h1, h, fun ty e => ?_⟩
    cases ty <;> first | (exact absurd e (by decide)) | (simp [tcode] at e; done) | skip
    · cases n <;> exact ⟨rfl, rfl, rfl⟩
    · cases n <;> exact ⟨rfl, rfl, rfl⟩
  · cases h
theorem dcn_inv {c : Bool} {x : dR} {z : Option dV × dH} (h : cond c none x = some z) : c = false ∧ x = some z := by
  cases c
  · exact ⟨rfl, h⟩
  · cases h
theorem dcall_inv {rec : dRec} {d x : Nat} {as : List dV} {h : dH} {k : Option dV → dH → dR} {z : Option dV × dH} (e : dcall rec d x as h k = some z) : ∃ d' v h1, d = d' + 1 ∧ dsz as ≤ x / 256 % 64 ∧ rec d' (x / 16384) 0 (dal 0 as) [] h = some (v, h1) ∧ k v h1 = some z := by
  cases d with
  | zero => cases e
  | succ d' =>
    change dargs as 0 _ = _ at e
    rw [dargs_eq] at e
    obtain ⟨e1, e⟩ := dco_inv e
    obtain ⟨⟨v, h1⟩, hr, e⟩ := opt_inv e
    exact ⟨d', v, h1, rfl, by have := Nat.le_of_ble_eq_true e1; rw [Nat.zero_add] at this; exact this, hr, e⟩
theorem dlen : dMis.length ≤ 1000 := by decide +kernel
theorem dKT_lt (o : Nat) (ho : o < 14) {i x : Nat} (h : (i, x) ∈ dKT o) : x < 4294967296 := (show ∀ o, o < 14 → ∀ e ∈ dKT o, e.2 < 4294967296 by decide +kernel) o ho _ h
def dG (l : Launch) (D : dD) (b : Nat → Nat) (d y pc : Nat) (L : dL) (st : List dV) (h : dH) (r : Option dV) (h' : dH) : Prop :=
  (h.1 ≤ h'.1 ∧ h.2.1 ≤ h'.2.1 ∧ hwf h') ∧ ∀ q, dMis[y]? = some q → dWp l D b q d pc L st h r h'
theorem dcallB_f {q : dMI} {i x : Nat} {ks : List Nat} (h : dcallB q i x ks = true) : ∃ t, dMis[x / 16384]? = some t ∧ x % 16 < 14 ∧ t ∈ dMs ∧ t.2.1.cls = cR (x % 16) ∧ (parseMethodDescriptor t.2.1.desc).map (fun d => d.parameters.length) = some (x / 16 % 16) ∧ x / 256 % 64 = t.2.2.2.1 ∧ ∃ k, k ∈ ks ∧ (i, x / 16384, k) ∈ dMT q.1 := by
  unfold dcallB at h
  cases ht : dMis[x / 16384]? with
  | none => rw [ht] at h; simp at h
  | some t =>
    rw [ht] at h
    simp only [Bool.and_eq_true, decide_eq_true_eq, Nat.blt_eq, List.any_eq_true, Nat.beq_eq, Bool.not_eq_true', List.contains_iff_mem] at h
    obtain ⟨⟨⟨e1, e2, e3⟩, he, h1, h2, h3⟩, g1, g2, g3, g4, g5⟩ := h
    dsimp only at h1 h2 h3
    subst h1; subst h2
    exact ⟨t, rfl, g1, dMs_mem ht g2, g3, g4, g5, e3, h3, he⟩
theorem dcallG_f {q : dMI} {i x : Nat} (h : dcallB q i x [1] = true ∨ dcallW q i x = true) : ∃ t, dMis[x / 16384]? = some t ∧ x % 16 < 14 ∧ t ∈ dMis ∧ t.2.1.cls = cR (x % 16) ∧ (parseMethodDescriptor t.2.1.desc).map (fun d => d.parameters.length) = some (x / 16 % 16) ∧ x / 256 % 64 = t.2.2.2.1 ∧ ∃ k, k ∈ [1] ∧ (i, x / 16384, k) ∈ dMT q.1 := by
  rcases h with h | h
  · obtain ⟨t, h1, h2, h3, h4⟩ := dcallB_f h
    exact ⟨t, h1, h2, dMs_sub h3, h4⟩
  · unfold dcallW at h
    cases ht : dMis[x / 16384]? with
    | none => rw [ht] at h; simp at h
    | some t =>
      rw [ht] at h
      simp only [Bool.and_eq_true, decide_eq_true_eq, Nat.blt_eq, List.any_eq_true, Nat.beq_eq] at h
      obtain ⟨⟨⟨e1, e2, e3⟩, he, h1, h2, h3⟩, g1, -, g3, g4, g5⟩ := h
      dsimp only at h1 h2 h3
      subst h1; subst h2; subst h3
      exact ⟨t, rfl, g1, List.mem_of_getElem? ht, g3, g4, g5, 1, by simp, he⟩
theorem dtsB_at {pc x : Nat} {l : List Int} {j0 j : Nat} {o : Int} (h : dtsB pc x l j0 = true) (e : l[j]? = some o) : (pc : Int) + o = ((wq 16 (x >>> 32) (j0 + j + 2) : Nat) : Int) := by
  induction l generalizing j0 j with
  | nil => cases e
  | cons a t ih =>
    simp only [dtsB, Bool.and_eq_true, decide_eq_true_eq] at h
    cases j with
    | zero => cases e; exact h.1
    | succ j =>
      have := ih h.2 (j := j) e
      rw [show j0 + (j + 1) + 2 = j0 + 1 + j + 2 by omega]; exact this
theorem dlsw_at {pc x a t : Nat} {dd : Int} (ht : (pc : Int) + dd = (t : Int)) : ∀ (ps : List (Int × Int)) (j : Nat), dlsB pc x ps j = true → (pc : Int) + Op.lookupswitch.offset ps dd (Int32.ofNat a).toInt = ((dlsw (x >>> 32) (a % 4294967296) t ps.length j : Nat) : Int) := by
  intro ps
  induction ps with
  | nil => intro j _; exact ht
  | cons e r ih =>
    intro j hj
    obtain ⟨k, o⟩ := e
    simp only [dlsB, Bool.and_eq_true, decide_eq_true_eq, Nat.blt_eq] at hj
    obtain ⟨h1, h2, h3, h4⟩ := hj
    rw [Op.lookupswitch.offset_cons]
    show _ = ((cond (Nat.beq (wq 48 (x >>> 32) (2 * j)) (a % 4294967296)) (wq 48 (x >>> 32) (2 * j + 1)) (dlsw (x >>> 32) (a % 4294967296) t r.length (j + 1)) : Nat) : Int)
    by_cases he : k = (Int32.ofNat a).toInt
    · have h5 : wq 48 (x >>> 32) (2 * j) = a % 4294967296 := by
        have := di_ieq.mp (Int32.toInt_inj.mp (h1.trans he))
        omega
      rw [if_pos he, show Nat.beq (wq 48 (x >>> 32) (2 * j)) (a % 4294967296) = true from Nat.beq_eq ▸ h5]
      exact h3
    · have h5 : Nat.beq (wq 48 (x >>> 32) (2 * j)) (a % 4294967296) = false := Bool.eq_false_iff.mpr fun z => he (by
        have z2 := Nat.eq_of_beq_eq_true z
        rw [← h1, z2, di_imod])
      rw [if_neg he, h5]
      exact ih _ h4
theorem ds_lsw {l : Launch} {D : dD} {b : Nat → Nat} {q : dMI} {d pc : Nat} {L : dL} {st : List dV} {h : dH} {r : Option dV} {h' : dH} {dd : Int} {ps : Array (Int × Int)} {len x a : Nat} (hdg : decode q.2.2.1 pc = .ok (.lookupswitch dd ps, len)) (hx : dxB q pc (.lookupswitch dd ps) len x = true)
    (G : dWp l D b q d (dlsw (Nat.shiftRight x 32) (Nat.mod a 4294967296) (wq 16 x 1) (wq 16 x 0) 0) L st h r h') : dWp l D b q d pc L (.inl a :: st) h r h' := by
  intro p e R s m args below meth c H locs cells slots mc ms ls C hR hS hl hm e1 e2
  simp only [dxB, Bool.and_eq_true, decide_eq_true_eq, Nat.beq_eq] at hx
  obtain ⟨p1, p2, p3, p4⟩ := hx
  rw [p2] at G
  exact lv_lookup C.1 C.2.1 hdg p1 rfl (dlsw_at p3 ps.toList 0 p4) (G p e R s m args below meth c H locs cells slots mc ms ls C hR hS hl hm e1 e2)
theorem ds_tsw {l : Launch} {D : dD} {b : Nat → Nat} {q : dMI} {d pc : Nat} {L : dL} {st : List dV} {h : dH} {r : Option dV} {h' : dH} {dd lo hi : Int} {os : Array Int} {len x a : Nat} (hdg : decode q.2.2.1 pc = .ok (.tableswitch dd lo hi os, len)) (hx : dxB q pc (.tableswitch dd lo hi os) len x = true)
    (G1 : ∀ j, j = dSub a (x % 4294967296) → j < wq 16 (x >>> 32) 0 → dWp l D b q d (wq 16 (x >>> 32) (j + 2)) L st h r h') (G2 : ¬ dSub a (x % 4294967296) < wq 16 (x >>> 32) 0 → dWp l D b q d (wq 16 (x >>> 32) 1) L st h r h') : dWp l D b q d pc L (.inl a :: st) h r h' := by
  intro p e R s m args below meth c H locs cells slots mc ms ls C hR hS hl hm e1 e2
  simp only [dxB, Bool.and_eq_true, decide_eq_true_eq, Nat.beq_eq] at hx
  obtain ⟨p1, ⟨p2, p2b, p2c⟩, p3, p4, p5, p6⟩ := hx
  have hj : dSub a (x % 4294967296) = (a + (4294967296 - x % 4294967296 % 4294967296)) % 4294967296 := rfl
  rw [di_iv] at p1
  by_cases hin : (Int32.ofNat a).toInt < lo ∨ hi < (Int32.ofNat a).toInt
  · refine lv_tableOut C.1 C.2.1 hdg hin p5 (G2 ?_ p e R s m args below meth c H locs cells slots mc ms ls C hR hS hl hm e1 e2)
    rw [di_iv] at hin
    rw [hj, p4]
    split at hin <;> split at p1 <;> omega
  · obtain ⟨i1, i2⟩ := not_or.mp hin
    have hjv : (dSub a (x % 4294967296) : Nat) = ((Int32.ofNat a).toInt - lo).toNat ∧ dSub a (x % 4294967296) < os.toList.length := by
      rw [di_iv] at i1 i2 ⊢
      rw [hj]
      split at i1 <;> split at p1 <;> (refine ⟨?_, ?_⟩ <;> (try rw [if_pos (by assumption)]) <;> (try rw [if_neg (by assumption)]) <;> omega)
    have hlt := hjv.2
    have ho := List.getElem?_eq_getElem hlt
    have ht := dtsB_at p6 ho
    refine lv_tableIn C.1 C.2.1 hdg i1 i2 (by rw [← hjv.1, ← Array.getElem?_toList]; exact ho) ht ?_
    rw [Nat.zero_add]
    exact G1 _ rfl (by rw [p4]; exact hlt) p e R s m args below meth c H locs cells slots mc ms ls C hR hS hl hm e1 e2
set_option maxHeartbeats 4000000 in
theorem di_op {l : Launch} (hfl : l.stackTraces = false) {D : dD} {b : Nat → Nat} {rec : dRec} (ihr : ∀ d y pc L st h r h', rec d y pc L st h = some (r, h') → hwf h → dG l D b d y pc L st h r h') {y : Nat} {q : dMI} (hq : dMis[y]? = some q) {ins : Instr} {len x pc : Nat} (hi : diB q pc (ins, len, x) = true) {nxt : dCode} (ihn : ∀ d L st h r h', nxt rec d L st h = some (r, h') → hwf h → dG l D b d y (pc + len) L st h r h') {o : dOp} (hop : dop ins x = some o)
    {d : Nat} {L : dL} {st : List dV} {h : dH} {r : Option dV} {h' : dH} (hr : o y x nxt rec d L st h = some (r, h')) (hw : hwf h) : dG l D b d y pc L st h r h' := by
  have ho := (dM_f hq).1
  have hi2 : decode q.2.2.1 pc = .ok (ins, len) ∧ dxB q pc ins len x = true := by
    simp only [diB, Bool.and_eq_true, decide_eq_true_eq] at hi
    exact hi
  obtain ⟨hdg, hx⟩ := hi2
  have QQ : ∀ {q2 : dMI}, dMis[y]? = some q2 → q2 = q := fun e => Option.some.inj (e.symm.trans hq)
  cases ins
  case iconst n =>
    delta dop at hop
    dsimp only at hop
    cases hop
    delta o_int at hr
    try dsimp only at hr
    simp only [dxB, Bool.and_eq_true, Bool.or_eq_true, decide_eq_true_eq, Nat.beq_eq, Nat.blt_eq, Nat.ble_eq, Bool.not_eq_true'] at hx
    obtain ⟨hx, rfl⟩ := hx
    have G := ihn _ _ _ _ _ _ hr hw
    exact ⟨G.1, fun q2 hq2 => by
      cases QQ hq2
      exact ds_iconst hdg hx (G.2 q hq)⟩
  case bipush n =>
    delta dop at hop
    dsimp only at hop
    cases hop
    delta o_int at hr
    try dsimp only at hr
    simp only [dxB, Bool.and_eq_true, Bool.or_eq_true, decide_eq_true_eq, Nat.beq_eq, Nat.blt_eq, Nat.ble_eq, Bool.not_eq_true'] at hx
    obtain ⟨hx, rfl⟩ := hx
    have G := ihn _ _ _ _ _ _ hr hw
    exact ⟨G.1, fun q2 hq2 => by
      cases QQ hq2
      exact ds_bipush hdg hx (G.2 q hq)⟩
  case sipush n =>
    delta dop at hop
    dsimp only at hop
    cases hop
    delta o_int at hr
    try dsimp only at hr
    simp only [dxB, Bool.and_eq_true, Bool.or_eq_true, decide_eq_true_eq, Nat.beq_eq, Nat.blt_eq, Nat.ble_eq, Bool.not_eq_true'] at hx
    obtain ⟨hx, rfl⟩ := hx
    have G := ihn _ _ _ _ _ _ hr hw
    exact ⟨G.1, fun q2 hq2 => by
      cases QQ hq2
      exact ds_sipush hdg hx (G.2 q hq)⟩
  case lconst n =>
    delta dop at hop
    dsimp only at hop
    cases hop
    delta o_long at hr
    try dsimp only at hr
    simp only [dxB, Bool.and_eq_true, Bool.or_eq_true, decide_eq_true_eq, Nat.beq_eq, Nat.blt_eq, Nat.ble_eq, Bool.not_eq_true'] at hx
    obtain ⟨hx, rfl⟩ := hx
    have G := ihn _ _ _ _ _ _ hr hw
    exact ⟨G.1, fun q2 hq2 => by
      cases QQ hq2
      exact ds_lconst hdg hx (G.2 q hq)⟩
  case ldc i =>
    delta dop at hop
    dsimp only at hop
    cases hb : Nat.blt x 4294967296
    · rw [hb] at hop
      simp only [cond_false] at hop
      cases hop
      delta o_ldt at hr
      try dsimp only at hr
      rw [hb] at hr
      simp only [cond_false] at hr
      simp only [dxB, Bool.and_eq_true, Bool.or_eq_true, decide_eq_true_eq, Nat.beq_eq, Nat.blt_eq, Nat.ble_eq, Bool.not_eq_true'] at hx
      obtain ⟨rfl, hx⟩ := hx
      have G := ihn _ _ _ _ _ _ hr hw
      rcases hx with ⟨hx, hx2⟩ | hx
      · exact ⟨G.1, fun q2 hq2 => by
          cases QQ hq2
          exact ds_ldt hdg hx2 (G.2 q hq)⟩
      · exact ⟨G.1, fun q2 hq2 => by
          cases QQ hq2
          exact absurd (dKT_lt _ ho hx) (fun z => by rw [di_blt.mpr z] at hb; cases hb)⟩
    · rw [hb] at hop
      simp only [cond_true] at hop
      cases hop
      delta o_ldc at hr
      try dsimp only at hr
      rw [hb] at hr
      simp only [cond_true] at hr
      have g := di_blt.mp hb
      simp only [dxB, Bool.and_eq_true, Bool.or_eq_true, decide_eq_true_eq, Nat.beq_eq, Nat.blt_eq, Nat.ble_eq, Bool.not_eq_true'] at hx
      obtain ⟨rfl, hx⟩ := hx
      have G := ihn _ _ _ _ _ _ hr hw
      rcases hx with ⟨hx, hx2⟩ | hx
      · omega
      · exact ⟨G.1, fun q2 hq2 => by
          cases QQ hq2
          exact ds_ldc hdg ho hx (G.2 q hq)⟩
  case ldc_w i =>
    delta dop at hop
    dsimp only at hop
    cases hb : Nat.blt x 4294967296
    · rw [hb] at hop
      simp only [cond_false] at hop
      cases hop
      delta o_ldt at hr
      try dsimp only at hr
      rw [hb] at hr
      simp only [cond_false] at hr
      simp only [dxB, Bool.and_eq_true, Bool.or_eq_true, decide_eq_true_eq, Nat.beq_eq, Nat.blt_eq, Nat.ble_eq, Bool.not_eq_true'] at hx
      obtain ⟨rfl, hx⟩ := hx
      have G := ihn _ _ _ _ _ _ hr hw
      rcases hx with ⟨hx, hx2⟩ | hx
      · exact ⟨G.1, fun q2 hq2 => by
          cases QQ hq2
          exact ds_ldtw hdg hx2 (G.2 q hq)⟩
      · exact ⟨G.1, fun q2 hq2 => by
          cases QQ hq2
          exact absurd (dKT_lt _ ho hx) (fun z => by rw [di_blt.mpr z] at hb; cases hb)⟩
    · rw [hb] at hop
      simp only [cond_true] at hop
      cases hop
      delta o_ldc at hr
      try dsimp only at hr
      rw [hb] at hr
      simp only [cond_true] at hr
      have g := di_blt.mp hb
      simp only [dxB, Bool.and_eq_true, Bool.or_eq_true, decide_eq_true_eq, Nat.beq_eq, Nat.blt_eq, Nat.ble_eq, Bool.not_eq_true'] at hx
      obtain ⟨rfl, hx⟩ := hx
      have G := ihn _ _ _ _ _ _ hr hw
      rcases hx with ⟨hx, hx2⟩ | hx
      · omega
      · exact ⟨G.1, fun q2 hq2 => by
          cases QQ hq2
          exact ds_ldcw hdg ho hx (G.2 q hq)⟩
  case ldc2_w i =>
    delta dop at hop
    dsimp only at hop
    cases hop
    delta o_long at hr
    try dsimp only at hr
    simp only [dxB, Bool.and_eq_true, Bool.or_eq_true, decide_eq_true_eq, Nat.beq_eq, Nat.blt_eq, Nat.ble_eq, Bool.not_eq_true'] at hx
    obtain ⟨rfl, hx⟩ := hx
    have G := ihn _ _ _ _ _ _ hr hw
    exact ⟨G.1, fun q2 hq2 => by
      cases QQ hq2
      exact ds_ldc2 hdg ho hx (G.2 q hq)⟩
  case iload_n n =>
    delta dop at hop
    dsimp only at hop
    cases hop
    delta o_iload at hr
    try dsimp only at hr
    simp only [dxB, Bool.and_eq_true, Bool.or_eq_true, decide_eq_true_eq, Nat.beq_eq, Nat.blt_eq, Nat.ble_eq, Bool.not_eq_true'] at hx
    obtain ⟨rfl, hx⟩ := hx
    obtain ⟨v, hv, hr9⟩ := opt_inv hr
    clear hr
    have hr := hr9
    clear hr9
    obtain ⟨n2, rfl, hr9⟩ := vI_inv hr
    clear hr
    have hr := hr9
    clear hr9
    have G := ihn _ _ _ _ _ _ hr hw
    exact ⟨G.1, fun q2 hq2 => by
      cases QQ hq2
      exact ds_iload_n hdg hx hv (G.2 q hq)⟩
  case iload n =>
    delta dop at hop
    dsimp only at hop
    cases hop
    delta o_iload at hr
    try dsimp only at hr
    simp only [dxB, Bool.and_eq_true, Bool.or_eq_true, decide_eq_true_eq, Nat.beq_eq, Nat.blt_eq, Nat.ble_eq, Bool.not_eq_true'] at hx
    obtain ⟨rfl, rfl⟩ := hx
    obtain ⟨v, hv, hr9⟩ := opt_inv hr
    clear hr
    have hr := hr9
    clear hr9
    obtain ⟨n2, rfl, hr9⟩ := vI_inv hr
    clear hr
    have hr := hr9
    clear hr9
    have G := ihn _ _ _ _ _ _ hr hw
    exact ⟨G.1, fun q2 hq2 => by
      cases QQ hq2
      exact ds_iload hdg hv (G.2 q hq)⟩
  case lload_n n =>
    delta dop at hop
    dsimp only at hop
    cases hop
    delta o_lload at hr
    try dsimp only at hr
    simp only [dxB, Bool.and_eq_true, Bool.or_eq_true, decide_eq_true_eq, Nat.beq_eq, Nat.blt_eq, Nat.ble_eq, Bool.not_eq_true'] at hx
    obtain ⟨rfl, hx⟩ := hx
    obtain ⟨v, hv, hr9⟩ := opt_inv hr
    clear hr
    have hr := hr9
    clear hr9
    obtain ⟨n2, rfl, hr9⟩ := vL_inv hr
    clear hr
    have hr := hr9
    clear hr9
    have G := ihn _ _ _ _ _ _ hr hw
    exact ⟨G.1, fun q2 hq2 => by
      cases QQ hq2
      exact ds_lload_n hdg hx hv (G.2 q hq)⟩
  case lload n =>
    delta dop at hop
    dsimp only at hop
    cases hop
    delta o_lload at hr
    try dsimp only at hr
    simp only [dxB, Bool.and_eq_true, Bool.or_eq_true, decide_eq_true_eq, Nat.beq_eq, Nat.blt_eq, Nat.ble_eq, Bool.not_eq_true'] at hx
    obtain ⟨rfl, rfl⟩ := hx
    obtain ⟨v, hv, hr9⟩ := opt_inv hr
    clear hr
    have hr := hr9
    clear hr9
    obtain ⟨n2, rfl, hr9⟩ := vL_inv hr
    clear hr
    have hr := hr9
    clear hr9
    have G := ihn _ _ _ _ _ _ hr hw
    exact ⟨G.1, fun q2 hq2 => by
      cases QQ hq2
      exact ds_lload hdg hv (G.2 q hq)⟩
  case aload_n n =>
    delta dop at hop
    dsimp only at hop
    cases hop
    delta o_aload at hr
    try dsimp only at hr
    simp only [dxB, Bool.and_eq_true, Bool.or_eq_true, decide_eq_true_eq, Nat.beq_eq, Nat.blt_eq, Nat.ble_eq, Bool.not_eq_true'] at hx
    obtain ⟨rfl, hx⟩ := hx
    obtain ⟨v, hv, hr9⟩ := opt_inv hr
    clear hr
    have hr := hr9
    clear hr9
    obtain ⟨n2, rfl, hr9⟩ := vA_inv hr
    clear hr
    have hr := hr9
    clear hr9
    have G := ihn _ _ _ _ _ _ hr hw
    exact ⟨G.1, fun q2 hq2 => by
      cases QQ hq2
      exact ds_aload_n hdg hx hv (G.2 q hq)⟩
  case aload n =>
    delta dop at hop
    dsimp only at hop
    cases hop
    delta o_aload at hr
    try dsimp only at hr
    simp only [dxB, Bool.and_eq_true, Bool.or_eq_true, decide_eq_true_eq, Nat.beq_eq, Nat.blt_eq, Nat.ble_eq, Bool.not_eq_true'] at hx
    obtain ⟨rfl, rfl⟩ := hx
    obtain ⟨v, hv, hr9⟩ := opt_inv hr
    clear hr
    have hr := hr9
    clear hr9
    obtain ⟨n2, rfl, hr9⟩ := vA_inv hr
    clear hr
    have hr := hr9
    clear hr9
    have G := ihn _ _ _ _ _ _ hr hw
    exact ⟨G.1, fun q2 hq2 => by
      cases QQ hq2
      exact ds_aload hdg hv (G.2 q hq)⟩
  case istore_n n =>
    delta dop at hop
    dsimp only at hop
    cases hop
    delta o_istore at hr
    try dsimp only at hr
    simp only [dxB, Bool.and_eq_true, Bool.or_eq_true, decide_eq_true_eq, Nat.beq_eq, Nat.blt_eq, Nat.ble_eq, Bool.not_eq_true'] at hx
    obtain ⟨rfl, hx, hn⟩ := hx
    obtain ⟨v, st, rfl, hr9⟩ := d1_inv hr
    clear hr
    have hr := hr9
    clear hr9
    rw [fltc_eq] at hr
    have G := ihn _ _ _ _ _ _ hr hw
    exact ⟨G.1, fun q2 hq2 => by
      cases QQ hq2
      exact ds_istore_n hdg hx hn (G.2 q hq)⟩
  case istore n =>
    delta dop at hop
    dsimp only at hop
    cases hop
    delta o_istore at hr
    try dsimp only at hr
    simp only [dxB, Bool.and_eq_true, Bool.or_eq_true, decide_eq_true_eq, Nat.beq_eq, Nat.blt_eq, Nat.ble_eq, Bool.not_eq_true'] at hx
    obtain ⟨rfl, rfl, hn⟩ := hx
    obtain ⟨v, st, rfl, hr9⟩ := d1_inv hr
    clear hr
    have hr := hr9
    clear hr9
    rw [fltc_eq] at hr
    have G := ihn _ _ _ _ _ _ hr hw
    exact ⟨G.1, fun q2 hq2 => by
      cases QQ hq2
      exact ds_istore hdg hn (G.2 q hq)⟩
  case lstore_n n =>
    delta dop at hop
    dsimp only at hop
    cases hop
    delta o_lstore at hr
    try dsimp only at hr
    simp only [dxB, Bool.and_eq_true, Bool.or_eq_true, decide_eq_true_eq, Nat.beq_eq, Nat.blt_eq, Nat.ble_eq, Bool.not_eq_true'] at hx
    obtain ⟨rfl, hx, hn⟩ := hx
    obtain ⟨v, st, rfl, hr9⟩ := d1l_inv hr
    clear hr
    have hr := hr9
    clear hr9
    rw [fltc_eq] at hr
    have G := ihn _ _ _ _ _ _ hr hw
    exact ⟨G.1, fun q2 hq2 => by
      cases QQ hq2
      exact ds_lstore_n hdg hx hn (G.2 q hq)⟩
  case lstore n =>
    delta dop at hop
    dsimp only at hop
    cases hop
    delta o_lstore at hr
    try dsimp only at hr
    simp only [dxB, Bool.and_eq_true, Bool.or_eq_true, decide_eq_true_eq, Nat.beq_eq, Nat.blt_eq, Nat.ble_eq, Bool.not_eq_true'] at hx
    obtain ⟨rfl, rfl, hn⟩ := hx
    obtain ⟨v, st, rfl, hr9⟩ := d1l_inv hr
    clear hr
    have hr := hr9
    clear hr9
    rw [fltc_eq] at hr
    have G := ihn _ _ _ _ _ _ hr hw
    exact ⟨G.1, fun q2 hq2 => by
      cases QQ hq2
      exact ds_lstore hdg hn (G.2 q hq)⟩
  case astore_n n =>
    delta dop at hop
    dsimp only at hop
    cases hop
    delta o_astore at hr
    try dsimp only at hr
    simp only [dxB, Bool.and_eq_true, Bool.or_eq_true, decide_eq_true_eq, Nat.beq_eq, Nat.blt_eq, Nat.ble_eq, Bool.not_eq_true'] at hx
    obtain ⟨rfl, hx, hn⟩ := hx
    obtain ⟨v, st, rfl, hr9⟩ := d1a_inv hr
    clear hr
    have hr := hr9
    clear hr9
    rw [fltc_eq] at hr
    have G := ihn _ _ _ _ _ _ hr hw
    exact ⟨G.1, fun q2 hq2 => by
      cases QQ hq2
      exact ds_astore_n hdg hx hn (G.2 q hq)⟩
  case astore n =>
    delta dop at hop
    dsimp only at hop
    cases hop
    delta o_astore at hr
    try dsimp only at hr
    simp only [dxB, Bool.and_eq_true, Bool.or_eq_true, decide_eq_true_eq, Nat.beq_eq, Nat.blt_eq, Nat.ble_eq, Bool.not_eq_true'] at hx
    obtain ⟨rfl, rfl, hn⟩ := hx
    obtain ⟨v, st, rfl, hr9⟩ := d1a_inv hr
    clear hr
    have hr := hr9
    clear hr9
    rw [fltc_eq] at hr
    have G := ihn _ _ _ _ _ _ hr hw
    exact ⟨G.1, fun q2 hq2 => by
      cases QQ hq2
      exact ds_astore hdg hn (G.2 q hq)⟩
  case iinc i n =>
    delta dop at hop
    dsimp only at hop
    cases hop
    delta o_iinc at hr
    try dsimp only at hr
    simp only [dxB, Bool.and_eq_true, Bool.or_eq_true, decide_eq_true_eq, Nat.beq_eq, Nat.blt_eq, Nat.ble_eq, Bool.not_eq_true'] at hx
    obtain ⟨rfl, rfl, hx, hn⟩ := hx
    obtain ⟨v, hv, hr9⟩ := opt_inv hr
    clear hr
    have hr := hr9
    clear hr9
    obtain ⟨n2, rfl, hr9⟩ := vI_inv hr
    clear hr
    have hr := hr9
    clear hr9
    rw [fo_eq, fltc_eq] at hr
    have G := ihn _ _ _ _ _ _ hr hw
    exact ⟨G.1, fun q2 hq2 => by
      cases QQ hq2
      exact ds_iinc hdg hx hv hn (G.2 q hq)⟩
  case iadd =>
    delta dop at hop
    dsimp only at hop
    cases hop
    delta o_bin at hr
    try dsimp only at hr
    simp only [dxB, Bool.and_eq_true, Bool.or_eq_true, decide_eq_true_eq, Nat.beq_eq, Nat.blt_eq, Nat.ble_eq, Bool.not_eq_true'] at hx
    subst hx
    obtain ⟨v, w, st, rfl, hr9⟩ := d2_inv hr
    clear hr
    have hr := hr9
    clear hr9
    rw [fo_eq] at hr
    have G := ihn _ _ _ _ _ _ hr hw
    exact ⟨G.1, fun q2 hq2 => by
      cases QQ hq2
      exact ds_iadd hdg (G.2 q hq)⟩
  case isub =>
    delta dop at hop
    dsimp only at hop
    cases hop
    delta o_bin at hr
    try dsimp only at hr
    simp only [dxB, Bool.and_eq_true, Bool.or_eq_true, decide_eq_true_eq, Nat.beq_eq, Nat.blt_eq, Nat.ble_eq, Bool.not_eq_true'] at hx
    subst hx
    obtain ⟨v, w, st, rfl, hr9⟩ := d2_inv hr
    clear hr
    have hr := hr9
    clear hr9
    rw [fo_eq] at hr
    have G := ihn _ _ _ _ _ _ hr hw
    exact ⟨G.1, fun q2 hq2 => by
      cases QQ hq2
      exact ds_isub hdg (G.2 q hq)⟩
  case imul =>
    delta dop at hop
    dsimp only at hop
    cases hop
    delta o_bin at hr
    try dsimp only at hr
    simp only [dxB, Bool.and_eq_true, Bool.or_eq_true, decide_eq_true_eq, Nat.beq_eq, Nat.blt_eq, Nat.ble_eq, Bool.not_eq_true'] at hx
    subst hx
    obtain ⟨v, w, st, rfl, hr9⟩ := d2_inv hr
    clear hr
    have hr := hr9
    clear hr9
    rw [fo_eq] at hr
    have G := ihn _ _ _ _ _ _ hr hw
    exact ⟨G.1, fun q2 hq2 => by
      cases QQ hq2
      exact ds_imul hdg (G.2 q hq)⟩
  case iand =>
    delta dop at hop
    dsimp only at hop
    cases hop
    delta o_bin at hr
    try dsimp only at hr
    simp only [dxB, Bool.and_eq_true, Bool.or_eq_true, decide_eq_true_eq, Nat.beq_eq, Nat.blt_eq, Nat.ble_eq, Bool.not_eq_true'] at hx
    subst hx
    obtain ⟨v, w, st, rfl, hr9⟩ := d2_inv hr
    clear hr
    have hr := hr9
    clear hr9
    rw [fo_eq] at hr
    have G := ihn _ _ _ _ _ _ hr hw
    exact ⟨G.1, fun q2 hq2 => by
      cases QQ hq2
      exact ds_iand hdg (G.2 q hq)⟩
  case ior =>
    delta dop at hop
    dsimp only at hop
    cases hop
    delta o_bin at hr
    try dsimp only at hr
    simp only [dxB, Bool.and_eq_true, Bool.or_eq_true, decide_eq_true_eq, Nat.beq_eq, Nat.blt_eq, Nat.ble_eq, Bool.not_eq_true'] at hx
    subst hx
    obtain ⟨v, w, st, rfl, hr9⟩ := d2_inv hr
    clear hr
    have hr := hr9
    clear hr9
    rw [fo_eq] at hr
    have G := ihn _ _ _ _ _ _ hr hw
    exact ⟨G.1, fun q2 hq2 => by
      cases QQ hq2
      exact ds_ior hdg (G.2 q hq)⟩
  case ixor =>
    delta dop at hop
    dsimp only at hop
    cases hop
    delta o_bin at hr
    try dsimp only at hr
    simp only [dxB, Bool.and_eq_true, Bool.or_eq_true, decide_eq_true_eq, Nat.beq_eq, Nat.blt_eq, Nat.ble_eq, Bool.not_eq_true'] at hx
    subst hx
    obtain ⟨v, w, st, rfl, hr9⟩ := d2_inv hr
    clear hr
    have hr := hr9
    clear hr9
    rw [fo_eq] at hr
    have G := ihn _ _ _ _ _ _ hr hw
    exact ⟨G.1, fun q2 hq2 => by
      cases QQ hq2
      exact ds_ixor hdg (G.2 q hq)⟩
  case ishl =>
    delta dop at hop
    dsimp only at hop
    cases hop
    delta o_bin at hr
    try dsimp only at hr
    simp only [dxB, Bool.and_eq_true, Bool.or_eq_true, decide_eq_true_eq, Nat.beq_eq, Nat.blt_eq, Nat.ble_eq, Bool.not_eq_true'] at hx
    subst hx
    obtain ⟨v, w, st, rfl, hr9⟩ := d2_inv hr
    clear hr
    have hr := hr9
    clear hr9
    rw [fo_eq] at hr
    have G := ihn _ _ _ _ _ _ hr hw
    exact ⟨G.1, fun q2 hq2 => by
      cases QQ hq2
      exact ds_ishl hdg (G.2 q hq)⟩
  case ishr =>
    delta dop at hop
    dsimp only at hop
    cases hop
    delta o_bin at hr
    try dsimp only at hr
    simp only [dxB, Bool.and_eq_true, Bool.or_eq_true, decide_eq_true_eq, Nat.beq_eq, Nat.blt_eq, Nat.ble_eq, Bool.not_eq_true'] at hx
    subst hx
    obtain ⟨v, w, st, rfl, hr9⟩ := d2_inv hr
    clear hr
    have hr := hr9
    clear hr9
    rw [fo_eq] at hr
    have G := ihn _ _ _ _ _ _ hr hw
    exact ⟨G.1, fun q2 hq2 => by
      cases QQ hq2
      exact ds_ishr hdg (G.2 q hq)⟩
  case ladd =>
    delta dop at hop
    dsimp only at hop
    cases hop
    delta o_binl at hr
    try dsimp only at hr
    simp only [dxB, Bool.and_eq_true, Bool.or_eq_true, decide_eq_true_eq, Nat.beq_eq, Nat.blt_eq, Nat.ble_eq, Bool.not_eq_true'] at hx
    subst hx
    obtain ⟨v, w, st, rfl, hr9⟩ := d2l_inv hr
    clear hr
    have hr := hr9
    clear hr9
    rw [fo_eq] at hr
    have G := ihn _ _ _ _ _ _ hr hw
    exact ⟨G.1, fun q2 hq2 => by
      cases QQ hq2
      exact ds_ladd hdg (G.2 q hq)⟩
  case lsub =>
    delta dop at hop
    dsimp only at hop
    cases hop
    delta o_binl at hr
    try dsimp only at hr
    simp only [dxB, Bool.and_eq_true, Bool.or_eq_true, decide_eq_true_eq, Nat.beq_eq, Nat.blt_eq, Nat.ble_eq, Bool.not_eq_true'] at hx
    subst hx
    obtain ⟨v, w, st, rfl, hr9⟩ := d2l_inv hr
    clear hr
    have hr := hr9
    clear hr9
    rw [fo_eq] at hr
    have G := ihn _ _ _ _ _ _ hr hw
    exact ⟨G.1, fun q2 hq2 => by
      cases QQ hq2
      exact ds_lsub hdg (G.2 q hq)⟩
  case lmul =>
    delta dop at hop
    dsimp only at hop
    cases hop
    delta o_binl at hr
    try dsimp only at hr
    simp only [dxB, Bool.and_eq_true, Bool.or_eq_true, decide_eq_true_eq, Nat.beq_eq, Nat.blt_eq, Nat.ble_eq, Bool.not_eq_true'] at hx
    subst hx
    obtain ⟨v, w, st, rfl, hr9⟩ := d2l_inv hr
    clear hr
    have hr := hr9
    clear hr9
    rw [fo_eq] at hr
    have G := ihn _ _ _ _ _ _ hr hw
    exact ⟨G.1, fun q2 hq2 => by
      cases QQ hq2
      exact ds_lmul hdg (G.2 q hq)⟩
  case land =>
    delta dop at hop
    dsimp only at hop
    cases hop
    delta o_binl at hr
    try dsimp only at hr
    simp only [dxB, Bool.and_eq_true, Bool.or_eq_true, decide_eq_true_eq, Nat.beq_eq, Nat.blt_eq, Nat.ble_eq, Bool.not_eq_true'] at hx
    subst hx
    obtain ⟨v, w, st, rfl, hr9⟩ := d2l_inv hr
    clear hr
    have hr := hr9
    clear hr9
    rw [fo_eq] at hr
    have G := ihn _ _ _ _ _ _ hr hw
    exact ⟨G.1, fun q2 hq2 => by
      cases QQ hq2
      exact ds_land hdg (G.2 q hq)⟩
  case lor =>
    delta dop at hop
    dsimp only at hop
    cases hop
    delta o_binl at hr
    try dsimp only at hr
    simp only [dxB, Bool.and_eq_true, Bool.or_eq_true, decide_eq_true_eq, Nat.beq_eq, Nat.blt_eq, Nat.ble_eq, Bool.not_eq_true'] at hx
    subst hx
    obtain ⟨v, w, st, rfl, hr9⟩ := d2l_inv hr
    clear hr
    have hr := hr9
    clear hr9
    rw [fo_eq] at hr
    have G := ihn _ _ _ _ _ _ hr hw
    exact ⟨G.1, fun q2 hq2 => by
      cases QQ hq2
      exact ds_lor hdg (G.2 q hq)⟩
  case lxor =>
    delta dop at hop
    dsimp only at hop
    cases hop
    delta o_binl at hr
    try dsimp only at hr
    simp only [dxB, Bool.and_eq_true, Bool.or_eq_true, decide_eq_true_eq, Nat.beq_eq, Nat.blt_eq, Nat.ble_eq, Bool.not_eq_true'] at hx
    subst hx
    obtain ⟨v, w, st, rfl, hr9⟩ := d2l_inv hr
    clear hr
    have hr := hr9
    clear hr9
    rw [fo_eq] at hr
    have G := ihn _ _ _ _ _ _ hr hw
    exact ⟨G.1, fun q2 hq2 => by
      cases QQ hq2
      exact ds_lxor hdg (G.2 q hq)⟩
  case lcmp =>
    delta dop at hop
    dsimp only at hop
    cases hop
    delta o_lcmp at hr
    try dsimp only at hr
    simp only [dxB, Bool.and_eq_true, Bool.or_eq_true, decide_eq_true_eq, Nat.beq_eq, Nat.blt_eq, Nat.ble_eq, Bool.not_eq_true'] at hx
    subst hx
    obtain ⟨v, w, st, rfl, hr9⟩ := d2l_inv hr
    clear hr
    have hr := hr9
    clear hr9
    rw [fo_eq] at hr
    have G := ihn _ _ _ _ _ _ hr hw
    exact ⟨G.1, fun q2 hq2 => by
      cases QQ hq2
      exact ds_lcmp hdg (G.2 q hq)⟩
  case lshl =>
    delta dop at hop
    dsimp only at hop
    cases hop
    delta o_shl at hr
    try dsimp only at hr
    simp only [dxB, Bool.and_eq_true, Bool.or_eq_true, decide_eq_true_eq, Nat.beq_eq, Nat.blt_eq, Nat.ble_eq, Bool.not_eq_true'] at hx
    subst hx
    obtain ⟨v, w, st, rfl, hr9⟩ := dil_inv hr
    clear hr
    have hr := hr9
    clear hr9
    rw [fo_eq] at hr
    have G := ihn _ _ _ _ _ _ hr hw
    exact ⟨G.1, fun q2 hq2 => by
      cases QQ hq2
      exact ds_lshl hdg (G.2 q hq)⟩
  case lushr =>
    delta dop at hop
    dsimp only at hop
    cases hop
    delta o_shl at hr
    try dsimp only at hr
    simp only [dxB, Bool.and_eq_true, Bool.or_eq_true, decide_eq_true_eq, Nat.beq_eq, Nat.blt_eq, Nat.ble_eq, Bool.not_eq_true'] at hx
    subst hx
    obtain ⟨v, w, st, rfl, hr9⟩ := dil_inv hr
    clear hr
    have hr := hr9
    clear hr9
    rw [fo_eq] at hr
    have G := ihn _ _ _ _ _ _ hr hw
    exact ⟨G.1, fun q2 hq2 => by
      cases QQ hq2
      exact ds_lushr hdg (G.2 q hq)⟩
  case ineg =>
    delta dop at hop
    dsimp only at hop
    cases hop
    delta o_un at hr
    try dsimp only at hr
    simp only [dxB, Bool.and_eq_true, Bool.or_eq_true, decide_eq_true_eq, Nat.beq_eq, Nat.blt_eq, Nat.ble_eq, Bool.not_eq_true'] at hx
    subst hx
    obtain ⟨v, st, rfl, hr9⟩ := d1_inv hr
    clear hr
    have hr := hr9
    clear hr9
    rw [fo_eq] at hr
    have G := ihn _ _ _ _ _ _ hr hw
    exact ⟨G.1, fun q2 hq2 => by
      cases QQ hq2
      exact ds_ineg hdg (G.2 q hq)⟩
  case i2b =>
    delta dop at hop
    dsimp only at hop
    cases hop
    delta o_un at hr
    try dsimp only at hr
    simp only [dxB, Bool.and_eq_true, Bool.or_eq_true, decide_eq_true_eq, Nat.beq_eq, Nat.blt_eq, Nat.ble_eq, Bool.not_eq_true'] at hx
    subst hx
    obtain ⟨v, st, rfl, hr9⟩ := d1_inv hr
    clear hr
    have hr := hr9
    clear hr9
    rw [fo_eq] at hr
    have G := ihn _ _ _ _ _ _ hr hw
    exact ⟨G.1, fun q2 hq2 => by
      cases QQ hq2
      exact ds_i2b hdg (G.2 q hq)⟩
  case i2l =>
    delta dop at hop
    dsimp only at hop
    cases hop
    delta o_i2l at hr
    try dsimp only at hr
    simp only [dxB, Bool.and_eq_true, Bool.or_eq_true, decide_eq_true_eq, Nat.beq_eq, Nat.blt_eq, Nat.ble_eq, Bool.not_eq_true'] at hx
    subst hx
    obtain ⟨v, st, rfl, hr9⟩ := d1_inv hr
    clear hr
    have hr := hr9
    clear hr9
    rw [fo_eq] at hr
    have G := ihn _ _ _ _ _ _ hr hw
    exact ⟨G.1, fun q2 hq2 => by
      cases QQ hq2
      exact ds_i2l hdg (G.2 q hq)⟩
  case l2i =>
    delta dop at hop
    dsimp only at hop
    cases hop
    delta o_l2i at hr
    try dsimp only at hr
    simp only [dxB, Bool.and_eq_true, Bool.or_eq_true, decide_eq_true_eq, Nat.beq_eq, Nat.blt_eq, Nat.ble_eq, Bool.not_eq_true'] at hx
    subst hx
    obtain ⟨v, st, rfl, hr9⟩ := d1l_inv hr
    clear hr
    have hr := hr9
    clear hr9
    rw [fo_eq] at hr
    have G := ihn _ _ _ _ _ _ hr hw
    exact ⟨G.1, fun q2 hq2 => by
      cases QQ hq2
      exact ds_l2i hdg (G.2 q hq)⟩
  case ifCond c o =>
    delta dop at hop
    dsimp only at hop
    cases hop
    delta o_if at hr
    try dsimp only at hr
    simp only [dxB, Bool.and_eq_true, Bool.or_eq_true, decide_eq_true_eq, Nat.beq_eq, Nat.blt_eq, Nat.ble_eq, Bool.not_eq_true'] at hx
    obtain ⟨rfl, hx⟩ := hx
    obtain ⟨v, st, rfl, hr9⟩ := d1_inv hr
    clear hr
    have hr := hr9
    clear hr9
    cases hc : dcd c v 0
    · rw [hc] at hr
      have G := ihn _ _ _ _ _ _ hr hw
      exact ⟨G.1, fun q2 hq2 => by
        cases QQ hq2
        exact ds_if hdg hx (fun z => by rw [hc] at z; cases z) (fun _ => G.2 q hq)⟩
    · rw [hc] at hr
      have G := ihr _ _ _ _ _ _ _ _ hr hw
      exact ⟨G.1, fun q2 hq2 => by
        cases QQ hq2
        exact ds_if hdg hx (fun _ => G.2 q hq) (fun z => by rw [hc] at z; cases z)⟩
  case if_icmp c o =>
    delta dop at hop
    dsimp only at hop
    cases hop
    delta o_icmp at hr
    try dsimp only at hr
    simp only [dxB, Bool.and_eq_true, Bool.or_eq_true, decide_eq_true_eq, Nat.beq_eq, Nat.blt_eq, Nat.ble_eq, Bool.not_eq_true'] at hx
    obtain ⟨rfl, hx⟩ := hx
    obtain ⟨v, w, st, rfl, hr9⟩ := d2_inv hr
    clear hr
    have hr := hr9
    clear hr9
    cases hc : dcd c v w
    · rw [hc] at hr
      have G := ihn _ _ _ _ _ _ hr hw
      exact ⟨G.1, fun q2 hq2 => by
        cases QQ hq2
        exact ds_icmp hdg hx (fun z => by rw [hc] at z; cases z) (fun _ => G.2 q hq)⟩
    · rw [hc] at hr
      have G := ihr _ _ _ _ _ _ _ _ hr hw
      exact ⟨G.1, fun q2 hq2 => by
        cases QQ hq2
        exact ds_icmp hdg hx (fun _ => G.2 q hq) (fun z => by rw [hc] at z; cases z)⟩
  case goto o =>
    delta dop at hop
    dsimp only at hop
    cases hop
    delta o_goto at hr
    try dsimp only at hr
    simp only [dxB, Bool.and_eq_true, Bool.or_eq_true, decide_eq_true_eq, Nat.beq_eq, Nat.blt_eq, Nat.ble_eq, Bool.not_eq_true'] at hx
    obtain ⟨rfl, hx⟩ := hx
    have G := ihr _ _ _ _ _ _ _ _ hr hw
    exact ⟨G.1, fun q2 hq2 => by
      cases QQ hq2
      exact ds_goto hdg hx (G.2 q hq)⟩
  case tableswitch dd lo hi os =>
    delta dop at hop
    dsimp only at hop
    cases hop
    delta o_tsw at hr
    try dsimp only at hr
    obtain ⟨v, st, rfl, hr9⟩ := d1_inv hr
    clear hr
    have hr := hr9
    clear hr9
    rw [fo_eq, fo_eq] at hr
    change cond (Nat.blt (dSub v (x % 4294967296)) (wq 16 (x >>> 32) 0)) _ _ = _ at hr
    cases hc : Nat.blt (dSub v (x % 4294967296)) (wq 16 (x >>> 32) 0)
    · rw [hc] at hr
      simp only [cond_false, cond_true, fo_eq] at hr
      have G := ihr _ _ _ _ _ _ _ _ hr hw
      have hn : ¬ dSub v (x % 4294967296) < wq 16 (x >>> 32) 0 := fun z => by rw [di_blt.mpr z] at hc; cases hc
      exact ⟨G.1, fun q2 hq2 => by
        cases QQ hq2
        exact ds_tsw hdg hx (fun j e z => absurd (by rw [← e]; exact z) hn) (fun _ => G.2 q hq)⟩
    · rw [hc] at hr
      simp only [cond_false, cond_true, fo_eq] at hr
      have G := ihr _ _ _ _ _ _ _ _ hr hw
      have hn := di_blt.mp hc
      exact ⟨G.1, fun q2 hq2 => by
        cases QQ hq2
        exact ds_tsw hdg hx (fun j e _ => by rw [e]; exact G.2 q hq) (fun z => absurd hn z)⟩
  case idiv =>
    delta dop at hop
    dsimp only at hop
    cases hop
    delta o_div at hr
    try dsimp only at hr
    simp only [dxB, Bool.and_eq_true, Bool.or_eq_true, decide_eq_true_eq, Nat.beq_eq, Nat.blt_eq, Nat.ble_eq, Bool.not_eq_true'] at hx
    subst hx
    obtain ⟨v, w, st, rfl, hr9⟩ := d2_inv hr
    clear hr
    have hr := hr9
    clear hr9
    cases hz : dZ w
    · rw [hz] at hr
      simp only [cond_false] at hr
      rw [fo_eq] at hr
      have G := ihn _ _ _ _ _ _ hr hw
      exact ⟨G.1, fun q2 hq2 => by
        cases QQ hq2
        exact ds_idiv hz hdg (G.2 q hq)⟩
    · rw [hz] at hr
      simp only [cond_true] at hr
      cases hr
  case irem =>
    delta dop at hop
    dsimp only at hop
    cases hop
    delta o_div at hr
    try dsimp only at hr
    simp only [dxB, Bool.and_eq_true, Bool.or_eq_true, decide_eq_true_eq, Nat.beq_eq, Nat.blt_eq, Nat.ble_eq, Bool.not_eq_true'] at hx
    subst hx
    obtain ⟨v, w, st, rfl, hr9⟩ := d2_inv hr
    clear hr
    have hr := hr9
    clear hr9
    cases hz : dZ w
    · rw [hz] at hr
      simp only [cond_false] at hr
      rw [fo_eq] at hr
      have G := ihn _ _ _ _ _ _ hr hw
      exact ⟨G.1, fun q2 hq2 => by
        cases QQ hq2
        exact ds_irem hz hdg (G.2 q hq)⟩
    · rw [hz] at hr
      simp only [cond_true] at hr
      cases hr
  case ldiv =>
    delta dop at hop
    dsimp only at hop
    cases hop
    delta o_ldv at hr
    try dsimp only at hr
    simp only [dxB, Bool.and_eq_true, Bool.or_eq_true, decide_eq_true_eq, Nat.beq_eq, Nat.blt_eq, Nat.ble_eq, Bool.not_eq_true'] at hx
    subst hx
    obtain ⟨v, w, st, rfl, hr9⟩ := d2l_inv hr
    clear hr
    have hr := hr9
    clear hr9
    cases hz : dLZ w
    · rw [hz] at hr
      simp only [cond_false] at hr
      rw [fo_eq] at hr
      have G := ihn _ _ _ _ _ _ hr hw
      exact ⟨G.1, fun q2 hq2 => by
        cases QQ hq2
        exact ds_ldiv hz hdg (G.2 q hq)⟩
    · rw [hz] at hr
      simp only [cond_true] at hr
      cases hr
  case lookupswitch dd ps =>
    delta dop at hop
    dsimp only at hop
    cases hop
    delta o_lsw at hr
    try dsimp only at hr
    obtain ⟨v, st, rfl, hr9⟩ := d1_inv hr
    clear hr
    have hr := hr9
    clear hr9
    rw [fo_eq, fo_eq, fo_eq] at hr
    have G := ihr _ _ _ _ _ _ _ _ hr hw
    exact ⟨G.1, fun q2 hq2 => by
      cases QQ hq2
      exact ds_lsw hdg hx (G.2 q hq)⟩
  case dup =>
    delta dop at hop
    dsimp only at hop
    cases hop
    delta o_dup at hr
    try dsimp only at hr
    simp only [dxB, Bool.and_eq_true, Bool.or_eq_true, decide_eq_true_eq, Nat.beq_eq, Nat.blt_eq, Nat.ble_eq, Bool.not_eq_true'] at hx
    subst hx
    obtain ⟨v, st, rfl, hr9⟩ := pop_inv hr
    clear hr
    have hr := hr9
    clear hr9
    cases hv : disl v
    · rw [hv] at hr
      have G := ihn _ _ _ _ _ _ hr hw
      exact ⟨G.1, fun q2 hq2 => by
        cases QQ hq2
        exact ds_dup hdg hv (G.2 q hq)⟩
    · rw [hv] at hr
      cases hr
  case pop =>
    delta dop at hop
    dsimp only at hop
    cases hop
    delta o_pop at hr
    try dsimp only at hr
    simp only [dxB, Bool.and_eq_true, Bool.or_eq_true, decide_eq_true_eq, Nat.beq_eq, Nat.blt_eq, Nat.ble_eq, Bool.not_eq_true'] at hx
    subst hx
    obtain ⟨v, st, rfl, hr9⟩ := pop_inv hr
    clear hr
    have hr := hr9
    clear hr9
    cases hv : disl v
    · rw [hv] at hr
      have G := ihn _ _ _ _ _ _ hr hw
      exact ⟨G.1, fun q2 hq2 => by
        cases QQ hq2
        exact ds_pop hdg hv (G.2 q hq)⟩
    · rw [hv] at hr
      cases hr
  case dup2 =>
    delta dop at hop
    dsimp only at hop
    cases hop
    delta o_dup2 at hr
    try dsimp only at hr
    simp only [dxB, Bool.and_eq_true, Bool.or_eq_true, decide_eq_true_eq, Nat.beq_eq, Nat.blt_eq, Nat.ble_eq, Bool.not_eq_true'] at hx
    subst hx
    obtain ⟨v, st, rfl, hr9⟩ := pop_inv hr
    clear hr
    have hr := hr9
    clear hr9
    cases hv : disl v
    · rw [hv] at hr
      simp only [cond_false] at hr
      obtain ⟨w, st, rfl, hr9⟩ := pop_inv hr
      clear hr
      have hr := hr9
      clear hr9
      cases hw2 : disl w
      · rw [hw2] at hr
        have G := ihn _ _ _ _ _ _ hr hw
        exact ⟨G.1, fun q2 hq2 => by
          cases QQ hq2
          exact ds_dup2_11 hdg hv hw2 (G.2 q hq)⟩
      · rw [hw2] at hr
        cases hr
    · rw [hv] at hr
      have G := ihn _ _ _ _ _ _ hr hw
      exact ⟨G.1, fun q2 hq2 => by
        cases QQ hq2
        exact ds_dup2_2 hdg hv (G.2 q hq)⟩
  case getfield i =>
    delta dop at hop
    dsimp only at hop
    cases hop
    delta o_getfield at hr
    try dsimp only at hr
    simp only [dxB, Bool.and_eq_true, Bool.or_eq_true, decide_eq_true_eq, Nat.beq_eq, Nat.blt_eq, Nat.ble_eq, Bool.not_eq_true'] at hx
    obtain ⟨rfl, hf, hci, hk2, htc⟩ := hx
    obtain ⟨a, st, rfl, hr9⟩ := d1a_inv hr
    clear hr
    have hr := hr9
    clear hr9
    obtain ⟨kd, n, ct, ha, hr9⟩ := cel_inv hr
    clear hr
    have hr := hr9
    clear hr9
    obtain ⟨hkd, hr9⟩ := dco_inv hr
    clear hr
    have hr := hr9
    clear hr9
    have hkd := Nat.eq_of_beq_eq_true hkd
    subst hkd
    rw [fo_eq] at hr
    have G := ihn _ _ _ _ _ _ hr hw
    exact ⟨G.1, fun q2 hq2 => by
      cases QQ hq2
      exact ds_getfield hdg ho hf hci hk2 htc ha (G.2 q hq)⟩
  case putfield i =>
    delta dop at hop
    dsimp only at hop
    cases hop
    delta o_putfield at hr
    try dsimp only at hr
    simp only [dxB, Bool.and_eq_true, Bool.or_eq_true, decide_eq_true_eq, Nat.beq_eq, Nat.blt_eq, Nat.ble_eq, Bool.not_eq_true'] at hx
    obtain ⟨rfl, hf, hci, hk2, htc, hfn⟩ := hx
    obtain ⟨v, st, rfl, hr9⟩ := pop_inv hr
    clear hr
    have hr := hr9
    clear hr9
    obtain ⟨a, st, rfl, hr9⟩ := d1a_inv hr
    clear hr
    have hr := hr9
    clear hr9
    obtain ⟨kd, n, ct, ha, hr9⟩ := cel_inv hr
    clear hr
    have hr := hr9
    clear hr9
    obtain ⟨hkd, hr9⟩ := dco_inv hr
    clear hr
    have hr := hr9
    clear hr9
    have hkd := Nat.eq_of_beq_eq_true hkd
    subst hkd
    obtain ⟨w, hw64, hr, hty⟩ := fe_inv (b := b) hr
    rw [fo_eq] at hr
    obtain ⟨h1, hs, z1, z2, hw1, eh⟩ := hset_spec (c := (Nat.add (Nat.div x 1024) 4, n, wst 64 ct (Nat.mod (Nat.div x 4) 256) w)) (fun h' => nxt rec d L st h') none hw ha
    rw [hs] at hr
    have G := ihn _ _ _ _ _ _ hr hw1
    refine ⟨⟨by have := G.1.1; omega, by have := G.1.2.1; omega, G.1.2.2⟩, fun q2 hq2 => ?_⟩
    cases QQ hq2
    obtain ⟨t1, t2, t3⟩ := hty _ htc
    exact ds_putfield hdg ho hf hci hk2 (fun z => by
      rcases hfn with hfn | hfn
      · rw [z] at hfn; cases hfn
      · exact hfn) ha hw64 t1 t2 t3 z1 z2 hw1 eh (G.2 q hq)
  case new i =>
    delta dop at hop
    dsimp only at hop
    cases hx0 : Nat.beq x 0
    · rw [hx0] at hop
      simp only [cond_false] at hop
      have hx00 : x ≠ 0 := fun z => by rw [z] at hx0; cases hx0
      cases hb : Nat.ble 1099511627776 x
      case' false => skip
      case' true =>
        rw [hb] at hop
        simp only [cond_true] at hop
        cases hop
        delta o_xnew at hr
        try dsimp only at hr
        have hge : 1099511627776 ≤ x := Nat.le_of_ble_eq_true hb
        simp only [dxB, Bool.and_eq_true, Bool.or_eq_true, decide_eq_true_eq, Nat.beq_eq, Nat.blt_eq, Nat.ble_eq, Bool.not_eq_true'] at hx
        obtain ⟨rfl, hx⟩ := hx
        obtain ⟨n, s, cs⟩ := h
        change cond (Nat.blt n 1073741824) _ none = _ at hr
        obtain ⟨hn, hr9⟩ := dco_inv hr
        clear hr
        have hr := hr9
        clear hr9
        have hn := di_blt.mp hn
        obtain ⟨hd10, hr9⟩ := dco_inv hr
        clear hr
        have hr := hr9
        clear hr9
        obtain ⟨hcat, hr9⟩ := dco_inv hr
        clear hr
        have hr := hr9
        clear hr9
        obtain ⟨h1, hs, z1, z2, hw1, eh⟩ := hpush_spec (c := (18, 6, 0)) (sz := 6) (fun h' => rec d y (Nat.mod x 1099511627776) L (.inr (.inr (Nat.succ n)) :: st) h') none hw
        rw [hs] at hr
        have G := ihr _ _ _ _ _ _ _ _ hr hw1
        dsimp only at z1 z2 eh
        refine ⟨⟨by have := G.1.1; show n ≤ _; omega, by have := G.1.2.1; show s ≤ _; omega, G.1.2.2⟩, fun q2 hq2 => ?_⟩
        cases QQ hq2
        rcases hx with (hx | ⟨-, hx⟩) | ⟨hf, hci, -⟩
        · exact absurd hx hx00
        · obtain ⟨⟨o9, ik, is, w9, ic⟩, hxn, hx⟩ := List.any_eq_true.mp hx
          simp only [Bool.and_eq_true, decide_eq_true_eq, Nat.beq_eq] at hx
          obtain ⟨y1, y2, y3, y4, y5, y6, y7⟩ := hx
          subst y1; subst y2
          have G2 := G.2 q hq
          rw [show Nat.mod x 1099511627776 = pc + 9 from y6] at G2
          exact ds_xnew hfl hn hxn y7 hdg y3 y4 y5 (Nat.le_of_ble_eq_true hd10) (Nat.le_of_ble_eq_true hcat) z1 z2 hw1 eh G.1.1 G.1.2.1 G2
        · have : x / 256 < 14 := hci
          omega
      rw [hb] at hop
      simp only [cond_false] at hop
      cases hop
      delta o_new at hr
      try dsimp only at hr
      have hlt : x < 1099511627776 := Nat.lt_of_not_le fun z => by rw [Nat.ble_eq_true_of_le z] at hb; cases hb
      simp only [dxB, Bool.and_eq_true, Bool.or_eq_true, decide_eq_true_eq, Nat.beq_eq, Nat.blt_eq, Nat.ble_eq, Bool.not_eq_true'] at hx
      obtain ⟨rfl, hx⟩ := hx
      rcases hx with (hx | ⟨hx, -⟩) | ⟨hf, hci, hN⟩
      · exact absurd hx hx00
      · omega
      obtain ⟨n, s, cs⟩ := h
      change cond (Nat.blt n 1073741824) _ none = _ at hr
      obtain ⟨hn, hr9⟩ := dco_inv hr
      clear hr
      have hr := hr9
      clear hr9
      have hn := di_blt.mp hn
      rw [fo_eq] at hr
      obtain ⟨h1, hs, z1, z2, hw1, eh⟩ := hpush_spec (c := (Nat.add (Nat.div x 256) 4, Nat.mod x 256, 0)) (sz := Nat.mod x 256) (fun h' => nxt rec d L (.inr (.inr (Nat.succ n)) :: st) h') none hw
      rw [hs] at hr
      have G := ihn _ _ _ _ _ _ hr hw1
      dsimp only at z1 z2 eh
      refine ⟨⟨by have := G.1.1; show n ≤ _; omega, by have := G.1.2.1; show s ≤ _; omega, G.1.2.2⟩, fun q2 hq2 => ?_⟩
      cases QQ hq2
      exact ds_new hn hdg ho hf hci z1 (by rw [z2]; exact congrArg _ hN) hw1 (fun j => by rw [eh j]; show (if j = n then some (x / 256 + 4, x % 256, 0) else _) = if j = n then some (x / 256 + 4, cN (x / 256), 0) else _; rw [hN]) G.1.1 G.1.2.1 (G.2 q hq)
    · rw [hx0] at hop
      simp only [cond_true] at hop
      cases hop
  case newarray t =>
    delta dop at hop
    dsimp only at hop
    cases hop
    delta o_newarray at hr
    try dsimp only at hr
    simp only [dxB, Bool.and_eq_true, Bool.or_eq_true, decide_eq_true_eq, Nat.beq_eq, Nat.blt_eq, Nat.ble_eq, Bool.not_eq_true'] at hx
    obtain ⟨rfl, ht⟩ := hx
    obtain ⟨v, st, rfl, hr9⟩ := d1_inv hr
    clear hr
    have hr := hr9
    clear hr9
    obtain ⟨n, s, cs⟩ := h
    change cond (Nat.blt n 1073741824) _ none = _ at hr
    obtain ⟨hn, hr9⟩ := dco_inv hr
    clear hr
    have hr := hr9
    clear hr9
    have hn := di_blt.mp hn
    rw [fo_eq] at hr
    obtain ⟨hle, hr9⟩ := dco_inv hr
    clear hr
    have hr := hr9
    clear hr9
    obtain ⟨h1, hs, z1, z2, hw1, eh⟩ := hpush_spec (c := (x, Nat.mod v 4294967296, 0)) (sz := Nat.mod v 4294967296) (fun h' => nxt rec d L (.inr (.inr (Nat.succ n)) :: st) h') none hw
    rw [hs] at hr
    have G := ihn _ _ _ _ _ _ hr hw1
    dsimp only at z1 z2 eh
    refine ⟨⟨by have := G.1.1; show n ≤ _; omega, by have := G.1.2.1; show s ≤ _; omega, G.1.2.2⟩, fun q2 hq2 => ?_⟩
    cases QQ hq2
    have hle := Nat.le_of_ble_eq_true hle
    cases t <;> first | (cases ht; done) | skip
    all_goals (have ht := Nat.eq_of_beq_eq_true ht; subst ht; exact ds_newarray hn hdg (by decide) rfl rfl hle z1 z2 hw1 eh G.1.1 G.1.2.1 (G.2 q hq))
  case arraylength =>
    delta dop at hop
    dsimp only at hop
    cases hop
    delta o_alen at hr
    try dsimp only at hr
    simp only [dxB, Bool.and_eq_true, Bool.or_eq_true, decide_eq_true_eq, Nat.beq_eq, Nat.blt_eq, Nat.ble_eq, Bool.not_eq_true'] at hx
    subst hx
    obtain ⟨a, st, rfl, hr9⟩ := d1a_inv hr
    clear hr
    have hr := hr9
    clear hr9
    obtain ⟨kd, n, ct, ha, hr9⟩ := cel_inv hr
    clear hr
    have hr := hr9
    clear hr9
    obtain ⟨hkd, hr9⟩ := dco_inv hr
    clear hr
    have hr := hr9
    clear hr9
    have hkd := di_blt.mp hkd
    have G := ihn _ _ _ _ _ _ hr hw
    exact ⟨G.1, fun q2 hq2 => by
      cases QQ hq2
      exact ds_alen hdg hkd ha (G.2 q hq)⟩
  case iaload =>
    delta dop at hop
    dsimp only at hop
    cases hop
    delta o_iaload at hr
    try dsimp only at hr
    simp only [dxB, Bool.and_eq_true, Bool.or_eq_true, decide_eq_true_eq, Nat.beq_eq, Nat.blt_eq, Nat.ble_eq, Bool.not_eq_true'] at hx
    subst hx
    obtain ⟨a, i, st, rfl, hr9⟩ := dia_inv hr
    clear hr
    have hr := hr9
    clear hr9
    obtain ⟨kd, n, ct, ha, hr9⟩ := cel_inv hr
    clear hr
    have hr := hr9
    clear hr9
    obtain ⟨hkd, hr9⟩ := dco_inv hr
    clear hr
    have hr := hr9
    clear hr9
    have hkd := Nat.eq_of_beq_eq_true hkd
    subst hkd
    obtain ⟨g1, g2, hr9⟩ := din_inv hr
    clear hr
    have hr := hr9
    clear hr9
    rw [fo_eq] at hr
    have G := ihn _ _ _ _ _ _ hr hw
    exact ⟨G.1, fun q2 hq2 => by
      cases QQ hq2
      exact ds_iaload hdg ha rfl g1 g2 (G.2 q hq)⟩
  case laload =>
    delta dop at hop
    dsimp only at hop
    cases hop
    delta o_laload at hr
    try dsimp only at hr
    simp only [dxB, Bool.and_eq_true, Bool.or_eq_true, decide_eq_true_eq, Nat.beq_eq, Nat.blt_eq, Nat.ble_eq, Bool.not_eq_true'] at hx
    subst hx
    obtain ⟨a, i, st, rfl, hr9⟩ := dia_inv hr
    clear hr
    have hr := hr9
    clear hr9
    obtain ⟨kd, n, ct, ha, hr9⟩ := cel_inv hr
    clear hr
    have hr := hr9
    clear hr9
    obtain ⟨hkd, hr9⟩ := dco_inv hr
    clear hr
    have hr := hr9
    clear hr9
    have hkd := Nat.eq_of_beq_eq_true hkd
    subst hkd
    obtain ⟨g1, g2, hr9⟩ := din_inv hr
    clear hr
    have hr := hr9
    clear hr9
    rw [fo_eq] at hr
    have G := ihn _ _ _ _ _ _ hr hw
    exact ⟨G.1, fun q2 hq2 => by
      cases QQ hq2
      exact ds_laload hdg ha rfl g1 g2 (G.2 q hq)⟩
  case baload =>
    delta dop at hop
    dsimp only at hop
    cases hop
    delta o_baload at hr
    try dsimp only at hr
    simp only [dxB, Bool.and_eq_true, Bool.or_eq_true, decide_eq_true_eq, Nat.beq_eq, Nat.blt_eq, Nat.ble_eq, Bool.not_eq_true'] at hx
    subst hx
    obtain ⟨a, i, st, rfl, hr9⟩ := dia_inv hr
    clear hr
    have hr := hr9
    clear hr9
    obtain ⟨kd, n, ct, ha, hr9⟩ := cel_inv hr
    clear hr
    have hr := hr9
    clear hr9
    cases h2 : Nat.beq kd 2
    · rw [h2] at hr
      simp only [cond_false] at hr
      obtain ⟨hkd, hr9⟩ := dco_inv hr
      clear hr
      have hr := hr9
      clear hr9
      have hkd := Nat.eq_of_beq_eq_true hkd
      subst hkd
      obtain ⟨g1, g2, hr9⟩ := din_inv hr
      clear hr
      have hr := hr9
      clear hr9
      rw [fo_eq] at hr
      have G := ihn _ _ _ _ _ _ hr hw
      exact ⟨G.1, fun q2 hq2 => by
        cases QQ hq2
        exact ds_baload3 hdg ha rfl g1 g2 (G.2 q hq)⟩
    · rw [h2] at hr
      simp only [cond_true] at hr
      have hkd := Nat.eq_of_beq_eq_true h2
      subst hkd
      obtain ⟨g1, g2, hr9⟩ := din_inv hr
      clear hr
      have hr := hr9
      clear hr9
      rw [fo_eq] at hr
      have G := ihn _ _ _ _ _ _ hr hw
      exact ⟨G.1, fun q2 hq2 => by
        cases QQ hq2
        exact ds_baload2 hdg ha rfl g1 g2 (G.2 q hq)⟩
  case iastore =>
    delta dop at hop
    dsimp only at hop
    cases hop
    delta o_iastore at hr
    try dsimp only at hr
    simp only [dxB, Bool.and_eq_true, Bool.or_eq_true, decide_eq_true_eq, Nat.beq_eq, Nat.blt_eq, Nat.ble_eq, Bool.not_eq_true'] at hx
    subst hx
    obtain ⟨a, i, v, st, rfl, hr9⟩ := diia_inv hr
    clear hr
    have hr := hr9
    clear hr9
    obtain ⟨kd, n, ct, ha, hr9⟩ := cel_inv hr
    clear hr
    have hr := hr9
    clear hr9
    obtain ⟨hkd, hr9⟩ := dco_inv hr
    clear hr
    have hr := hr9
    clear hr9
    have hkd := Nat.eq_of_beq_eq_true hkd
    subst hkd
    obtain ⟨g1, g2, hr9⟩ := din_inv hr
    clear hr
    have hr := hr9
    clear hr9
    rw [fo_eq] at hr
    obtain ⟨h1, hs, z1, z2, hw1, eh⟩ := hset_spec (c := (0, n, wst 32 ct (i % 4294967296) (Nat.mod v 4294967296))) (fun h' => nxt rec d L st h') none hw ha
    rw [hs] at hr
    have G := ihn _ _ _ _ _ _ hr hw1
    refine ⟨⟨by have := G.1.1; omega, by have := G.1.2.1; omega, G.1.2.2⟩, fun q2 hq2 => ?_⟩
    cases QQ hq2
    exact ds_iastore hdg ha rfl g1 g2 z1 z2 hw1 eh (G.2 q hq)
  case lastore =>
    delta dop at hop
    dsimp only at hop
    cases hop
    delta o_lastore at hr
    try dsimp only at hr
    simp only [dxB, Bool.and_eq_true, Bool.or_eq_true, decide_eq_true_eq, Nat.beq_eq, Nat.blt_eq, Nat.ble_eq, Bool.not_eq_true'] at hx
    subst hx
    obtain ⟨a, i, v, st, rfl, hr9⟩ := dlia_inv hr
    clear hr
    have hr := hr9
    clear hr9
    obtain ⟨kd, n, ct, ha, hr9⟩ := cel_inv hr
    clear hr
    have hr := hr9
    clear hr9
    obtain ⟨hkd, hr9⟩ := dco_inv hr
    clear hr
    have hr := hr9
    clear hr9
    have hkd := Nat.eq_of_beq_eq_true hkd
    subst hkd
    obtain ⟨g1, g2, hr9⟩ := din_inv hr
    clear hr
    have hr := hr9
    clear hr9
    rw [fo_eq] at hr
    obtain ⟨h1, hs, z1, z2, hw1, eh⟩ := hset_spec (c := (1, n, wst 64 ct (i % 4294967296) (Nat.mod v 18446744073709551616))) (fun h' => nxt rec d L st h') none hw ha
    rw [hs] at hr
    have G := ihn _ _ _ _ _ _ hr hw1
    refine ⟨⟨by have := G.1.1; omega, by have := G.1.2.1; omega, G.1.2.2⟩, fun q2 hq2 => ?_⟩
    cases QQ hq2
    exact ds_lastore hdg ha rfl g1 g2 z1 z2 hw1 eh (G.2 q hq)
  case bastore =>
    delta dop at hop
    dsimp only at hop
    cases hop
    delta o_bastore at hr
    try dsimp only at hr
    simp only [dxB, Bool.and_eq_true, Bool.or_eq_true, decide_eq_true_eq, Nat.beq_eq, Nat.blt_eq, Nat.ble_eq, Bool.not_eq_true'] at hx
    subst hx
    obtain ⟨a, i, v, st, rfl, hr9⟩ := diia_inv hr
    clear hr
    have hr := hr9
    clear hr9
    obtain ⟨kd, n, ct, ha, hr9⟩ := cel_inv hr
    clear hr
    have hr := hr9
    clear hr9
    cases h2 : Nat.beq kd 2
    · rw [h2] at hr
      simp only [cond_false] at hr
      obtain ⟨hkd, hr9⟩ := dco_inv hr
      clear hr
      have hr := hr9
      clear hr9
      have hkd := Nat.eq_of_beq_eq_true hkd
      subst hkd
      obtain ⟨g1, g2, hr9⟩ := din_inv hr
      clear hr
      have hr := hr9
      clear hr9
      rw [fo_eq] at hr
      obtain ⟨h1, hs, z1, z2, hw1, eh⟩ := hset_spec (c := (3, n, wst 8 ct (i % 4294967296) (Nat.mod v 2))) (fun h' => nxt rec d L st h') none hw ha
      rw [hs] at hr
      have G := ihn _ _ _ _ _ _ hr hw1
      refine ⟨⟨by have := G.1.1; omega, by have := G.1.2.1; omega, G.1.2.2⟩, fun q2 hq2 => ?_⟩
      cases QQ hq2
      exact ds_bastore3 hdg ha rfl g1 g2 z1 z2 hw1 eh (G.2 q hq)
    · rw [h2] at hr
      simp only [cond_true] at hr
      have hkd := Nat.eq_of_beq_eq_true h2
      subst hkd
      obtain ⟨g1, g2, hr9⟩ := din_inv hr
      clear hr
      have hr := hr9
      clear hr9
      rw [fo_eq] at hr
      obtain ⟨h1, hs, z1, z2, hw1, eh⟩ := hset_spec (c := (2, n, wst 8 ct (i % 4294967296) (Nat.mod v 256))) (fun h' => nxt rec d L st h') none hw ha
      rw [hs] at hr
      have G := ihn _ _ _ _ _ _ hr hw1
      refine ⟨⟨by have := G.1.1; omega, by have := G.1.2.1; omega, G.1.2.2⟩, fun q2 hq2 => ?_⟩
      cases QQ hq2
      exact ds_bastore2 hdg ha rfl g1 g2 z1 z2 hw1 eh (G.2 q hq)
  case invokestatic i =>
    delta dop at hop
    dsimp only at hop
    cases hb : Nat.ble 1099511627776 x
    · rw [hb] at hop
      simp only [cond_false] at hop
      cases hop
      have hlt : x < 1099511627776 := Nat.lt_of_not_le fun z => by rw [Nat.ble_eq_true_of_le z] at hb; cases hb
      delta o_static at hr
      try dsimp only at hr
      simp only [dxB, Bool.and_eq_true, Bool.or_eq_true, decide_eq_true_eq, Nat.beq_eq, Nat.blt_eq, Nat.ble_eq, Bool.not_eq_true'] at hx
      obtain ⟨rfl, hx⟩ := hx
      obtain ⟨as, st, rfl, hal, hr9⟩ := dpop_spec hr
      clear hr
      have hr := hr9
      clear hr9
      rw [List.append_nil] at hr
      obtain ⟨hcat, hr9⟩ := dco_inv hr
      clear hr
      have hr := hr9
      clear hr9
      have hcat := Nat.le_of_ble_eq_true hcat
      obtain ⟨d', v, h1, rfl, hsz, hrec, hr9⟩ := dcall_inv hr
      clear hr
      have hr := hr9
      clear hr9
      obtain ⟨hv, hr9⟩ := dcn_inv hr
      clear hr
      have hr := hr9
      clear hr9
      rw [dgo_eq] at hr
      have G0 := ihr _ _ _ _ _ _ _ _ hrec hw
      have G := ihn _ _ _ _ _ _ hr G0.1.2.2
      refine ⟨⟨Nat.le_trans G0.1.1 G.1.1, Nat.le_trans G0.1.2.1 G.1.2.1, G.1.2.2⟩, fun q2 hq2 => ?_⟩
      cases QQ hq2
      rcases hx with ⟨hx, -⟩ | hx | ⟨hx, hN⟩
      · omega
      · obtain ⟨t, ht, c1, c2, c3, c4, c6, c5⟩ := dcallB_f hx
        have hF := dM_f ht
        have hM : dMet l D b t d' as h v h1 := dMet_of c2 hv hF.2.2.2 hF.2.2.1 (by rw [← c6]; exact hsz) G0.1.1 G0.1.2.1 (G0.2 t ht)
        have hmh := cR_mh _ c1
        rw [← c3] at hmh
        exact ds_static hdg ho ⟨ht, c2, c5, hmh, by rw [c4, hal]; rfl, hF.2.1⟩ hM G0.1.1 G0.1.2.1 G.1.1 G.1.2.1 hcat (G.2 q hq)
      · obtain ⟨t, ht, c1, c2, c3, c4, c6, c5⟩ := dcallB_f hx
        have hF := dM_f ht
        have hM : dMet l D b t d' as h v h1 := dMet_of c2 hv hF.2.2.2 hF.2.2.1 (by rw [← c6]; exact hsz) G0.1.1 G0.1.2.1 (G0.2 t ht)
        have hmh := cR_mh _ c1
        rw [← c3] at hmh
        exact ds_nest hdg ho ⟨ht, c2, c5, hmh, by rw [c4, hal]; rfl, hF.2.1⟩ hN hM G0.1.1 G0.1.2.1 G.1.1 G.1.2.1 hcat (G.2 q hq)
    · rw [hb] at hop
      simp only [cond_true] at hop
      unfold dopM at hop
      cases h1 : Nat.beq x 1099511627777
      · rw [h1] at hop
        simp only [cond_false] at hop
        cases h2 : Nat.beq x 1099511627778
        · rw [h2] at hop
          simp only [cond_false] at hop
          cases h3 : Nat.beq x 1099511627779
          · rw [h3] at hop
            simp only [cond_false] at hop
            cases h4 : Nat.beq x 1099511627780
            · rw [h4] at hop
              simp only [cond_false] at hop
              cases h6 : Nat.beq x 1099511627782
              · rw [h6] at hop
                simp only [cond_false] at hop
                cases h7 : Nat.beq x 1099511627781
                · rw [h7] at hop
                  simp only [cond_false] at hop
                  cases hop
                · rw [h7] at hop
                  simp only [cond_true] at hop
                  cases hop
                  have hxe := Nat.eq_of_beq_eq_true h7
                  subst hxe
                  delta o_bitc at hr
                  try dsimp only at hr
                  simp only [dxB, Bool.and_eq_true, Bool.or_eq_true, decide_eq_true_eq, Nat.beq_eq, Nat.blt_eq, Nat.ble_eq, Bool.not_eq_true'] at hx
                  obtain ⟨rfl, hx⟩ := hx
                  obtain ⟨v, st, rfl, hr9⟩ := pop_inv hr
                  clear hr
                  have hr := hr9
                  clear hr9
                  obtain ⟨n, rfl, hr9⟩ := vI_inv hr
                  clear hr
                  have hr := hr9
                  clear hr9
                  obtain ⟨hg, hr9⟩ := dco_inv hr
                  clear hr
                  have hr := hr9
                  clear hr9
                  rw [fo_eq] at hr
                  simp only [Bool.and_eq_true, Nat.ble_eq] at hg
                  have G := ihn _ _ _ _ _ _ hr hw
                  refine ⟨G.1, fun q2 hq2 => ?_⟩
                  cases QQ hq2
                  rcases hx with ⟨-, hx | hx⟩ | hx | ⟨hx, -⟩
                  · rcases hx.2.2 with hy | hy
                    · exact absurd hy (by decide)
                    · exact ds_bitc hdg hy hg.1 hg.2 G.1.1 G.1.2.1 (G.2 q hq)
                  · exact absurd rfl ((show ∀ e ∈ dMM, e.2.2 ≠ 5 by decide) _ hx)
                  · obtain ⟨t, ht, -⟩ := dcallB_f hx
                    exact absurd (List.getElem?_eq_some_iff.mp ht).1 (fun z => absurd (Nat.lt_of_lt_of_le z dlen) (by decide))
                  · obtain ⟨t, ht, -⟩ := dcallB_f hx
                    exact absurd (List.getElem?_eq_some_iff.mp ht).1 (fun z => absurd (Nat.lt_of_lt_of_le z dlen) (by decide))
              · rw [h6] at hop
                simp only [cond_true] at hop
                cases hop
                have hxe := Nat.eq_of_beq_eq_true h6
                subst hxe
                delta o_acopy at hr
                try dsimp only at hr
                simp only [dxB, Bool.and_eq_true, Bool.or_eq_true, decide_eq_true_eq, Nat.beq_eq, Nat.blt_eq, Nat.ble_eq, Bool.not_eq_true'] at hx
                obtain ⟨rfl, hx⟩ := hx
                obtain ⟨v, r0, rfl, hr9⟩ := pop_inv hr
                clear hr
                have hr := hr9
                clear hr9
                obtain ⟨xn, rfl, hr9⟩ := vI_inv hr
                clear hr
                have hr := hr9
                clear hr9
                obtain ⟨a2, xd, r1, rfl, hr9⟩ := dia_inv hr
                clear hr
                have hr := hr9
                clear hr9
                obtain ⟨a1, xs, st, rfl, hr9⟩ := dia_inv hr
                clear hr
                have hr := hr9
                clear hr9
                obtain ⟨kd1, n1, ct1, hc1, hr9⟩ := cel_inv hr
                clear hr
                have hr := hr9
                clear hr9
                obtain ⟨kd2, n2, ct2, hc2, hr9⟩ := cel_inv hr
                clear hr
                have hr := hr9
                clear hr9
                obtain ⟨hg, hr9⟩ := dco_inv hr
                clear hr
                have hr := hr9
                clear hr9
                rw [fo_eq] at hr
                simp only [Bool.and_eq_true, Nat.beq_eq, Nat.blt_eq, Nat.ble_eq] at hg
                obtain ⟨rfl, rfl, s3, s1, s2, g1, g2, hd1, hcat⟩ := hg
                obtain ⟨h1, hs, z1, z2, hw1, eh⟩ := hset_spec (c := (2, n2, dcp ct1 ct2 (xs % 4294967296) (xd % 4294967296) (Nat.mod xn 4294967296))) (fun h' => nxt rec d L st h') none hw hc2
                rw [hs] at hr
                have G := ihn _ _ _ _ _ _ hr hw1
                refine ⟨⟨by have := G.1.1; omega, by have := G.1.2.1; omega, G.1.2.2⟩, fun q2 hq2 => ?_⟩
                cases QQ hq2
                rcases hx with ⟨-, hx | hx⟩ | hx | ⟨hx, -⟩
                · rcases hx.2.1 with hy | hy
                  · exact absurd hy (by decide)
                  · exact ds_acopy hdg hy hd1 hcat hc1 hc2 s1 s2 s3 g1 g2 z1 z2 hw1 eh (G.2 q hq)
                · exact absurd rfl ((show ∀ e ∈ dMM, e.2.2 ≠ 6 by decide) _ hx)
                · obtain ⟨t, ht, -⟩ := dcallB_f hx
                  exact absurd (List.getElem?_eq_some_iff.mp ht).1 (fun z => absurd (Nat.lt_of_lt_of_le z dlen) (by decide))
                · obtain ⟨t, ht, -⟩ := dcallB_f hx
                  exact absurd (List.getElem?_eq_some_iff.mp ht).1 (fun z => absurd (Nat.lt_of_lt_of_le z dlen) (by decide))
            · rw [h4] at hop
              simp only [cond_true] at hop
              cases hop
              have hxe := Nat.eq_of_beq_eq_true h4
              subst hxe
              delta o_mml at hr
              try dsimp only at hr
              simp only [dxB, Bool.and_eq_true, Bool.or_eq_true, decide_eq_true_eq, Nat.beq_eq, Nat.blt_eq, Nat.ble_eq, Bool.not_eq_true'] at hx
              obtain ⟨rfl, hx⟩ := hx
              obtain ⟨v, w, st, rfl, hr9⟩ := d2l_inv hr
              clear hr
              have hr := hr9
              clear hr9
              obtain ⟨hd1, hr9⟩ := dco_inv hr
              clear hr
              have hr := hr9
              clear hr9
              obtain ⟨hcat, hr9⟩ := dco_inv hr
              clear hr
              have hr := hr9
              clear hr9
              rw [fo_eq] at hr
              have G := ihn _ _ _ _ _ _ hr hw
              refine ⟨G.1, fun q2 hq2 => ?_⟩
              cases QQ hq2
              rcases hx with ⟨-, hx | hx⟩ | hx | ⟨hx, -⟩
              · exact absurd hx.1 (by decide)
              · exact ds_mminl hdg hx (Nat.le_of_ble_eq_true hd1) (Nat.le_of_ble_eq_true hcat) G.1.1 G.1.2.1 (G.2 q hq)
              · obtain ⟨t, ht, -⟩ := dcallB_f hx
                exact absurd (List.getElem?_eq_some_iff.mp ht).1 (fun z => absurd (Nat.lt_of_lt_of_le z dlen) (by decide))
              · obtain ⟨t, ht, -⟩ := dcallB_f hx
                exact absurd (List.getElem?_eq_some_iff.mp ht).1 (fun z => absurd (Nat.lt_of_lt_of_le z dlen) (by decide))
          · rw [h3] at hop
            simp only [cond_true] at hop
            cases hop
            have hxe := Nat.eq_of_beq_eq_true h3
            subst hxe
            delta o_mml at hr
            try dsimp only at hr
            simp only [dxB, Bool.and_eq_true, Bool.or_eq_true, decide_eq_true_eq, Nat.beq_eq, Nat.blt_eq, Nat.ble_eq, Bool.not_eq_true'] at hx
            obtain ⟨rfl, hx⟩ := hx
            obtain ⟨v, w, st, rfl, hr9⟩ := d2l_inv hr
            clear hr
            have hr := hr9
            clear hr9
            obtain ⟨hd1, hr9⟩ := dco_inv hr
            clear hr
            have hr := hr9
            clear hr9
            obtain ⟨hcat, hr9⟩ := dco_inv hr
            clear hr
            have hr := hr9
            clear hr9
            rw [fo_eq] at hr
            have G := ihn _ _ _ _ _ _ hr hw
            refine ⟨G.1, fun q2 hq2 => ?_⟩
            cases QQ hq2
            rcases hx with ⟨-, hx | hx⟩ | hx | ⟨hx, -⟩
            · exact absurd hx.1 (by decide)
            · exact ds_mmaxl hdg hx (Nat.le_of_ble_eq_true hd1) (Nat.le_of_ble_eq_true hcat) G.1.1 G.1.2.1 (G.2 q hq)
            · obtain ⟨t, ht, -⟩ := dcallB_f hx
              exact absurd (List.getElem?_eq_some_iff.mp ht).1 (fun z => absurd (Nat.lt_of_lt_of_le z dlen) (by decide))
            · obtain ⟨t, ht, -⟩ := dcallB_f hx
              exact absurd (List.getElem?_eq_some_iff.mp ht).1 (fun z => absurd (Nat.lt_of_lt_of_le z dlen) (by decide))
        · rw [h2] at hop
          simp only [cond_true] at hop
          cases hop
          have hxe := Nat.eq_of_beq_eq_true h2
          subst hxe
          delta o_mm at hr
          try dsimp only at hr
          simp only [dxB, Bool.and_eq_true, Bool.or_eq_true, decide_eq_true_eq, Nat.beq_eq, Nat.blt_eq, Nat.ble_eq, Bool.not_eq_true'] at hx
          obtain ⟨rfl, hx⟩ := hx
          obtain ⟨v, w, st, rfl, hr9⟩ := d2_inv hr
          clear hr
          have hr := hr9
          clear hr9
          obtain ⟨hd1, hr9⟩ := dco_inv hr
          clear hr
          have hr := hr9
          clear hr9
          obtain ⟨hcat, hr9⟩ := dco_inv hr
          clear hr
          have hr := hr9
          clear hr9
          rw [fo_eq] at hr
          have G := ihn _ _ _ _ _ _ hr hw
          refine ⟨G.1, fun q2 hq2 => ?_⟩
          cases QQ hq2
          rcases hx with ⟨-, hx | hx⟩ | hx | ⟨hx, -⟩
          · exact absurd hx.1 (by decide)
          · exact ds_mmin hdg hx (Nat.le_of_ble_eq_true hd1) (Nat.le_of_ble_eq_true hcat) G.1.1 G.1.2.1 (G.2 q hq)
          · obtain ⟨t, ht, -⟩ := dcallB_f hx
            exact absurd (List.getElem?_eq_some_iff.mp ht).1 (fun z => absurd (Nat.lt_of_lt_of_le z dlen) (by decide))
          · obtain ⟨t, ht, -⟩ := dcallB_f hx
            exact absurd (List.getElem?_eq_some_iff.mp ht).1 (fun z => absurd (Nat.lt_of_lt_of_le z dlen) (by decide))
      · rw [h1] at hop
        simp only [cond_true] at hop
        cases hop
        have hxe := Nat.eq_of_beq_eq_true h1
        subst hxe
        delta o_mm at hr
        try dsimp only at hr
        simp only [dxB, Bool.and_eq_true, Bool.or_eq_true, decide_eq_true_eq, Nat.beq_eq, Nat.blt_eq, Nat.ble_eq, Bool.not_eq_true'] at hx
        obtain ⟨rfl, hx⟩ := hx
        obtain ⟨v, w, st, rfl, hr9⟩ := d2_inv hr
        clear hr
        have hr := hr9
        clear hr9
        obtain ⟨hd1, hr9⟩ := dco_inv hr
        clear hr
        have hr := hr9
        clear hr9
        obtain ⟨hcat, hr9⟩ := dco_inv hr
        clear hr
        have hr := hr9
        clear hr9
        rw [fo_eq] at hr
        have G := ihn _ _ _ _ _ _ hr hw
        refine ⟨G.1, fun q2 hq2 => ?_⟩
        cases QQ hq2
        rcases hx with ⟨-, hx | hx⟩ | hx | ⟨hx, -⟩
        · exact absurd hx.1 (by decide)
        · exact ds_mmax hdg hx (Nat.le_of_ble_eq_true hd1) (Nat.le_of_ble_eq_true hcat) G.1.1 G.1.2.1 (G.2 q hq)
        · obtain ⟨t, ht, -⟩ := dcallB_f hx
          exact absurd (List.getElem?_eq_some_iff.mp ht).1 (fun z => absurd (Nat.lt_of_lt_of_le z dlen) (by decide))
        · obtain ⟨t, ht, -⟩ := dcallB_f hx
          exact absurd (List.getElem?_eq_some_iff.mp ht).1 (fun z => absurd (Nat.lt_of_lt_of_le z dlen) (by decide))
  case invokevirtual i =>
    delta dop at hop
    dsimp only at hop
    cases hb2 : Nat.ble 2199023255552 x
    case' true =>
      rw [hb2] at hop
      simp only [cond_true] at hop
      cases hop
      have hge : 2199023255552 ≤ x := Nat.le_of_ble_eq_true hb2
      delta o_vtry at hr
      try dsimp only at hr
      simp only [dxB, Bool.and_eq_true, Bool.or_eq_true, decide_eq_true_eq, Nat.beq_eq, Nat.blt_eq, Nat.ble_eq, Bool.not_eq_true'] at hx
      obtain ⟨rfl, hx⟩ := hx
      obtain ⟨as, st, rfl, hal, hr9⟩ := dpop_spec hr
      clear hr
      have hr := hr9
      clear hr9
      rw [List.append_nil] at hr
      obtain ⟨a, st, rfl, hr9⟩ := d1a_inv hr
      clear hr
      have hr := hr9
      clear hr9
      obtain ⟨kd, n, ct, ha, hr9⟩ := cel_inv hr
      clear hr
      have hr := hr9
      clear hr9
      obtain ⟨hkd, hr9⟩ := dco_inv hr
      clear hr
      have hr := hr9
      clear hr9
      have hkd := Nat.eq_of_beq_eq_true hkd
      subst hkd
      obtain ⟨hcat, hr9⟩ := dco_inv hr
      clear hr
      have hr := hr9
      clear hr9
      have hcat := Nat.le_of_ble_eq_true hcat
      obtain ⟨d', v, h1, rfl, hsz, hrec, hr9⟩ := dcall_inv hr
      clear hr
      have hr := hr9
      clear hr9
      have G0 := ihr _ _ _ _ _ _ _ _ hrec hw
      have hxZ : dcallB q i (x % 1099511627776) [1] = true ∧ dhook q pc (x / 2199023255552 % 64) (x / 140737488355328) = true := by
        rcases hx with hx | hx | hx | (hx | hx) | hx
        · omega
        · omega
        · omega
        · omega
        · omega
        · exact ⟨hx.1.2, hx.2⟩
      obtain ⟨hx, hk⟩ := hxZ
      have m1 : x % 1099511627776 % 16 = x % 16 := by omega
      have m2 : x % 1099511627776 / 16 % 16 = x / 16 % 16 := by omega
      obtain ⟨t, ht, c1, c2, c3, c4, c6, c5⟩ := dcallG_f (Or.inl hx)
      have hF := dM_f ht
      have hM : dMetG l D b t d' (.inr (.inr (Nat.succ a)) :: as) h v h1 := dMetG_of hF.2.2.2 hF.2.2.1 (by rw [← c6]; exact hsz) G0.1.1 G0.1.2.1 (G0.2 t ht)
      have hmh := cR_mh _ c1
      rw [← c3] at hmh
      rw [m1] at c1 c3
      rw [m2] at c4
      cases hv : dthr v
      · rw [hv] at hr
        simp only [cond_false] at hr
        rw [dgo_eq] at hr
        have G := ihn _ _ _ _ _ _ hr G0.1.2.2
        refine ⟨⟨Nat.le_trans G0.1.1 G.1.1, Nat.le_trans G0.1.2.1 G.1.2.1, G.1.2.2⟩, fun q2 hq2 => ?_⟩
        cases QQ hq2
        exact ds_virtG hdg ho ⟨ht, c2, c5, hmh, by rw [c4, hal]; rfl, hF.2.1⟩ c1 c3 ha hM G0.1.1 G0.1.2.1 G.1.1 G.1.2.1 hcat (fun _ => G.2 q hq) (fun z => by rw [hv] at z; cases z)
      · rw [hv] at hr
        simp only [cond_true] at hr
        rw [fltc_eq] at hr
        have G := ihr _ _ _ _ _ _ _ _ hr G0.1.2.2
        refine ⟨⟨Nat.le_trans G0.1.1 G.1.1, Nat.le_trans G0.1.2.1 G.1.2.1, G.1.2.2⟩, fun q2 hq2 => ?_⟩
        cases QQ hq2
        exact ds_virtG hdg ho ⟨ht, c2, c5, hmh, by rw [c4, hal]; rfl, hF.2.1⟩ c1 c3 ha hM G0.1.1 G0.1.2.1 G.1.1 G.1.2.1 hcat (fun z => by rw [hv] at z; cases z) (fun _ => dThrow_catch hk (G.2 q hq))
    rw [hb2] at hop
    simp only [cond_false] at hop
    have hlt2 : x < 2199023255552 := Nat.lt_of_not_le fun z => by rw [Nat.ble_eq_true_of_le z] at hb2; cases hb2
    cases hb : Nat.ble 1099511627776 x
    · rw [hb] at hop
      simp only [cond_false] at hop
      cases hop
      have hlt : x < 1099511627776 := Nat.lt_of_not_le fun z => by rw [Nat.ble_eq_true_of_le z] at hb; cases hb
      delta o_virtual at hr
      try dsimp only at hr
      simp only [dxB, Bool.and_eq_true, Bool.or_eq_true, decide_eq_true_eq, Nat.beq_eq, Nat.blt_eq, Nat.ble_eq, Bool.not_eq_true'] at hx
      obtain ⟨rfl, hx⟩ := hx
      obtain ⟨as, st, rfl, hal, hr9⟩ := dpop_spec hr
      clear hr
      have hr := hr9
      clear hr9
      rw [List.append_nil] at hr
      obtain ⟨a, st, rfl, hr9⟩ := d1a_inv hr
      clear hr
      have hr := hr9
      clear hr9
      obtain ⟨kd, n, ct, ha, hr9⟩ := cel_inv hr
      clear hr
      have hr := hr9
      clear hr9
      obtain ⟨hkd, hr9⟩ := dco_inv hr
      clear hr
      have hr := hr9
      clear hr9
      have hkd := Nat.eq_of_beq_eq_true hkd
      subst hkd
      obtain ⟨hcat, hr9⟩ := dco_inv hr
      clear hr
      have hr := hr9
      clear hr9
      have hcat := Nat.le_of_ble_eq_true hcat
      obtain ⟨d', v, h1, rfl, hsz, hrec, hr9⟩ := dcall_inv hr
      clear hr
      have hr := hr9
      clear hr9
      have G0 := ihr _ _ _ _ _ _ _ _ hrec hw
      have hxY : dfree q pc = true ∧ (dcallB q i x [1] = true ∨ dcallW q i x = true) := by
        rcases hx with hx | hx | hx | (hx | hx) | hx
        · omega
        · omega
        · omega
        · omega
        · exact ⟨hx.1.2, hx.2⟩
        · omega
      obtain ⟨hfr, hx⟩ := hxY
      obtain ⟨t, ht, c1, c2, c3, c4, c6, c5⟩ := dcallG_f hx
      have hF := dM_f ht
      have hM : dMetG l D b t d' (.inr (.inr (Nat.succ a)) :: as) h v h1 := dMetG_of hF.2.2.2 hF.2.2.1 (by rw [← c6]; exact hsz) G0.1.1 G0.1.2.1 (G0.2 t ht)
      have hmh := cR_mh _ c1
      rw [← c3] at hmh
      cases hv : dthr v
      · rw [hv] at hr
        simp only [cond_false] at hr
        rw [dgo_eq] at hr
        have G := ihn _ _ _ _ _ _ hr G0.1.2.2
        refine ⟨⟨Nat.le_trans G0.1.1 G.1.1, Nat.le_trans G0.1.2.1 G.1.2.1, G.1.2.2⟩, fun q2 hq2 => ?_⟩
        cases QQ hq2
        exact ds_virtG hdg ho ⟨ht, c2, c5, hmh, by rw [c4, hal]; rfl, hF.2.1⟩ c1 c3 ha hM G0.1.1 G0.1.2.1 G.1.1 G.1.2.1 hcat (fun _ => G.2 q hq) (fun z => by rw [hv] at z; cases z)
      · rw [hv] at hr
        simp only [cond_true] at hr
        cases hr
        refine ⟨G0.1, fun q2 hq2 => ?_⟩
        cases QQ hq2
        exact ds_virtG hdg ho ⟨ht, c2, c5, hmh, by rw [c4, hal]; rfl, hF.2.1⟩ c1 c3 ha hM G0.1.1 G0.1.2.1 (Nat.le_refl _) (Nat.le_refl _) hcat (fun z => by rw [hv] at z; cases z) (fun z => dThrow_out hfr z)
    · rw [hb] at hop
      simp only [cond_true] at hop
      cases h1 : Nat.beq x 1099511627777
      · rw [h1] at hop
        simp only [cond_false] at hop
        cases h2 : Nat.beq x 1099511627778
        · rw [h2] at hop
          simp only [cond_false] at hop
          cases h3 : Nat.beq x 1099511627779
          · rw [h3] at hop
            simp only [cond_false] at hop
            cases hop
          · rw [h3] at hop
            simp only [cond_true] at hop
            cases hop
            have hxe := Nat.eq_of_beq_eq_true h3
            subst hxe
            delta o_indexOf at hr
            try dsimp only at hr
            simp only [dxB, Bool.and_eq_true, Bool.or_eq_true, decide_eq_true_eq, Nat.beq_eq, Nat.blt_eq, Nat.ble_eq, Bool.not_eq_true'] at hx
            obtain ⟨rfl, hx⟩ := hx
            obtain ⟨a, j, st, rfl, hr9⟩ := dia_inv hr
            clear hr
            have hr := hr9
            clear hr9
            obtain ⟨w, n, ct, rfl, hst, hr9⟩ := dstr_inv hr
            clear hr
            have hr := hr9
            clear hr9
            obtain ⟨hd4, hr9⟩ := dco_inv hr
            clear hr
            have hr := hr9
            clear hr9
            obtain ⟨hcat, hr9⟩ := dco_inv hr
            clear hr
            have hr := hr9
            clear hr9
            rw [fo_eq] at hr
            have G := ihn _ _ _ _ _ _ hr hw
            refine ⟨G.1, fun q2 hq2 => ?_⟩
            cases QQ hq2
            rcases hx with hx | hx | hx | (hx | hx) | hx
            · omega
            · omega
            · exact ds_indexOf hdg hx.2 hst rfl (Nat.le_of_ble_eq_true hd4) (Nat.le_of_ble_eq_true hcat) G.1.1 G.1.2.1 (G.2 q hq)
            · omega
            · omega
            · omega
        · rw [h2] at hop
          simp only [cond_true] at hop
          cases hop
          have hxe := Nat.eq_of_beq_eq_true h2
          subst hxe
          delta o_charAt at hr
          try dsimp only at hr
          simp only [dxB, Bool.and_eq_true, Bool.or_eq_true, decide_eq_true_eq, Nat.beq_eq, Nat.blt_eq, Nat.ble_eq, Bool.not_eq_true'] at hx
          obtain ⟨rfl, hx⟩ := hx
          obtain ⟨a, j, st, rfl, hr9⟩ := dia_inv hr
          clear hr
          have hr := hr9
          clear hr9
          obtain ⟨w, n, ct, rfl, hst, hr9⟩ := dstr_inv hr
          clear hr
          have hr := hr9
          clear hr9
          obtain ⟨hjn, hr9⟩ := dco_inv hr
          clear hr
          have hr := hr9
          clear hr9
          obtain ⟨hd4, hr9⟩ := dco_inv hr
          clear hr
          have hr := hr9
          clear hr9
          obtain ⟨hcat, hr9⟩ := dco_inv hr
          clear hr
          have hr := hr9
          clear hr9
          rw [fo_eq] at hr
          have G := ihn _ _ _ _ _ _ hr hw
          refine ⟨G.1, fun q2 hq2 => ?_⟩
          cases QQ hq2
          rcases hx with hx | hx | hx | (hx | hx) | hx
          · omega
          · exact ds_charAt hdg hx.2 hst rfl (di_blt.mp hjn) (Nat.le_of_ble_eq_true hd4) (Nat.le_of_ble_eq_true hcat) G.1.1 G.1.2.1 (G.2 q hq)
          · omega
          · omega
          · omega
          · omega
      · rw [h1] at hop
        simp only [cond_true] at hop
        cases hop
        have hxe := Nat.eq_of_beq_eq_true h1
        subst hxe
        delta o_strlen at hr
        try dsimp only at hr
        simp only [dxB, Bool.and_eq_true, Bool.or_eq_true, decide_eq_true_eq, Nat.beq_eq, Nat.blt_eq, Nat.ble_eq, Bool.not_eq_true'] at hx
        obtain ⟨rfl, hx⟩ := hx
        obtain ⟨a, st, rfl, hr9⟩ := d1a_inv hr
        clear hr
        have hr := hr9
        clear hr9
        obtain ⟨w, n, ct, rfl, hst, hr9⟩ := dstr_inv hr
        clear hr
        have hr := hr9
        clear hr9
        obtain ⟨hd4, hr9⟩ := dco_inv hr
        clear hr
        have hr := hr9
        clear hr9
        obtain ⟨hcat, hr9⟩ := dco_inv hr
        clear hr
        have hr := hr9
        clear hr9
        have G := ihn _ _ _ _ _ _ hr hw
        refine ⟨G.1, fun q2 hq2 => ?_⟩
        cases QQ hq2
        rcases hx with hx | hx | hx | (hx | hx) | hx
        · exact ds_strlen hdg hx.2 hst (Nat.le_of_ble_eq_true hd4) (Nat.le_of_ble_eq_true hcat) G.1.1 G.1.2.1 (G.2 q hq)
        · omega
        · omega
        · omega
        · omega
        · omega
  case invokespecial i =>
    delta dop at hop
    dsimp only at hop
    cases hb : Nat.ble 1099511627776 x
    · rw [hb] at hop
      simp only [cond_false] at hop
      cases hop
      have hlt : x < 1099511627776 := Nat.lt_of_not_le fun z => by rw [Nat.ble_eq_true_of_le z] at hb; cases hb
      have hbq : Nat.beq x 1099511627776 = false := by
        cases z : Nat.beq x 1099511627776
        · rfl
        · have := Nat.eq_of_beq_eq_true z; omega
      delta o_special at hr
      try dsimp only at hr
      obtain ⟨as, st, rfl, hal, hr9⟩ := dpop_spec hr
      clear hr
      have hr := hr9
      clear hr9
      rw [List.append_nil] at hr
      obtain ⟨a, st, rfl, hr9⟩ := d1a_inv hr
      clear hr
      have hr := hr9
      clear hr9
      obtain ⟨hcat, hr9⟩ := dco_inv hr
      clear hr
      have hr := hr9
      clear hr9
      have hcat := Nat.le_of_ble_eq_true hcat
      obtain ⟨d', v, h1, rfl, hsz, hrec, hr9⟩ := dcall_inv hr
      clear hr
      have hr := hr9
      clear hr9
      obtain ⟨hv, hr9⟩ := dcn_inv hr
      clear hr
      have hr := hr9
      clear hr9
      rw [dgo_eq] at hr
      have G0 := ihr _ _ _ _ _ _ _ _ hrec hw
      have G := ihn _ _ _ _ _ _ hr G0.1.2.2
      refine ⟨⟨Nat.le_trans G0.1.1 G.1.1, Nat.le_trans G0.1.2.1 G.1.2.1, G.1.2.2⟩, fun q2 hq2 => ?_⟩
      cases QQ hq2
      unfold dxB at hx
      dsimp only at hx
      rw [hbq, hb] at hx
      simp only [Bool.and_eq_true, Bool.or_eq_true, decide_eq_true_eq, Nat.beq_eq, Bool.false_and, Bool.false_eq_true, false_or, Bool.not_false, true_and] at hx
      obtain ⟨rfl, hx, hx2⟩ := hx
      obtain ⟨t, ht, c1, c2, c3, c4, c6, c5⟩ := dcallB_f hx
      have hF := dM_f ht
      have hM : dMet l D b t d' (.inr (.inr (Nat.succ a)) :: as) h v h1 := dMet_of c2 hv hF.2.2.2 hF.2.2.1 (by rw [← c6]; exact hsz) G0.1.1 G0.1.2.1 (G0.2 t ht)
      have hmh := cR_mh _ c1
      rw [← c3] at hmh
      rw [ht] at hx2
      simp only [Bool.and_eq_true, decide_eq_true_eq, Option.isNone_iff_eq_none] at hx2
      obtain ⟨hi1, hi2⟩ := hx2
      exact ds_special hdg ho ⟨ht, c2, c5, hmh, by rw [c4, hal]; rfl, hF.2.1⟩ hi1 hi2 hM G0.1.1 G0.1.2.1 G.1.1 G.1.2.1 hcat (G.2 q hq)
    · rw [hb] at hop
      simp only [cond_true] at hop
      cases hbq : Nat.beq x 1099511627776
      · rw [hbq] at hop
        simp only [cond_false] at hop
        cases hop
      · rw [hbq] at hop
        simp only [cond_true] at hop
        cases hop
        delta o_objinit at hr
        try dsimp only at hr
        unfold dxB at hx
        dsimp only at hx
        rw [hbq, hb] at hx
        simp only [Bool.and_eq_true, Bool.or_eq_true, decide_eq_true_eq, Nat.beq_eq, Bool.true_and, Bool.not_true, Bool.false_and, Bool.false_eq_true, or_false] at hx
        obtain ⟨rfl, hx⟩ := hx
        cases d with
        | zero => cases hr
        | succ d =>
          change d1a st _ = _ at hr
          obtain ⟨a, st, rfl, hr9⟩ := d1a_inv hr
          clear hr
          have hr := hr9
          clear hr9
          obtain ⟨hcat, hr9⟩ := dco_inv hr
          clear hr
          have hr := hr9
          clear hr9
          have hcat := Nat.le_of_ble_eq_true hcat
          have G := ihn _ _ _ _ _ _ hr hw
          exact ⟨G.1, fun q2 hq2 => by
            cases QQ hq2
            exact ds_objinit hdg ho hx hcat (G.2 q hq)⟩
  case athrow =>
    delta dop at hop
    dsimp only at hop
    cases hop
    delta o_athrow at hr
    try dsimp only at hr
    simp only [dxB, Bool.and_eq_true, Bool.or_eq_true, decide_eq_true_eq, Nat.beq_eq, Nat.blt_eq, Nat.ble_eq, Bool.not_eq_true'] at hx
    obtain ⟨rfl, hf⟩ := hx
    obtain ⟨a, st, rfl, hr9⟩ := d1a_inv hr
    clear hr
    have hr := hr9
    clear hr9
    obtain ⟨kd, n, ct, ha, hr9⟩ := cel_inv hr
    clear hr
    have hr := hr9
    clear hr9
    obtain ⟨hkd, hr9⟩ := dco_inv hr
    clear hr
    have hr := hr9
    clear hr9
    have hkd := Nat.eq_of_beq_eq_true hkd
    subst hkd
    cases hr
    refine ⟨⟨Nat.le_refl _, Nat.le_refl _, hw⟩, fun q2 hq2 => ?_⟩
    cases QQ hq2
    exact ds_athrow hdg hf ha rfl
  case return_ =>
    delta dop at hop
    dsimp only at hop
    cases hop
    delta o_return at hr
    try dsimp only at hr
    simp only [dxB, Bool.and_eq_true, Bool.or_eq_true, decide_eq_true_eq, Nat.beq_eq, Nat.blt_eq, Nat.ble_eq, Bool.not_eq_true'] at hx
    obtain ⟨rfl, hx⟩ := hx
    obtain ⟨rfl, hr9⟩ := emp_inv hr
    clear hr
    have hr := hr9
    clear hr9
    cases hr
    refine ⟨⟨Nat.le_refl _, Nat.le_refl _, hw⟩, fun q2 hq2 => ?_⟩
    cases QQ hq2
    exact ds_return hdg (Option.isNone_iff_eq_none.mp hx)
  case lreturn =>
    delta dop at hop
    dsimp only at hop
    cases hop
    delta o_lreturn at hr
    try dsimp only at hr
    simp only [dxB, Bool.and_eq_true, Bool.or_eq_true, decide_eq_true_eq, Nat.beq_eq, Nat.blt_eq, Nat.ble_eq, Bool.not_eq_true'] at hx
    obtain ⟨rfl, hx⟩ := hx
    obtain ⟨v, st, rfl, hr9⟩ := d1l_inv hr
    clear hr
    have hr := hr9
    clear hr9
    obtain ⟨rfl, hr9⟩ := emp_inv hr
    clear hr
    have hr := hr9
    clear hr9
    cases hr
    refine ⟨⟨Nat.le_refl _, Nat.le_refl _, hw⟩, fun q2 hq2 => ?_⟩
    cases QQ hq2
    split at hx
    · rename_i hret
      exact ds_lreturn hdg hret
    · cases hx
  case ireturn =>
    delta dop at hop
    dsimp only at hop
    cases hop
    delta o_ireturn at hr
    try dsimp only at hr
    simp only [dxB, Bool.and_eq_true, Bool.or_eq_true, decide_eq_true_eq, Nat.beq_eq, Nat.blt_eq, Nat.ble_eq, Bool.not_eq_true'] at hx
    obtain ⟨rfl, hx⟩ := hx
    obtain ⟨v, st, rfl, hr9⟩ := d1_inv hr
    clear hr
    have hr := hr9
    clear hr9
    obtain ⟨rfl, hr9⟩ := emp_inv hr
    clear hr
    have hr := hr9
    clear hr9
    split at hx
    · rename_i hret
      rw [hx] at hr
      simp only [cond_true] at hr
      cases hr
      refine ⟨⟨Nat.le_refl _, Nat.le_refl _, hw⟩, fun q2 hq2 => ?_⟩
      cases QQ hq2
      exact ds_ireturn hdg hret rfl
    · rename_i hret
      have hx1 : Nat.beq x 1 = false := by simpa using hx
      rw [hx1] at hr
      simp only [cond_false] at hr
      obtain ⟨hle, hr9⟩ := dco_inv hr
      clear hr
      have hr := hr9
      clear hr9
      have hle := Nat.le_of_ble_eq_true hle
      cases hr
      refine ⟨⟨Nat.le_refl _, Nat.le_refl _, hw⟩, fun q2 hq2 => ?_⟩
      cases QQ hq2
      refine ds_ireturn hdg hret ?_
      rw [← di_imod]
      rcases (show v % 4294967296 = 0 ∨ v % 4294967296 = 1 from by have : Nat.mod v 4294967296 = v % 4294967296 := rfl; omega) with z | z <;> rw [z] <;> decide
    · cases hx
  all_goals (delta dop at hop; dsimp only at hop; cases hop)
theorem di_blk {l : Launch} (hfl : l.stackTraces = false) {D : dD} {b : Nat → Nat} {rec : dRec} (ihr : ∀ d y pc L st h r h', rec d y pc L st h = some (r, h') → hwf h → dG l D b d y pc L st h r h') {y : Nat} {q : dMI} (hq : dMis[y]? = some q) (is : List dI) : ∀ pc, ckb q is pc = true → ∀ d L st h r h', dcomp y is pc rec d L st h = some (r, h') → hwf h → dG l D b d y pc L st h r h' := by
  induction is with
  | nil => intro pc _ d L st h r h' hr hw; exact ihr _ _ _ _ _ _ _ _ hr hw
  | cons i t ih =>
    intro pc hc d L st h r h' hr hw
    simp only [ckb, Bool.and_eq_true] at hc
    obtain ⟨ins, len, x⟩ := i
    change (match dop ins x with
      | none => dnone
      | some o => o y x (dcomp y t (pc + len))) rec d L st h = _ at hr
    cases ho : dop ins x with
    | none => rw [ho] at hr; cases hr
    | some o =>
      rw [ho] at hr
      exact di_op hfl ihr hq hc.1 (ih (pc + len) hc.2) ho hr hw
/-- the program is made of blocks that are those of the class files -/
def dPok (P : Nat → Nat → Option dCode) : Prop := ∀ y pc c, P y pc = some c → ∃ q is, dMis[y]? = some q ∧ ckb q is pc = true ∧ c = dcomp y is pc
/-- the whole run of a method -/
theorem di_sound {P : Nat → Nat → Option dCode} (hP : dPok P) (l : Launch) (hfl : l.stackTraces = false) (D : dD) (b : Nat → Nat) (f : Nat) : ∀ d y pc L st h r h', drun P f d y pc L st h = some (r, h') → hwf h → dG l D b d y pc L st h r h' := by
  induction f with
  | zero => intro d y pc L st h r h' e; cases e
  | succ f ih =>
    intro d y pc L st h r h' e hw
    change opt (P y pc) (fun c => c (drun P f) d L st h) = _ at e
    obtain ⟨c, hc, e⟩ := opt_inv e
    obtain ⟨q, is, hq, hk, rfl⟩ := hP _ _ _ hc
    exact di_blk hfl ih hq is pc hk _ _ _ _ _ _ e hw
end

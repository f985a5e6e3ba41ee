/-! THE CLAIM OUT OF ONE WALK OF THE LAW'S BODY. Your part is whole_start (and what it stands on); all else here is the same for every law, but numbers. -/
def R_law : String := "ItemJudgeLaw"
def lw_P (b : Addr) (xs : List Int32) (args : Array Value) (s : State) : Prop := args = #[.ref b] ∧ s.IntsAt b xs ∧ xs.length ≤ 6 ∧ (Jvm.Cond.and given_1 narrow_1).before args s = true
def lw_Q (_ : Array Value) (s : State) (o : Outcome) (t : State) : Prop := o = .returned (some (.int 1)) ∧ Framed s o t [] 211239 8468520
def lw_Z (below : List Frame) (a : Array Value) (s : State) : State → Prop := fun t => ∃ o, t.status = .running ∧ Ended t below o ∧ lw_Q a s o t
/-- the law's own end, with 1 on the stack, nothing written that was there before, its room as the claim has it -/
theorem lw_ret {p : Program} {l : Launch} {e : Env} {s : State} {m : MethodId} {below : List Frame} {meth : Method} {c : Code} {b : Nat} (hx : p.tables.exec = Jvm.exec) (hb : c.code = code) (hr : meth.sig.returnType = ret) (hlocks : meth.locks = false) {pc : Nat} {H : Heap} {ls : Array Slot} (hdg : decode code pc = .ok (.ireturn, 1)) : W p l e room_1 s m #[Value.ref b] below meth c H [] 211239 8468520 (lw_Z below #[Value.ref b] s) (F0 m pc ls [.int 1]) := by
  intro T hT X
  obtain ⟨fs, hret, hrun, hended, hW, hframe⟩ := X.leave (v := some (.int 1)) (hlocks := hlocks) (fun h => by rw [hr] at h; cases h)
  have hmeth' : T.vm.method? m = some meth := X.method'
  refine ⟨T.setFrames fs, ?_, .returned (some (.int 1)), hrun, hended, rfl, ⟨_, rfl⟩, hW, hframe⟩
  jvm_step X.here [X.here.top, hx, hb, hdg, hmeth', hr, ret, narrow_b1]
  (try refine ⟨rfl, ?_⟩); (try refine ⟨rfl, ?_⟩)
  first | (intro acts; rw [hret _ acts rfl rfl rfl]) | rw [hret _ _ rfl rfl rfl]
  exact Steps.refl _
/-- what holds at the law's entry: the machine, the code, the tables' words (any of lw_tbl by 'hts w (by decide +kernel)'), the script of L ints xs at the cell b, what the Statement gives of the start (any of its parts by flat_of_before) -/
def lw_At (p : Program) (s : State) (m : MethodId) (meth : Method) (c : Code) (b L : Nat) (xs : Nat → Int32) : Prop :=
  p.tables.exec = Jvm.exec ∧ c.code = code ∧ meth.sig.returnType = ret ∧ c.maxLocals = 4 ∧ s.vm.findClass R_law = some m.cls ∧ (∀ w ∈ lw_tbl, w.before #[Value.ref b] s = true) ∧ va_X b L xs s s.heap ∧ b < s.heap.size ∧ meth.locks = false ∧ (Jvm.Cond.and given_1 narrow_1).before #[Value.ref b] s = true
-- ===== the law, step by step =====
def lwC (p : Program) (s : State) (m : MethodId) (meth : Method) (c : Code) (bq L : Nat) (xs : Nat → Int32) (D : dD) (b : Nat → Nat) : Prop := lw_At p s m meth c bq L xs ∧ b 0 = s.heap.size ∧ dLn b ∧ dKK D b s s.heap
/-- from a place of the law on, whatever the machine's heap is that these words stand for -/
def lwG (p : Program) (l : Launch) (e : Env) (s : State) (m : MethodId) (below : List Frame) (meth : Method) (c : Code) (bq : Nat) (D : dD) (b : Nat → Nat) (h : dH) (pc : Nat) (ls : Array Slot) (st : List Value) : Prop := ∀ (H : Heap) (locs : List Loc), dRl D b h H → dS b s.heap H locs → W p l e room_1 s m #[Value.ref bq] below meth c H locs h.1 h.2.1 (lw_Z below #[Value.ref bq] s) (F0 m pc ls st)
noncomputable def lwHk (h : dH) (a k : Nat) : Bool := match hat h a with
  | none => false
  | some z => Nat.beq z.1 k
theorem lwHk_of {h : dH} {a k : Nat} (e : lwHk h a k = true) : ∃ n ct, hat h a = some (k, n, ct) := by
  unfold lwHk at e
  split at e
  · cases e
  · rename_i z hz
    obtain ⟨z1, z2, z3⟩ := z
    cases Nat.eq_of_beq_eq_true e
    exact ⟨z2, z3, hz⟩
theorem lw_nat (x : Int32) : x = Int32.ofNat x.toBitVec.toNat := by
  apply Int32.toBitVec_inj.mp
  simp
section LWX
variable {p : Program} {l : Launch} {e : Env} {s : State} {m : MethodId} {below : List Frame} {meth : Method} {c : Code} {bq L : Nat} {xs : Nat → Int32} {D : dD} {b : Nat → Nat} {h h1 : dH} {pc : Nat} {ls : Array Slot} {st : List Value}
theorem lw_S (C : lwC p s m meth c bq L xs D b) {H : Heap} {locs : List Loc} (hR : dRl D b h H) (hS : dS b s.heap H locs) : va_S (fun q => b 0 ≤ q) s.heap H locs := ⟨by rw [hR.1.1, C.2.1]; omega, fun q _ h2 => hS.2.1 q (Nat.not_le.mp h2), hS.2.2⟩
theorem lw_w (C : lwC p s m meth c bq L xs D b) : ∀ w ∈ dTB, w.before #[Value.ref bq] s = true := fun w hw => C.1.2.2.2.2.2.1 w (dTB_tbl w hw)
theorem lw_aload (C : lwC p s m meth c bq L xs D b) {n : Fin 4} {x a : Nat} (hdg : decode code pc = .ok (.aload_n n, 1)) (hi : (n : Nat) = x) (hl : ls[x]? = some (.val (.ref a))) (k : lwG p l e s m below meth c bq D b h (pc + 1) ls (.ref a :: st)) : lwG p l e s m below meth c bq D b h pc ls st :=
  fun H locs hR hS => lv_aload_n C.1.1 C.1.2.1 hdg hi hl (k H locs hR hS)
theorem lw_iload (C : lwC p s m meth c bq L xs D b) {n : Fin 4} {x : Nat} {a : Int32} (hdg : decode code pc = .ok (.iload_n n, 1)) (hi : (n : Nat) = x) (hl : ls[x]? = some (.val (.int a))) (k : lwG p l e s m below meth c bq D b h (pc + 1) ls (.int a :: st)) : lwG p l e s m below meth c bq D b h pc ls st :=
  fun H locs hR hS => lv_iload_n C.1.1 C.1.2.1 hdg hi hl (k H locs hR hS)
theorem lw_iconst (C : lwC p s m meth c bq L xs D b) {n : Int} (hdg : decode code pc = .ok (.iconst n, 1)) (k : lwG p l e s m below meth c bq D b h (pc + 1) ls (.int (Int32.ofInt n) :: st)) : lwG p l e s m below meth c bq D b h pc ls st :=
  fun H locs hR hS => lv_iconst C.1.1 C.1.2.1 hdg rfl (k H locs hR hS)
theorem lw_bipush (C : lwC p s m meth c bq L xs D b) {n : Int} {v : Int32} (hdg : decode code pc = .ok (.bipush n, 2)) (hv : (Int8.ofInt n).toInt32 = v) (k : lwG p l e s m below meth c bq D b h (pc + 2) ls (.int v :: st)) : lwG p l e s m below meth c bq D b h pc ls st :=
  fun H locs hR hS => lv_bipush C.1.1 C.1.2.1 hdg hv (k H locs hR hS)
theorem lw_dup (C : lwC p s m meth c bq L xs D b) {v : Value} (hdg : decode code pc = .ok (.dup, 1)) (hv : v.category = 1) (k : lwG p l e s m below meth c bq D b h (pc + 1) ls (v :: v :: st)) : lwG p l e s m below meth c bq D b h pc ls (v :: st) :=
  fun H locs hR hS => lv_dup C.1.1 C.1.2.1 hdg hv (k H locs hR hS)
theorem lw_iadd (C : lwC p s m meth c bq L xs D b) {x y : Int32} (hdg : decode code pc = .ok (.iadd, 1)) (k : lwG p l e s m below meth c bq D b h (pc + 1) ls (.int (x + y) :: st)) : lwG p l e s m below meth c bq D b h pc ls (.int y :: .int x :: st) :=
  fun H locs hR hS => lv_iadd C.1.1 C.1.2.1 hdg (k H locs hR hS)
theorem lw_isub (C : lwC p s m meth c bq L xs D b) {x y : Int32} (hdg : decode code pc = .ok (.isub, 1)) (k : lwG p l e s m below meth c bq D b h (pc + 1) ls (.int (x - y) :: st)) : lwG p l e s m below meth c bq D b h pc ls (.int y :: .int x :: st) :=
  fun H locs hR hS => lv_isub C.1.1 C.1.2.1 hdg (k H locs hR hS)
theorem lw_iand (C : lwC p s m meth c bq L xs D b) {x y : Int32} (hdg : decode code pc = .ok (.iand, 1)) (k : lwG p l e s m below meth c bq D b h (pc + 1) ls (.int (x &&& y) :: st)) : lwG p l e s m below meth c bq D b h pc ls (.int y :: .int x :: st) :=
  fun H locs hR hS => lv_iand C.1.1 C.1.2.1 hdg (k H locs hR hS)
theorem lw_iald (C : lwC p s m meth c bq L xs D b) {i : Int32} {k : Nat} (hdg : decode code pc = .ok (.iaload, 1)) (hin : vp_in i L) (hk : i.toNatClampNeg = k) (kk : lwG p l e s m below meth c bq D b h (pc + 1) ls (.int (xs k) :: st)) : lwG p l e s m below meth c bq D b h pc ls (.int i :: .ref bq :: st) := by
  intro H locs hR hS
  subst hk
  exact va_sld C.1.1 C.1.2.1 C.1.2.2.2.2.2.2.1 C.1.2.2.2.2.2.2.2.1 (by rw [C.2.1]; exact Nat.not_le.mpr C.1.2.2.2.2.2.2.2.1) (lw_S C hR hS) hin hdg (kk H locs hR hS)
theorem lw_alen (C : lwC p s m meth c bq L xs D b) (hdg : decode code pc = .ok (.arraylength, 1)) (kk : lwG p l e s m below meth c bq D b h (pc + 1) ls (.int (Int32.ofNat L) :: st)) : lwG p l e s m below meth c bq D b h pc ls (.ref bq :: st) := by
  intro H locs hR hS
  exact va_slen C.1.1 C.1.2.1 C.1.2.2.2.2.2.2.1 C.1.2.2.2.2.2.2.2.1 (by rw [C.2.1]; exact Nat.not_le.mpr C.1.2.2.2.2.2.2.2.1) (lw_S C hR hS) hdg (kk H locs hR hS)
theorem lw_new (C : lwC p s m meth c bq L xs D b) {i ci : Nat} (hdg : decode code pc = .ok (.new i, 3)) (w1 : Cond.classLink "ItemJudgeLaw" i (cR ci) ∈ lw_tbl) (hci : ci < 14) (hw : hwf h) (hp : hpush h (ci + 4, cN ci, 0) (cN ci) (fun g => decide (g = h1)) false = true) (hn : h.1 < 1073741824) (hc : h1.1 ≤ 211239) (hs : h1.2.1 ≤ 8468520) (k : hwf h1 → lwG p l e s m below meth c bq D b h1 (pc + 3) ls (.ref (b h.1) :: st)) : lwG p l e s m below meth c bq D b h pc ls st := by
  intro H locs hR hS
  obtain ⟨h', e1, z1, z2, hw1, eh⟩ := hpush_spec (c := (ci + 4, cN ci, 0)) (sz := cN ci) (fun g => decide (g = h1)) false hw
  rw [hp] at e1
  obtain rfl : h' = h1 := of_decide_eq_true e1.symm
  have hts := lw_w C
  have hin : ∀ w ∈ u_ws (cR ci) (cT ci) (cN ci), w ∈ dTB := fun w hw => dTB_u hci hw
  have hKn := C.2.2.2.1.1 ci _ (dCl_at ci hci)
  have w2 : Cond.instantiable (cR ci) (cN ci) ∈ dTB := dTB_n hci (by simp)
  have w3 : Cond.initialized (cR ci) ∈ dTB := dTB_n hci (by simp)
  refine W.newcK C.1.1 C.1.2.1 C.1.2.2.2.2.1 (C.1.2.2.2.2.2.1 _ w1) (hts _ w2) (hts _ w3) rfl hdg (by show h.1 + 1 ≤ 211239; omega) (by show h.2.1 + cN ci ≤ 8468520; omega) hKn.2.1 rfl fun H1 kC hkC x1 x2 x3 => ?_
  rw [show (Value.ref H.size : Value) = .ref (b h.1) by rw [hR.1.1, ← hR.at (Nat.le_refl _)], ← z1, ← z2]
  refine k hw1 H1 locs (hR.push hn x2 x3 (Or.inr (Or.inl ⟨ci, hci, rfl, ?_⟩)) z1 hw1 eh) (hS.push hR.1.1 x3)
  refine (u_born (cY ci) hts hin hKn hkC x1 (cT_ty ci hci)).to (fun j hj => ?_)
  show _ = dv b (fv _ (wd 64 0 j))
  rw [wd_0, dcast (w := 0) (cY_tc ci hci j hj)]
theorem lw_good {t : dMI} (ht : t ∈ dMis) : GoodIn lw_tbl (dTs t) := by
  intro w hw
  rcases List.mem_cons.mp hw with rfl | hw
  · exact ⟨dTB_tbl _ (dTB_c ht), dTB_gd (dTB_c ht)⟩
  · exact ⟨dTB_tbl _ hw, dTB_gd hw⟩
theorem lw_init (C : lwC p s m meth c bq L xs D b) {i y a : Nat} {t : dMI} (hdg : decode code pc = .ok (.invokespecial i, 3)) (k1 : dMis[y]? = some t) (k0 : dWith.contains y = false) (a1 : Cond.methodLink "ItemJudgeLaw" i t.2.1 ∈ lw_tbl) (a2 : Cond.instanceMethod t.2.1 ∈ lw_tbl) (a3 : Cond.initialized t.2.1.cls ∈ lw_tbl) (hin : t.2.1.name = "<init>") (hrt : t.2.2.2.2 = none) (k4 : t.2.1.cls ≠ "java/lang/invoke/MethodHandle" ∧ t.2.1.cls ≠ "java/lang/invoke/VarHandle") (k5 : (parseMethodDescriptor t.2.1.desc).map (fun d => d.parameters.length) = some 0) (hsz : 1 ≤ t.2.2.2.1) (G : dG l D b 40 y 0 [(0, .inr (.inr (Nat.succ a)))] [] h none h1) (hls : ls.size = 4) (hst : (st.map fun v => v.category).sum ≤ 8) (hc : h1.1 ≤ 211239) (hs : h1.2.1 ≤ 8468520) (k : lwG p l e s m below meth c bq D b h1 (pc + 3) ls st) : lwG p l e s m below meth c bq D b h pc ls (.ref (b a) :: st) := by
  intro H locs hR hS
  have hF := dM_f k1
  have hM : dMet l D b t 40 [.inr (.inr (Nat.succ a))] h none h1 := dMet_of (dMs_mem k1 k0) rfl hF.2.2.2 hF.2.2.1 hsz G.1.1 G.1.2.1 (G.2 t k1)
  have hts := C.1.2.2.2.2.2.1
  have hrw : dTs t = Cond.code t.2.1 t.2.2.1 t.2.2.2.1 none :: dTB := by rw [← hrt]; exact dTs_p (dMs_mem k1 k0)
  have g1 := G.1.1
  have g2 := G.1.2.1
  have cb := callB_of (R := room_1) (own := "ItemJudgeLaw") (index := i) (y := t.2.1) (rm := { frames := 40, cells := h1.1 - h.1, slots := h1.2.1 - h.2.1, locals := 40 * 64 }) 0 hts (lw_good (List.mem_of_getElem? k1)) hrw rfl rfl (hts _ a3) (hts _ a1) ⟨k4.1, k4.2, k5⟩ ⟨by show 40 + 1 ≤ 2048; omega, by show 8 + (t.2.2.2.1 + 11) + 40 * 64 ≤ 84000; have := hF.2.1; omega⟩
  refine ds_after (D := D) (v := none) (h1 := h1) (va_runI (b := b a) (As := []) ⟨C.1.1, C.1.2.1, C.1.2.2.2.1, C.1.2.2.2.2.1, hts⟩ hM ⟨cb, hin, hts _ a2⟩ ⟨dblind, fun U hU hW => ⟨rfl, by rw [hU]; exact hR, by rw [hU]; exact dKK.warm hW (dKK.kept hS.2.1 C.2.2.2)⟩⟩ rfl rfl hls rfl (lv_room hst) hdg ⟨by show h.1 + (h1.1 - h.1) ≤ 211239; omega, by show h.2.1 + (h1.2.1 - h.2.1) ≤ 8468520; omega⟩) hS fun H1 locs1 hR1 hS1 => ?_
  rw [show h.1 + (h1.1 - h.1) = h1.1 by omega, show h.2.1 + (h1.2.1 - h.2.1) = h1.2.1 by omega]
  exact k H1 locs1 hR1 hS1
theorem lw_virt (C : lwC p s m meth c bq L xs D b) {i y a : Nat} {t : dMI} {as : List dV} {L0 : dL} {v : Option dV} (hdg : decode code pc = .ok (.invokevirtual i, 3)) (k1 : dMis[y]? = some t) (a1 : Cond.methodLink "ItemJudgeLaw" i t.2.1 ∈ lw_tbl) (a2 : Cond.instanceMethod t.2.1 ∈ lw_tbl) (a3 : Cond.initialized t.2.1.cls ∈ lw_tbl) (a4 : Cond.selects t.2.1.cls t.2.1 t.2.1 ∈ lw_tbl) (k4 : t.2.1.cls ≠ "java/lang/invoke/MethodHandle" ∧ t.2.1.cls ≠ "java/lang/invoke/VarHandle") (k5 : (parseMethodDescriptor t.2.1.desc).map (fun d => d.parameters.length) = some as.length) (ha : ∃ n ct, hat h a = some (t.1 + 4, n, ct)) (hsz : dsz (.inr (.inr (Nat.succ a)) :: as) ≤ t.2.2.2.1) (hL : dal 0 (.inr (.inr (Nat.succ a)) :: as) = L0) (G : dG l D b 40 y 0 L0 [] h v h1) (hv : dthr v = false) (hls : ls.size = 4) (hst : (st.map fun v => v.category).sum ≤ 8) (hc : h1.1 ≤ 211239) (hs : h1.2.1 ≤ 8468520) (k : lwG p l e s m below meth c bq D b h1 (pc + 3) ls ((v.map (dv b)).toList ++ st)) : lwG p l e s m below meth c bq D b h pc ls ((as.map (dv b)).reverse ++ .ref (b a) :: st) := by
  intro H locs hR hS
  subst hL
  have hF := dM_f k1
  obtain ⟨n, ct, ha⟩ := ha
  have hM : dMetG l D b t 40 (.inr (.inr (Nat.succ a)) :: as) h v h1 := dMetG_of hF.2.2.2 hF.2.2.1 hsz G.1.1 G.1.2.1 (G.2 t k1)
  have hts := C.1.2.2.2.2.2.1
  have hG := lw_good (List.mem_of_getElem? k1)
  have g1 := G.1.1
  have g2 := G.1.2.1
  obtain ⟨cell, q1, q2, q3, -⟩ := (hR.2.2 a _ ha).obj hF.1
  have hfc := (C.2.2.2.1.1 t.1 _ (dCl_at t.1 hF.1)).2.1
  have hrm : 40 + 1 ≤ room_1.frames ∧ 8 + (t.2.2.2.1 + 11) + 40 * 64 ≤ room_1.locals := ⟨by show 40 + 1 ≤ 2048; omega, by show 8 + (t.2.2.2.1 + 11) + 40 * 64 ≤ 84000; have := hF.2.1; omega⟩
  have hcs : h.1 + (h1.1 - h.1) ≤ room_1.cells ∧ h.2.1 + (h1.2.1 - h.2.1) ≤ room_1.slots := ⟨by show h.1 + (h1.1 - h.1) ≤ 211239; omega, by show h.2.1 + (h1.2.1 - h.2.1) ≤ 8468520; omega⟩
  have hpre : PreV s H t.2.1.cls (b a) (va_Pc ((.inr (.inr (Nat.succ a)) :: as : List dV).map (dv b)) (fun U => dRl D b h U.heap ∧ dKK D b U U.heap)) (as.map (dv b)) := ⟨dblind, ⟨cell, q1, by rw [q3]; rfl, by rw [q2, hF.2.2.1]; exact hfc⟩, fun U hU hW => ⟨rfl, by rw [hU]; exact hR, by rw [hU]; exact dKK.warm hW (dKK.kept hS.2.1 C.2.2.2)⟩⟩
  have hfin : ∀ a9, vx_Run p l e room_1 s m #[Value.ref bq] below meth c H locs h.1 h.2.1 (h1.1 - h.1) (h1.2.1 - h.2.1) (F0 m pc ls ((as.map (dv b)).reverse ++ .ref (b a) :: st)) st (dQn D b v h1 a9) (dXn D b v h1) (fun x => b 0 ≤ x) → W p l e room_1 s m #[Value.ref bq] below meth c H locs h.1 h.2.1 (lw_Z below #[Value.ref bq] s) (F0 m pc ls ((as.map (dv b)).reverse ++ .ref (b a) :: st)) := fun a9 run =>
    ds_afterG run hS (fun _ H1 locs1 hR1 hS1 => by
      rw [show h.1 + (h1.1 - h.1) = h1.1 by omega, show h.2.1 + (h1.2.1 - h.2.1) = h1.2.1 by omega]
      exact k H1 locs1 hR1 hS1) (fun hv1 => by rw [hv] at hv1; cases hv1)
  cases hh : dHH t with
  | nil =>
    have hwt : dTs t = Cond.code t.2.1 t.2.2.1 t.2.2.2.1 t.2.2.2.2 :: dTB := by
      show dWCh t (dHH t) :: dTB = _
      rw [hh]; rfl
    have cb := callB_of (R := room_1) (own := "ItemJudgeLaw") (index := i) (y := t.2.1) (rm := { frames := 40, cells := h1.1 - h.1, slots := h1.2.1 - h.2.1, locals := 40 * 64 }) as.length hts hG hwt rfl rfl (hts _ a3) (hts _ a1) ⟨k4.1, k4.2, k5⟩ hrm
    exact hfin _ (vx_runV (C := t.2.1.cls) (b := b a) (As := as.map (dv b)) ⟨C.1.1, C.1.2.1, C.1.2.2.2.1, C.1.2.2.2.2.1, hts⟩ hM ⟨cb, hts _ a2, hts _ a4⟩ hpre rfl (List.length_map _) hls rfl (lv_room hst) hdg hcs)
  | cons z zs =>
    have hwt : dTs t = Cond.codeWith t.2.1 t.2.2.1 t.2.2.2.1 t.2.2.2.2 (z :: zs) :: dTB := by
      show dWCh t (dHH t) :: dTB = _
      rw [hh]; rfl
    have hG4 : ∀ w ∈ [Cond.methodLink "ItemJudgeLaw" i t.2.1, Cond.instanceMethod t.2.1, Cond.selects t.2.1.cls t.2.1 t.2.1, Cond.initialized t.2.1.cls], w ∈ lw_tbl ∧ ((w.onTables && w.keeps) = true ∨ ∃ ty, w = .arrayClass ty) := by
      intro w hw
      simp only [List.mem_cons, List.not_mem_nil, or_false] at hw
      rcases hw with rfl | rfl | rfl | rfl
      · exact ⟨a1, Or.inl rfl⟩
      · exact ⟨a2, Or.inl rfl⟩
      · exact ⟨a4, Or.inl rfl⟩
      · exact ⟨a3, Or.inl rfl⟩
    have hGV : GoodIn lw_tbl (wsV "ItemJudgeLaw" i t.2.1.cls t.2.1 (dTs t)) := by
      intro w hw9
      unfold wsV at hw9
      rcases List.mem_append.mp hw9 with g | g
      · exact hG4 w (by simpa using g)
      · exact hG w g
    have cw := vx_cwVW (R := room_1) (own := "ItemJudgeLaw") (C := t.2.1.cls) (index := i) (y := t.2.1) (rm := { frames := 40, cells := h1.1 - h.1, slots := h1.2.1 - h.2.1, locals := 40 * 64 }) as.length hts hGV hwt rfl rfl ⟨rfl, k4.1, k4.2, k5⟩ hrm
    exact hfin _ (vx_runVX (C := t.2.1.cls) (b := b a) (As := as.map (dv b)) ⟨C.1.1, C.1.2.1, C.1.2.2.2.1, C.1.2.2.2.2.1, hts⟩ hM cw hpre rfl (List.length_map _) hls rfl (lv_room hst) hdg hcs)
/-- the end -/
theorem lw_end (C : lwC p s m meth c bq L xs D b) (hc : h.1 ≤ 211239) (hs : h.2.1 ≤ 8468520) : lwG p l e s m below meth c bq D b h 392 ls [] := by
  intro H locs hR hS
  refine lv_iconst C.1.1 C.1.2.1 (n := 1) (v := 1) (by decide +kernel) (by decide) ?_
  refine va_forget (fun q hq => by rw [← C.2.1]; exact hS.2.2 q hq) ?_
  refine W.widen hc hs ?_
  exact lw_ret C.1.1 C.1.2.1 C.1.2.2.1 C.1.2.2.2.2.2.2.2.2.1 (by decide +kernel)
/-- the loop's head -/
theorem lw_head (C : lwC p s m meth c bq L xs D b) {i : Int32} (l0 : ls[0]? = some (.val (.ref bq))) (l3 : ls[3]? = some (.val (.int i))) (kt : Int32.ofNat L - 6 < i → lwG p l e s m below meth c bq D b h 392 ls []) (kf : ¬ Int32.ofNat L - 6 < i → lwG p l e s m below meth c bq D b h 27 ls []) : lwG p l e s m below meth c bq D b h 18 ls [] := by
  refine lw_iload C (n := 3) (by decide +kernel) rfl l3 ?_
  refine lw_aload C (n := 0) (by decide +kernel) rfl l0 ?_
  refine lw_alen C (by decide +kernel) ?_
  refine lw_bipush C (n := 6) (v := 6) (by decide +kernel) (by decide) ?_
  refine lw_isub C (by decide +kernel) ?_
  intro H locs hR hS
  exact lv_icmp_gt C.1.1 C.1.2.1 (off := 368) (tgt := 392) (by decide +kernel) (by decide) (fun q => kt q H locs hR hS) (fun q => kf q H locs hR hS)
/-- behind a call -/
theorem lw_tail (C : lwC p s m meth c bq 6 xs D b) {r1 r2 : Nat} (hl : lv_has ls 4 [(0, .ref bq), (1, .ref r1), (2, .ref r2), (3, .int 0)]) (hc : h.1 ≤ 211239) (hs : h.2.1 ≤ 8468520) : lwG p l e s m below meth c bq D b h 386 ls [] := by
  intro H locs hR hS
  refine lv_iinc C.1.1 C.1.2.1 (i := 3) (k := 3) (n := 6) (x := 0) (v := 6) (by decide +kernel) hl rfl (by decide) (by decide) rfl fun ls2 hl2 => ?_
  refine lv_goto C.1.1 C.1.2.1 (off := (-371)) (tgt := 18) (by decide +kernel) (by decide) ?_
  exact lw_head C (lv_at hl2 1 rfl) (lv_at hl2 0 rfl) (fun _ => lw_end C hc hs) (fun q => absurd (by decide) q) H locs hR hS
def lw_ck (pc : Nat) (n : Int) : Bool := decide (decode code pc = .ok (.aload_n 0, 1)) && (decide (decode code (pc + 1) = .ok (.iload_n 3, 1)) && (decide (decode code (pc + 2) = .ok (.iconst n, 1)) && (decide (decode code (pc + 3) = .ok (.iadd, 1)) && decide (decode code (pc + 4) = .ok (.iaload, 1)))))
/-- one int of the script -/
theorem lw_arg (C : lwC p s m meth c bq 6 xs D b) {r1 r2 k : Nat} (n : Int) (hl : lv_has ls 4 [(0, .ref bq), (1, .ref r1), (2, .ref r2), (3, .int 0)]) (hk : lw_ck pc n = true) (hin : vp_in (0 + Int32.ofInt n) 6) (he : (0 + Int32.ofInt n).toNatClampNeg = k) (kk : lwG p l e s m below meth c bq D b h (pc + 5) ls (.int (xs k) :: st)) : lwG p l e s m below meth c bq D b h pc ls st := by
  simp only [lw_ck, Bool.and_eq_true, decide_eq_true_eq] at hk
  obtain ⟨d1, d2, d3, d4, d5⟩ := hk
  refine lw_aload C d1 rfl (lv_at hl 0 rfl) ?_
  refine lw_iload C d2 rfl (lv_at hl 3 rfl) ?_
  refine lw_iconst C d3 ?_
  refine lw_iadd C d4 ?_
  exact lw_iald C d5 hin he kk

set_option maxRecDepth 100000 in
theorem dM_283 : dMis[283]? = some (12, yX12_init, cX12_init, 1, none) := by rfl
theorem dPd_283 : (parseMethodDescriptor yX12_init.desc).map (fun d => d.parameters.length) = some 0 := by decide +kernel
set_option maxRecDepth 100000 in
theorem dM_284 : dMis[284]? = some (12, yX12_feed, cX12_feed, 6, (some .int)) := by rfl
theorem dPd_284 : (parseMethodDescriptor yX12_feed.desc).map (fun d => d.parameters.length) = some 5 := by decide +kernel
set_option maxRecDepth 100000 in
theorem dM_285 : dMis[285]? = some (12, yX12_end, cX12_end, 2, (some .int)) := by rfl
theorem dPd_285 : (parseMethodDescriptor yX12_end.desc).map (fun d => d.parameters.length) = some 1 := by decide +kernel
set_option maxRecDepth 100000 in
theorem dM_286 : dMis[286]? = some (12, yX12_grammar, cX12_grammar, 5, (some .int)) := by rfl
theorem dPd_286 : (parseMethodDescriptor yX12_grammar.desc).map (fun d => d.parameters.length) = some 0 := by decide +kernel
set_option maxRecDepth 100000 in
theorem dM_287 : dMis[287]? = some (12, yX12_place, cX12_place, 1, (some .int)) := by rfl
theorem dPd_287 : (parseMethodDescriptor yX12_place.desc).map (fun d => d.parameters.length) = some 0 := by decide +kernel
set_option maxRecDepth 100000 in
theorem dM_288 : dMis[288]? = some (12, yX12_rule, cX12_rule, 4, (some .int)) := by rfl
theorem dPd_288 : (parseMethodDescriptor yX12_rule.desc).map (fun d => d.parameters.length) = some 2 := by decide +kernel
set_option maxRecDepth 100000 in
theorem dM_289 : dMis[289]? = some (12, yX12_item, cX12_item, 2, (some .int)) := by rfl
theorem dPd_289 : (parseMethodDescriptor yX12_item.desc).map (fun d => d.parameters.length) = some 0 := by decide +kernel
set_option maxRecDepth 100000 in
theorem dM_290 : dMis[290]? = some (12, yX12_node, cX12_node, 3, (some .long)) := by rfl
theorem dPd_290 : (parseMethodDescriptor yX12_node.desc).map (fun d => d.parameters.length) = some 2 := by decide +kernel
set_option maxRecDepth 100000 in
theorem dM_291 : dMis[291]? = some (12, yX12_judge, cX12_judge, 4, (some .int)) := by rfl
theorem dPd_291 : (parseMethodDescriptor yX12_judge.desc).map (fun d => d.parameters.length) = some 2 := by decide +kernel
set_option maxRecDepth 100000 in
theorem dM_292 : dMis[292]? = some (12, yX12_write, cX12_write, 2, (some .int)) := by rfl
theorem dPd_292 : (parseMethodDescriptor yX12_write.desc).map (fun d => d.parameters.length) = some 1 := by decide +kernel
set_option maxRecDepth 100000 in
theorem dM_293 : dMis[293]? = some (12, yX12_shorten, cX12_shorten, 2, (some .int)) := by rfl
theorem dPd_293 : (parseMethodDescriptor yX12_shorten.desc).map (fun d => d.parameters.length) = some 1 := by decide +kernel
set_option maxRecDepth 100000 in
theorem dM_294 : dMis[294]? = some (12, yX12_out, cX12_out, 2, (some .int)) := by rfl
theorem dPd_294 : (parseMethodDescriptor yX12_out.desc).map (fun d => d.parameters.length) = some 1 := by decide +kernel
set_option maxRecDepth 100000 in
theorem dM_305 : dMis[305]? = some (13, yX13_init, cX13_init, 1, none) := by rfl
theorem dPd_305 : (parseMethodDescriptor yX13_init.desc).map (fun d => d.parameters.length) = some 0 := by decide +kernel
set_option maxRecDepth 100000 in
theorem dM_306 : dMis[306]? = some (13, yX13_feed, cX13_feed, 9, (some .int)) := by rfl
theorem dPd_306 : (parseMethodDescriptor yX13_feed.desc).map (fun d => d.parameters.length) = some 5 := by decide +kernel
set_option maxRecDepth 100000 in
theorem dM_307 : dMis[307]? = some (13, yX13_end, cX13_end, 2, (some .int)) := by rfl
theorem dPd_307 : (parseMethodDescriptor yX13_end.desc).map (fun d => d.parameters.length) = some 1 := by decide +kernel
set_option maxRecDepth 100000 in
theorem dM_434 : dMis[434]? = some (13, yX13_item, cX13_item, 6, (some .int)) := by rfl
theorem dPd_434 : (parseMethodDescriptor yX13_item.desc).map (fun d => d.parameters.length) = some 0 := by decide +kernel
set_option maxRecDepth 100000 in
theorem dM_435 : dMis[435]? = some (13, yX13_node, cX13_node, 5, (some .long)) := by rfl
theorem dPd_435 : (parseMethodDescriptor yX13_node.desc).map (fun d => d.parameters.length) = some 2 := by decide +kernel
set_option maxRecDepth 100000 in
theorem dM_501 : dMis[501]? = some (13, yX13_grammar, cX13_grammar, 3, (some .int)) := by rfl
theorem dPd_501 : (parseMethodDescriptor yX13_grammar.desc).map (fun d => d.parameters.length) = some 0 := by decide +kernel
set_option maxRecDepth 100000 in
theorem dM_502 : dMis[502]? = some (13, yX13_place, cX13_place, 1, (some .int)) := by rfl
theorem dPd_502 : (parseMethodDescriptor yX13_place.desc).map (fun d => d.parameters.length) = some 0 := by decide +kernel
set_option maxRecDepth 100000 in
theorem dM_504 : dMis[504]? = some (13, yX13_rule, cX13_rule, 7, (some .int)) := by rfl
theorem dPd_504 : (parseMethodDescriptor yX13_rule.desc).map (fun d => d.parameters.length) = some 2 := by decide +kernel
set_option maxRecDepth 100000 in
theorem dM_505 : dMis[505]? = some (13, yX13_judge, cX13_judge, 3, (some .int)) := by rfl
theorem dPd_505 : (parseMethodDescriptor yX13_judge.desc).map (fun d => d.parameters.length) = some 2 := by decide +kernel
set_option maxRecDepth 100000 in
theorem dM_516 : dMis[516]? = some (13, yX13_write, cX13_write, 5, (some .int)) := by rfl
theorem dPd_516 : (parseMethodDescriptor yX13_write.desc).map (fun d => d.parameters.length) = some 1 := by decide +kernel
set_option maxRecDepth 100000 in
theorem dM_521 : dMis[521]? = some (13, yX13_shorten, cX13_shorten, 2, (some .int)) := by rfl
theorem dPd_521 : (parseMethodDescriptor yX13_shorten.desc).map (fun d => d.parameters.length) = some 1 := by decide +kernel
set_option maxRecDepth 100000 in
theorem dM_522 : dMis[522]? = some (13, yX13_out, cX13_out, 2, (some .int)) := by rfl
theorem dPd_522 : (parseMethodDescriptor yX13_out.desc).map (fun d => d.parameters.length) = some 1 := by decide +kernel
theorem lw_r_kh0 : kh0.1 ≤ 211239 ∧ kh0.2.1 ≤ 8468520 := by decide +kernel
theorem lw_r_kh11 : kh11.1 ≤ 211239 ∧ kh11.2.1 ≤ 8468520 := by decide +kernel
theorem lw_r_kh12 : kh12.1 ≤ 211239 ∧ kh12.2.1 ≤ 8468520 := by decide +kernel
theorem lw_r_kh19 : kh19.1 ≤ 211239 ∧ kh19.2.1 ≤ 8468520 := by decide +kernel
theorem lw_r_kh20 : kh20.1 ≤ 211239 ∧ kh20.2.1 ≤ 8468520 := by decide +kernel
theorem lw_r_kh21 : kh21.1 ≤ 211239 ∧ kh21.2.1 ≤ 8468520 := by decide +kernel
theorem lw_r_kh22 : kh22.1 ≤ 211239 ∧ kh22.2.1 ≤ 8468520 := by decide +kernel
theorem lw_r_kh27 : kh27.1 ≤ 211239 ∧ kh27.2.1 ≤ 8468520 := by decide +kernel
theorem lw_c_feed (hfl : l.stackTraces = false) (C : lwC p s m meth c bq 6 xs D b) (hw : hwf kh19) (hl : lv_has ls 4 [(0, .ref bq), (1, .ref (b 0)), (2, .ref (b 126)), (3, .int 0)]) : lwG p l e s m below meth c bq D b kh19 92 ls [] := by
  obtain ⟨A, hA⟩ : ∃ A : Nat → Nat, ∀ k, xs k = Int32.ofNat (A k) := ⟨fun k => (xs k).toBitVec.toNat, fun k => lw_nat _⟩
  obtain ⟨h9, e9, z1, z2, w9, a9⟩ := ksx_feed (A 1) (A 2) (A 3) (A 4) (A 5) 0 hw
  obtain ⟨h8, e8, y1, y2⟩ := ksm_feed (A 1) (A 2) (A 3) (A 4) (A 5) 0 h9 w9 z1 z2 a9
  have r9 : h9.1 ≤ 211239 ∧ h9.2.1 ≤ 8468520 := ⟨by rw [z1]; exact lw_r_kh19.1, by rw [z2]; exact lw_r_kh19.2⟩
  have r8 : h8.1 ≤ 211239 ∧ h8.2.1 ≤ 8468520 := ⟨by rw [y1]; exact lw_r_kh19.1, by rw [y2]; exact lw_r_kh19.2⟩
  have b9 : ∃ n ct, hat h9 126 = some (17, n, ct) := by rw [a9 126 (by decide)]; exact lwHk_of (h := kh19) (a := 126) (k := 17) (by decide +kernel)
  refine lw_aload C (n := 1) (by decide +kernel) rfl (lv_at hl 1 rfl) ?_
  refine lw_arg C (k := 1) 1 hl (by decide +kernel) (by unfold vp_in; decide) (by decide) ?_
  refine lw_arg C (k := 2) 2 hl (by decide +kernel) (by unfold vp_in; decide) (by decide) ?_
  refine lw_arg C (k := 3) 3 hl (by decide +kernel) (by unfold vp_in; decide) (by decide) ?_
  refine lw_arg C (k := 4) 4 hl (by decide +kernel) (by unfold vp_in; decide) (by decide) ?_
  refine lw_arg C (k := 5) 5 hl (by decide +kernel) (by unfold vp_in; decide) (by decide) ?_
  rw [hA 1, hA 2, hA 3, hA 4, hA 5]
  refine lw_virt C (y := 284) (t := (12, yX12_feed, cX12_feed, 6, (some .int))) (as := [.inl (A 1), .inl (A 2), .inl (A 3), .inl (A 4), .inl (A 5)]) (L0 := [(0, .inr (.inr 1)), (1, .inl (A 1)), (2, .inl (A 2)), (3, .inl (A 3)), (4, .inl (A 4)), (5, .inl (A 5))]) (a := 0) (v := some (.inl 20)) (h1 := h9) (st := []) (by decide +kernel) dM_284 dLm_13 dLi_13 dLn_13 dLs_13 (by decide +kernel) dPd_284 (lwHk_of (h := kh19) (a := 0) (k := 16) (by decide +kernel)) (by simp [dsz, disl]) rfl (dG_eq hfl (dPok2_of dProg_ok) e9 hw) rfl hl.1 (by decide) r9.1 r9.2 ?_
  show lwG p l e s m below meth c bq D b h9 (118 + 3) ls [.int (Int32.ofNat 20)]
  refine lw_aload C (n := 2) (by decide +kernel) rfl (lv_at hl 2 rfl) ?_
  refine lw_arg C (k := 1) 1 hl (by decide +kernel) (by unfold vp_in; decide) (by decide) ?_
  refine lw_arg C (k := 2) 2 hl (by decide +kernel) (by unfold vp_in; decide) (by decide) ?_
  refine lw_arg C (k := 3) 3 hl (by decide +kernel) (by unfold vp_in; decide) (by decide) ?_
  refine lw_arg C (k := 4) 4 hl (by decide +kernel) (by unfold vp_in; decide) (by decide) ?_
  refine lw_arg C (k := 5) 5 hl (by decide +kernel) (by unfold vp_in; decide) (by decide) ?_
  rw [hA 1, hA 2, hA 3, hA 4, hA 5]
  refine lw_virt C (y := 306) (t := (13, yX13_feed, cX13_feed, 9, (some .int))) (as := [.inl (A 1), .inl (A 2), .inl (A 3), .inl (A 4), .inl (A 5)]) (L0 := [(0, .inr (.inr 127)), (1, .inl (A 1)), (2, .inl (A 2)), (3, .inl (A 3)), (4, .inl (A 4)), (5, .inl (A 5))]) (a := 126) (v := some (.inl 20)) (h1 := h8) (st := [.int (Int32.ofNat 20)]) (by decide +kernel) dM_306 dLm_17 dLi_17 dLn_17 dLs_17 (by decide +kernel) dPd_306 b9 (by simp [dsz, disl]) rfl (dG_eq hfl (dPok2_of dProg_ok) e8 w9) rfl hl.1 (by decide) r8.1 r8.2 ?_
  show lwG p l e s m below meth c bq D b h8 (147 + 3) ls [.int (Int32.ofNat 20), .int (Int32.ofNat 20)]
  intro H locs hR hS
  refine lv_icmp_eq C.1.1 C.1.2.1 (off := 236) (tgt := 386) (by decide +kernel) (by decide) (fun _ => ?_) (fun q => absurd rfl q)
  exact lw_tail C hl r8.1 r8.2 H locs hR hS
theorem lw_c_end (hfl : l.stackTraces = false) (C : lwC p s m meth c bq 6 xs D b) (hw : hwf kh19) (hl : lv_has ls 4 [(0, .ref bq), (1, .ref (b 0)), (2, .ref (b 126)), (3, .int 0)]) : lwG p l e s m below meth c bq D b kh19 155 ls [] := by
  obtain ⟨A, hA⟩ : ∃ A : Nat → Nat, ∀ k, xs k = Int32.ofNat (A k) := ⟨fun k => (xs k).toBitVec.toNat, fun k => lw_nat _⟩
  refine lw_aload C (n := 1) (by decide +kernel) rfl (lv_at hl 1 rfl) ?_
  refine lw_arg C (k := 1) 1 hl (by decide +kernel) (by unfold vp_in; decide) (by decide) ?_
  rw [hA 1]
  refine lw_virt C (y := 285) (t := (12, yX12_end, cX12_end, 2, (some .int))) (as := [.inl (A 1)]) (L0 := [(0, .inr (.inr 1)), (1, .inl (A 1))]) (a := 0) (v := some (.inl 4294967295)) (h1 := kh19) (st := []) (by decide +kernel) dM_285 dLm_18 dLi_18 dLn_18 dLs_18 (by decide +kernel) dPd_285 (lwHk_of (h := kh19) (a := 0) (k := 16) (by decide +kernel)) (by simp [dsz, disl]) rfl (dG_eq hfl (dPok2_of dProg_ok) (ksx_end (A 1) 0) hw) rfl hl.1 (by decide) lw_r_kh19.1 lw_r_kh19.2 ?_
  show lwG p l e s m below meth c bq D b kh19 (161 + 3) ls [.int (Int32.ofNat 4294967295)]
  refine lw_aload C (n := 2) (by decide +kernel) rfl (lv_at hl 2 rfl) ?_
  refine lw_arg C (k := 1) 1 hl (by decide +kernel) (by unfold vp_in; decide) (by decide) ?_
  rw [hA 1]
  refine lw_virt C (y := 307) (t := (13, yX13_end, cX13_end, 2, (some .int))) (as := [.inl (A 1)]) (L0 := [(0, .inr (.inr 127)), (1, .inl (A 1))]) (a := 126) (v := some (.inl 4294967295)) (h1 := kh19) (st := [.int (Int32.ofNat 4294967295)]) (by decide +kernel) dM_307 dLm_22 dLi_22 dLn_22 dLs_22 (by decide +kernel) dPd_307 (lwHk_of (h := kh19) (a := 126) (k := 17) (by decide +kernel)) (by simp [dsz, disl]) rfl (dG_eq hfl (dPok2_of dProg_ok) (ksm_end (A 1) 0) hw) rfl hl.1 (by decide) lw_r_kh19.1 lw_r_kh19.2 ?_
  show lwG p l e s m below meth c bq D b kh19 (170 + 3) ls [.int (Int32.ofNat 4294967295), .int (Int32.ofNat 4294967295)]
  intro H locs hR hS
  refine lv_icmp_eq C.1.1 C.1.2.1 (off := 213) (tgt := 386) (by decide +kernel) (by decide) (fun _ => ?_) (fun q => absurd rfl q)
  exact lw_tail C hl lw_r_kh19.1 lw_r_kh19.2 H locs hR hS
theorem lw_c_grammar (hfl : l.stackTraces = false) (C : lwC p s m meth c bq 6 xs D b) (hw : hwf kh19) (hl : lv_has ls 4 [(0, .ref bq), (1, .ref (b 0)), (2, .ref (b 126)), (3, .int 0)]) : lwG p l e s m below meth c bq D b kh19 178 ls [] := by
  obtain ⟨A, hA⟩ : ∃ A : Nat → Nat, ∀ k, xs k = Int32.ofNat (A k) := ⟨fun k => (xs k).toBitVec.toNat, fun k => lw_nat _⟩
  refine lw_aload C (n := 1) (by decide +kernel) rfl (lv_at hl 1 rfl) ?_
  refine lw_virt C (y := 286) (t := (12, yX12_grammar, cX12_grammar, 5, (some .int))) (as := []) (L0 := [(0, .inr (.inr 1))]) (a := 0) (v := some (.inl 0)) (h1 := kh22) (st := []) (by decide +kernel) dM_286 dLm_23 dLi_23 dLn_23 dLs_23 (by decide +kernel) dPd_286 (lwHk_of (h := kh19) (a := 0) (k := 16) (by decide +kernel)) (by simp [dsz, disl]) rfl (kpg0 l hfl D b hw) rfl hl.1 (by decide) lw_r_kh22.1 lw_r_kh22.2 ?_
  show lwG p l e s m below meth c bq D b kh22 (179 + 3) ls [.int (Int32.ofNat 0)]
  refine lw_aload C (n := 2) (by decide +kernel) rfl (lv_at hl 2 rfl) ?_
  refine lw_virt C (y := 501) (t := (13, yX13_grammar, cX13_grammar, 3, (some .int))) (as := []) (L0 := [(0, .inr (.inr 127))]) (a := 126) (v := some (.inl 0)) (h1 := kh27) (st := [.int (Int32.ofNat 0)]) (by decide +kernel) dM_501 dLm_27 dLi_27 dLn_27 dLs_27 (by decide +kernel) dPd_501 (lwHk_of (h := kh22) (a := 126) (k := 17) (by decide +kernel)) (by simp [dsz, disl]) rfl (kqg3 l hfl D b (kpg0 l hfl D b hw).1.2.2) rfl hl.1 (by decide) lw_r_kh27.1 lw_r_kh27.2 ?_
  show lwG p l e s m below meth c bq D b kh27 (183 + 3) ls [.int (Int32.ofNat 0), .int (Int32.ofNat 0)]
  intro H locs hR hS
  refine lv_icmp_eq C.1.1 C.1.2.1 (off := 200) (tgt := 386) (by decide +kernel) (by decide) (fun _ => ?_) (fun q => absurd rfl q)
  exact lw_tail C hl lw_r_kh27.1 lw_r_kh27.2 H locs hR hS
theorem lw_c_place (hfl : l.stackTraces = false) (C : lwC p s m meth c bq 6 xs D b) (hw : hwf kh19) (hl : lv_has ls 4 [(0, .ref bq), (1, .ref (b 0)), (2, .ref (b 126)), (3, .int 0)]) : lwG p l e s m below meth c bq D b kh19 191 ls [] := by
  obtain ⟨A, hA⟩ : ∃ A : Nat → Nat, ∀ k, xs k = Int32.ofNat (A k) := ⟨fun k => (xs k).toBitVec.toNat, fun k => lw_nat _⟩
  refine lw_aload C (n := 1) (by decide +kernel) rfl (lv_at hl 1 rfl) ?_
  refine lw_virt C (y := 287) (t := (12, yX12_place, cX12_place, 1, (some .int))) (as := []) (L0 := [(0, .inr (.inr 1))]) (a := 0) (v := some (.inl 4294967295)) (h1 := kh19) (st := []) (by decide +kernel) dM_287 dLm_28 dLi_28 dLn_28 dLs_28 (by decide +kernel) dPd_287 (lwHk_of (h := kh19) (a := 0) (k := 16) (by decide +kernel)) (by simp [dsz, disl]) rfl (dG_eq hfl (dPok2_of dProg_ok) (ksx_place  0) hw) rfl hl.1 (by decide) lw_r_kh19.1 lw_r_kh19.2 ?_
  show lwG p l e s m below meth c bq D b kh19 (192 + 3) ls [.int (Int32.ofNat 4294967295)]
  refine lw_aload C (n := 2) (by decide +kernel) rfl (lv_at hl 2 rfl) ?_
  refine lw_virt C (y := 502) (t := (13, yX13_place, cX13_place, 1, (some .int))) (as := []) (L0 := [(0, .inr (.inr 127))]) (a := 126) (v := some (.inl 4294967295)) (h1 := kh19) (st := [.int (Int32.ofNat 4294967295)]) (by decide +kernel) dM_502 dLm_31 dLi_31 dLn_31 dLs_31 (by decide +kernel) dPd_502 (lwHk_of (h := kh19) (a := 126) (k := 17) (by decide +kernel)) (by simp [dsz, disl]) rfl (dG_eq hfl (dPok2_of dProg_ok) (ksm_place  0) hw) rfl hl.1 (by decide) lw_r_kh19.1 lw_r_kh19.2 ?_
  show lwG p l e s m below meth c bq D b kh19 (196 + 3) ls [.int (Int32.ofNat 4294967295), .int (Int32.ofNat 4294967295)]
  intro H locs hR hS
  refine lv_icmp_eq C.1.1 C.1.2.1 (off := 187) (tgt := 386) (by decide +kernel) (by decide) (fun _ => ?_) (fun q => absurd rfl q)
  exact lw_tail C hl lw_r_kh19.1 lw_r_kh19.2 H locs hR hS
theorem lw_c_rule (hfl : l.stackTraces = false) (C : lwC p s m meth c bq 6 xs D b) (hw : hwf kh19) (hl : lv_has ls 4 [(0, .ref bq), (1, .ref (b 0)), (2, .ref (b 126)), (3, .int 0)]) : lwG p l e s m below meth c bq D b kh19 204 ls [] := by
  obtain ⟨A, hA⟩ : ∃ A : Nat → Nat, ∀ k, xs k = Int32.ofNat (A k) := ⟨fun k => (xs k).toBitVec.toNat, fun k => lw_nat _⟩
  refine lw_aload C (n := 1) (by decide +kernel) rfl (lv_at hl 1 rfl) ?_
  refine lw_arg C (k := 1) 1 hl (by decide +kernel) (by unfold vp_in; decide) (by decide) ?_
  refine lw_arg C (k := 2) 2 hl (by decide +kernel) (by unfold vp_in; decide) (by decide) ?_
  rw [hA 1, hA 2]
  refine lw_virt C (y := 288) (t := (12, yX12_rule, cX12_rule, 4, (some .int))) (as := [.inl (A 1), .inl (A 2)]) (L0 := [(0, .inr (.inr 1)), (1, .inl (A 1)), (2, .inl (A 2))]) (a := 0) (v := some (.inl 4294967295)) (h1 := kh19) (st := []) (by decide +kernel) dM_288 dLm_32 dLi_32 dLn_32 dLs_32 (by decide +kernel) dPd_288 (lwHk_of (h := kh19) (a := 0) (k := 16) (by decide +kernel)) (by simp [dsz, disl]) rfl (dG_eq hfl (dPok2_of dProg_ok) (ksx_rule (A 1) (A 2) 0) hw) rfl hl.1 (by decide) lw_r_kh19.1 lw_r_kh19.2 ?_
  show lwG p l e s m below meth c bq D b kh19 (215 + 3) ls [.int (Int32.ofNat 4294967295)]
  refine lw_aload C (n := 2) (by decide +kernel) rfl (lv_at hl 2 rfl) ?_
  refine lw_arg C (k := 1) 1 hl (by decide +kernel) (by unfold vp_in; decide) (by decide) ?_
  refine lw_arg C (k := 2) 2 hl (by decide +kernel) (by unfold vp_in; decide) (by decide) ?_
  rw [hA 1, hA 2]
  refine lw_virt C (y := 504) (t := (13, yX13_rule, cX13_rule, 7, (some .int))) (as := [.inl (A 1), .inl (A 2)]) (L0 := [(0, .inr (.inr 127)), (1, .inl (A 1)), (2, .inl (A 2))]) (a := 126) (v := some (.inl 4294967295)) (h1 := kh19) (st := [.int (Int32.ofNat 4294967295)]) (by decide +kernel) dM_504 dLm_36 dLi_36 dLn_36 dLs_36 (by decide +kernel) dPd_504 (lwHk_of (h := kh19) (a := 126) (k := 17) (by decide +kernel)) (by simp [dsz, disl]) rfl (dG_eq hfl (dPok2_of dProg_ok) (ksm_rule (A 1) (A 2) 0) hw) rfl hl.1 (by decide) lw_r_kh19.1 lw_r_kh19.2 ?_
  show lwG p l e s m below meth c bq D b kh19 (229 + 3) ls [.int (Int32.ofNat 4294967295), .int (Int32.ofNat 4294967295)]
  intro H locs hR hS
  refine lv_icmp_eq C.1.1 C.1.2.1 (off := 154) (tgt := 386) (by decide +kernel) (by decide) (fun _ => ?_) (fun q => absurd rfl q)
  exact lw_tail C hl lw_r_kh19.1 lw_r_kh19.2 H locs hR hS
theorem lw_c_item (hfl : l.stackTraces = false) (C : lwC p s m meth c bq 6 xs D b) (hw : hwf kh19) (hl : lv_has ls 4 [(0, .ref bq), (1, .ref (b 0)), (2, .ref (b 126)), (3, .int 0)]) : lwG p l e s m below meth c bq D b kh19 237 ls [] := by
  obtain ⟨A, hA⟩ : ∃ A : Nat → Nat, ∀ k, xs k = Int32.ofNat (A k) := ⟨fun k => (xs k).toBitVec.toNat, fun k => lw_nat _⟩
  refine lw_aload C (n := 1) (by decide +kernel) rfl (lv_at hl 1 rfl) ?_
  refine lw_virt C (y := 289) (t := (12, yX12_item, cX12_item, 2, (some .int))) (as := []) (L0 := [(0, .inr (.inr 1))]) (a := 0) (v := some (.inl 4294967294)) (h1 := kh20) (st := []) (by decide +kernel) dM_289 dLm_37 dLi_37 dLn_37 dLs_37 (by decide +kernel) dPd_289 (lwHk_of (h := kh19) (a := 0) (k := 16) (by decide +kernel)) (by simp [dsz, disl]) rfl (kig0 l hfl D b hw) rfl hl.1 (by decide) lw_r_kh20.1 lw_r_kh20.2 ?_
  show lwG p l e s m below meth c bq D b kh20 (238 + 3) ls [.int (Int32.ofNat 4294967294)]
  refine lw_aload C (n := 2) (by decide +kernel) rfl (lv_at hl 2 rfl) ?_
  refine lw_virt C (y := 434) (t := (13, yX13_item, cX13_item, 6, (some .int))) (as := []) (L0 := [(0, .inr (.inr 127))]) (a := 126) (v := some (.inl 4294967294)) (h1 := kh21) (st := [.int (Int32.ofNat 4294967294)]) (by decide +kernel) dM_434 dLm_40 dLi_40 dLn_40 dLs_40 (by decide +kernel) dPd_434 (lwHk_of (h := kh20) (a := 126) (k := 17) (by decide +kernel)) (by simp [dsz, disl]) rfl (kjg0 l hfl D b (kig0 l hfl D b hw).1.2.2) rfl hl.1 (by decide) lw_r_kh21.1 lw_r_kh21.2 ?_
  show lwG p l e s m below meth c bq D b kh21 (242 + 3) ls [.int (Int32.ofNat 4294967294), .int (Int32.ofNat 4294967294)]
  intro H locs hR hS
  refine lv_icmp_eq C.1.1 C.1.2.1 (off := 141) (tgt := 386) (by decide +kernel) (by decide) (fun _ => ?_) (fun q => absurd rfl q)
  exact lw_tail C hl lw_r_kh21.1 lw_r_kh21.2 H locs hR hS
theorem lw_c_node (hfl : l.stackTraces = false) (C : lwC p s m meth c bq 6 xs D b) (hw : hwf kh19) (hl : lv_has ls 4 [(0, .ref bq), (1, .ref (b 0)), (2, .ref (b 126)), (3, .int 0)]) : lwG p l e s m below meth c bq D b kh19 250 ls [] := by
  obtain ⟨A, hA⟩ : ∃ A : Nat → Nat, ∀ k, xs k = Int32.ofNat (A k) := ⟨fun k => (xs k).toBitVec.toNat, fun k => lw_nat _⟩
  refine lw_aload C (n := 1) (by decide +kernel) rfl (lv_at hl 1 rfl) ?_
  refine lw_arg C (k := 1) 1 hl (by decide +kernel) (by unfold vp_in; decide) (by decide) ?_
  refine lw_arg C (k := 2) 2 hl (by decide +kernel) (by unfold vp_in; decide) (by decide) ?_
  rw [hA 1, hA 2]
  refine lw_virt C (y := 290) (t := (12, yX12_node, cX12_node, 3, (some .long))) (as := [.inl (A 1), .inl (A 2)]) (L0 := [(0, .inr (.inr 1)), (1, .inl (A 1)), (2, .inl (A 2))]) (a := 0) (v := some (.inr (.inl 18446744073709551615))) (h1 := kh19) (st := []) (by decide +kernel) dM_290 dLm_41 dLi_41 dLn_41 dLs_41 (by decide +kernel) dPd_290 (lwHk_of (h := kh19) (a := 0) (k := 16) (by decide +kernel)) (by simp [dsz, disl]) rfl (dG_eq hfl (dPok2_of dProg_ok) (ksx_node (A 1) (A 2) 0) hw) rfl hl.1 (by decide) lw_r_kh19.1 lw_r_kh19.2 ?_
  show lwG p l e s m below meth c bq D b kh19 (261 + 3) ls [.long (Int64.ofNat 18446744073709551615)]
  refine lw_aload C (n := 2) (by decide +kernel) rfl (lv_at hl 2 rfl) ?_
  refine lw_arg C (k := 1) 1 hl (by decide +kernel) (by unfold vp_in; decide) (by decide) ?_
  refine lw_arg C (k := 2) 2 hl (by decide +kernel) (by unfold vp_in; decide) (by decide) ?_
  rw [hA 1, hA 2]
  refine lw_virt C (y := 435) (t := (13, yX13_node, cX13_node, 5, (some .long))) (as := [.inl (A 1), .inl (A 2)]) (L0 := [(0, .inr (.inr 127)), (1, .inl (A 1)), (2, .inl (A 2))]) (a := 126) (v := some (.inr (.inl 18446744073709551615))) (h1 := kh19) (st := [.long (Int64.ofNat 18446744073709551615)]) (by decide +kernel) dM_435 dLm_45 dLi_45 dLn_45 dLs_45 (by decide +kernel) dPd_435 (lwHk_of (h := kh19) (a := 126) (k := 17) (by decide +kernel)) (by simp [dsz, disl]) rfl (dG_eq hfl (dPok2_of dProg_ok) (ksm_node (A 1) (A 2) 0) hw) rfl hl.1 (by decide) lw_r_kh19.1 lw_r_kh19.2 ?_
  show lwG p l e s m below meth c bq D b kh19 (275 + 3) ls [.long (Int64.ofNat 18446744073709551615), .long (Int64.ofNat 18446744073709551615)]
  intro H locs hR hS
  refine W.lcmp C.1.1 C.1.2.1 (by decide +kernel) ?_
  rw [di_cmp]
  refine lv_if_eq C.1.1 C.1.2.1 (off := 107) (tgt := 386) (by decide +kernel) (by decide) (fun _ => ?_) (fun q => absurd (by decide +kernel) q)
  exact lw_tail C hl lw_r_kh19.1 lw_r_kh19.2 H locs hR hS
theorem lw_c_judge (hfl : l.stackTraces = false) (C : lwC p s m meth c bq 6 xs D b) (hw : hwf kh19) (hl : lv_has ls 4 [(0, .ref bq), (1, .ref (b 0)), (2, .ref (b 126)), (3, .int 0)]) : lwG p l e s m below meth c bq D b kh19 284 ls [] := by
  obtain ⟨A, hA⟩ : ∃ A : Nat → Nat, ∀ k, xs k = Int32.ofNat (A k) := ⟨fun k => (xs k).toBitVec.toNat, fun k => lw_nat _⟩
  refine lw_aload C (n := 1) (by decide +kernel) rfl (lv_at hl 1 rfl) ?_
  refine lw_arg C (k := 1) 1 hl (by decide +kernel) (by unfold vp_in; decide) (by decide) ?_
  refine lw_arg C (k := 2) 2 hl (by decide +kernel) (by unfold vp_in; decide) (by decide) ?_
  rw [hA 1, hA 2]
  refine lw_virt C (y := 291) (t := (12, yX12_judge, cX12_judge, 4, (some .int))) (as := [.inl (A 1), .inl (A 2)]) (L0 := [(0, .inr (.inr 1)), (1, .inl (A 1)), (2, .inl (A 2))]) (a := 0) (v := some (.inl 4294967295)) (h1 := kh19) (st := []) (by decide +kernel) dM_291 dLm_46 dLi_46 dLn_46 dLs_46 (by decide +kernel) dPd_291 (lwHk_of (h := kh19) (a := 0) (k := 16) (by decide +kernel)) (by simp [dsz, disl]) rfl (dG_eq hfl (dPok2_of dProg_ok) (ksx_judge (A 1) (A 2) 0) hw) rfl hl.1 (by decide) lw_r_kh19.1 lw_r_kh19.2 ?_
  show lwG p l e s m below meth c bq D b kh19 (295 + 3) ls [.int (Int32.ofNat 4294967295)]
  refine lw_aload C (n := 2) (by decide +kernel) rfl (lv_at hl 2 rfl) ?_
  refine lw_arg C (k := 1) 1 hl (by decide +kernel) (by unfold vp_in; decide) (by decide) ?_
  refine lw_arg C (k := 2) 2 hl (by decide +kernel) (by unfold vp_in; decide) (by decide) ?_
  rw [hA 1, hA 2]
  refine lw_virt C (y := 505) (t := (13, yX13_judge, cX13_judge, 3, (some .int))) (as := [.inl (A 1), .inl (A 2)]) (L0 := [(0, .inr (.inr 127)), (1, .inl (A 1)), (2, .inl (A 2))]) (a := 126) (v := some (.inl 4294967295)) (h1 := kh19) (st := [.int (Int32.ofNat 4294967295)]) (by decide +kernel) dM_505 dLm_49 dLi_49 dLn_49 dLs_49 (by decide +kernel) dPd_505 (lwHk_of (h := kh19) (a := 126) (k := 17) (by decide +kernel)) (by simp [dsz, disl]) rfl (dG_eq hfl (dPok2_of dProg_ok) (ksm_judge (A 1) (A 2) 0) hw) rfl hl.1 (by decide) lw_r_kh19.1 lw_r_kh19.2 ?_
  show lwG p l e s m below meth c bq D b kh19 (309 + 3) ls [.int (Int32.ofNat 4294967295), .int (Int32.ofNat 4294967295)]
  intro H locs hR hS
  refine lv_icmp_eq C.1.1 C.1.2.1 (off := 74) (tgt := 386) (by decide +kernel) (by decide) (fun _ => ?_) (fun q => absurd rfl q)
  exact lw_tail C hl lw_r_kh19.1 lw_r_kh19.2 H locs hR hS
theorem lw_c_write (hfl : l.stackTraces = false) (C : lwC p s m meth c bq 6 xs D b) (hw : hwf kh19) (hl : lv_has ls 4 [(0, .ref bq), (1, .ref (b 0)), (2, .ref (b 126)), (3, .int 0)]) : lwG p l e s m below meth c bq D b kh19 317 ls [] := by
  obtain ⟨A, hA⟩ : ∃ A : Nat → Nat, ∀ k, xs k = Int32.ofNat (A k) := ⟨fun k => (xs k).toBitVec.toNat, fun k => lw_nat _⟩
  refine lw_aload C (n := 1) (by decide +kernel) rfl (lv_at hl 1 rfl) ?_
  refine lw_arg C (k := 1) 1 hl (by decide +kernel) (by unfold vp_in; decide) (by decide) ?_
  rw [hA 1]
  refine lw_virt C (y := 292) (t := (12, yX12_write, cX12_write, 2, (some .int))) (as := [.inl (A 1)]) (L0 := [(0, .inr (.inr 1)), (1, .inl (A 1))]) (a := 0) (v := some (.inl 4294967295)) (h1 := kh19) (st := []) (by decide +kernel) dM_292 dLm_50 dLi_50 dLn_50 dLs_50 (by decide +kernel) dPd_292 (lwHk_of (h := kh19) (a := 0) (k := 16) (by decide +kernel)) (by simp [dsz, disl]) rfl (dG_eq hfl (dPok2_of dProg_ok) (ksx_write (A 1) 0) hw) rfl hl.1 (by decide) lw_r_kh19.1 lw_r_kh19.2 ?_
  show lwG p l e s m below meth c bq D b kh19 (323 + 3) ls [.int (Int32.ofNat 4294967295)]
  refine lw_aload C (n := 2) (by decide +kernel) rfl (lv_at hl 2 rfl) ?_
  refine lw_arg C (k := 1) 1 hl (by decide +kernel) (by unfold vp_in; decide) (by decide) ?_
  rw [hA 1]
  refine lw_virt C (y := 516) (t := (13, yX13_write, cX13_write, 5, (some .int))) (as := [.inl (A 1)]) (L0 := [(0, .inr (.inr 127)), (1, .inl (A 1))]) (a := 126) (v := some (.inl 4294967295)) (h1 := kh19) (st := [.int (Int32.ofNat 4294967295)]) (by decide +kernel) dM_516 dLm_53 dLi_53 dLn_53 dLs_53 (by decide +kernel) dPd_516 (lwHk_of (h := kh19) (a := 126) (k := 17) (by decide +kernel)) (by simp [dsz, disl]) rfl (dG_eq hfl (dPok2_of dProg_ok) (ksm_write (A 1) 0) hw) rfl hl.1 (by decide) lw_r_kh19.1 lw_r_kh19.2 ?_
  show lwG p l e s m below meth c bq D b kh19 (332 + 3) ls [.int (Int32.ofNat 4294967295), .int (Int32.ofNat 4294967295)]
  intro H locs hR hS
  refine lv_icmp_eq C.1.1 C.1.2.1 (off := 51) (tgt := 386) (by decide +kernel) (by decide) (fun _ => ?_) (fun q => absurd rfl q)
  exact lw_tail C hl lw_r_kh19.1 lw_r_kh19.2 H locs hR hS
theorem lw_c_shorten (hfl : l.stackTraces = false) (C : lwC p s m meth c bq 6 xs D b) (hw : hwf kh19) (hl : lv_has ls 4 [(0, .ref bq), (1, .ref (b 0)), (2, .ref (b 126)), (3, .int 0)]) : lwG p l e s m below meth c bq D b kh19 340 ls [] := by
  obtain ⟨A, hA⟩ : ∃ A : Nat → Nat, ∀ k, xs k = Int32.ofNat (A k) := ⟨fun k => (xs k).toBitVec.toNat, fun k => lw_nat _⟩
  refine lw_aload C (n := 1) (by decide +kernel) rfl (lv_at hl 1 rfl) ?_
  refine lw_arg C (k := 1) 1 hl (by decide +kernel) (by unfold vp_in; decide) (by decide) ?_
  rw [hA 1]
  refine lw_virt C (y := 293) (t := (12, yX12_shorten, cX12_shorten, 2, (some .int))) (as := [.inl (A 1)]) (L0 := [(0, .inr (.inr 1)), (1, .inl (A 1))]) (a := 0) (v := some (.inl 4294967295)) (h1 := kh19) (st := []) (by decide +kernel) dM_293 dLm_54 dLi_54 dLn_54 dLs_54 (by decide +kernel) dPd_293 (lwHk_of (h := kh19) (a := 0) (k := 16) (by decide +kernel)) (by simp [dsz, disl]) rfl (dG_eq hfl (dPok2_of dProg_ok) (ksx_shorten (A 1) 0) hw) rfl hl.1 (by decide) lw_r_kh19.1 lw_r_kh19.2 ?_
  show lwG p l e s m below meth c bq D b kh19 (346 + 3) ls [.int (Int32.ofNat 4294967295)]
  refine lw_aload C (n := 2) (by decide +kernel) rfl (lv_at hl 2 rfl) ?_
  refine lw_arg C (k := 1) 1 hl (by decide +kernel) (by unfold vp_in; decide) (by decide) ?_
  rw [hA 1]
  refine lw_virt C (y := 521) (t := (13, yX13_shorten, cX13_shorten, 2, (some .int))) (as := [.inl (A 1)]) (L0 := [(0, .inr (.inr 127)), (1, .inl (A 1))]) (a := 126) (v := some (.inl 4294967295)) (h1 := kh19) (st := [.int (Int32.ofNat 4294967295)]) (by decide +kernel) dM_521 dLm_57 dLi_57 dLn_57 dLs_57 (by decide +kernel) dPd_521 (lwHk_of (h := kh19) (a := 126) (k := 17) (by decide +kernel)) (by simp [dsz, disl]) rfl (dG_eq hfl (dPok2_of dProg_ok) (ksm_shorten (A 1) 0) hw) rfl hl.1 (by decide) lw_r_kh19.1 lw_r_kh19.2 ?_
  show lwG p l e s m below meth c bq D b kh19 (355 + 3) ls [.int (Int32.ofNat 4294967295), .int (Int32.ofNat 4294967295)]
  intro H locs hR hS
  refine lv_icmp_eq C.1.1 C.1.2.1 (off := 28) (tgt := 386) (by decide +kernel) (by decide) (fun _ => ?_) (fun q => absurd rfl q)
  exact lw_tail C hl lw_r_kh19.1 lw_r_kh19.2 H locs hR hS
theorem lw_c_out (hfl : l.stackTraces = false) (C : lwC p s m meth c bq 6 xs D b) (hw : hwf kh19) (hl : lv_has ls 4 [(0, .ref bq), (1, .ref (b 0)), (2, .ref (b 126)), (3, .int 0)]) : lwG p l e s m below meth c bq D b kh19 363 ls [] := by
  obtain ⟨A, hA⟩ : ∃ A : Nat → Nat, ∀ k, xs k = Int32.ofNat (A k) := ⟨fun k => (xs k).toBitVec.toNat, fun k => lw_nat _⟩
  refine lw_aload C (n := 1) (by decide +kernel) rfl (lv_at hl 1 rfl) ?_
  refine lw_arg C (k := 1) 1 hl (by decide +kernel) (by unfold vp_in; decide) (by decide) ?_
  rw [hA 1]
  refine lw_virt C (y := 294) (t := (12, yX12_out, cX12_out, 2, (some .int))) (as := [.inl (A 1)]) (L0 := [(0, .inr (.inr 1)), (1, .inl (A 1))]) (a := 0) (v := some (.inl 4294967295)) (h1 := kh19) (st := []) (by decide +kernel) dM_294 dLm_58 dLi_58 dLn_58 dLs_58 (by decide +kernel) dPd_294 (lwHk_of (h := kh19) (a := 0) (k := 16) (by decide +kernel)) (by simp [dsz, disl]) rfl (dG_eq hfl (dPok2_of dProg_ok) (ksx_out (A 1) 0) hw) rfl hl.1 (by decide) lw_r_kh19.1 lw_r_kh19.2 ?_
  show lwG p l e s m below meth c bq D b kh19 (369 + 3) ls [.int (Int32.ofNat 4294967295)]
  refine lw_aload C (n := 2) (by decide +kernel) rfl (lv_at hl 2 rfl) ?_
  refine lw_arg C (k := 1) 1 hl (by decide +kernel) (by unfold vp_in; decide) (by decide) ?_
  rw [hA 1]
  refine lw_virt C (y := 522) (t := (13, yX13_out, cX13_out, 2, (some .int))) (as := [.inl (A 1)]) (L0 := [(0, .inr (.inr 127)), (1, .inl (A 1))]) (a := 126) (v := some (.inl 4294967295)) (h1 := kh19) (st := [.int (Int32.ofNat 4294967295)]) (by decide +kernel) dM_522 dLm_61 dLi_61 dLn_61 dLs_61 (by decide +kernel) dPd_522 (lwHk_of (h := kh19) (a := 126) (k := 17) (by decide +kernel)) (by simp [dsz, disl]) rfl (dG_eq hfl (dPok2_of dProg_ok) (ksm_out (A 1) 0) hw) rfl hl.1 (by decide) lw_r_kh19.1 lw_r_kh19.2 ?_
  show lwG p l e s m below meth c bq D b kh19 (378 + 3) ls [.int (Int32.ofNat 4294967295), .int (Int32.ofNat 4294967295)]
  intro H locs hR hS
  refine lv_icmp_eq C.1.1 C.1.2.1 (off := 5) (tgt := 386) (by decide +kernel) (by decide) (fun _ => ?_) (fun q => absurd rfl q)
  exact lw_tail C hl lw_r_kh19.1 lw_r_kh19.2 H locs hR hS
theorem lw_go (hfl : l.stackTraces = false) (C : lwC p s m meth c bq 6 xs D b) (hw : hwf kh19) (hl : lv_has ls 4 [(0, .ref bq), (1, .ref (b 0)), (2, .ref (b 126)), (3, .int 0)]) : lwG p l e s m below meth c bq D b kh19 27 ls [] := by
  refine lw_aload C (n := 0) (by decide +kernel) rfl (lv_at hl 0 rfl) ?_
  refine lw_iload C (n := 3) (by decide +kernel) rfl (lv_at hl 3 rfl) ?_
  refine lw_iald C (k := 0) (by decide +kernel) (by unfold vp_in; decide) (by decide) ?_
  refine lw_bipush C (n := 15) (v := 15) (by decide +kernel) (by decide) ?_
  refine lw_iand C (by decide +kernel) ?_
  generalize xs 0 &&& 15 = v
  intro H locs hR hS
  by_cases hin : v.toInt < 0 ∨ 10 < v.toInt
  · refine lv_tableOut C.1.1 C.1.2.1 (dflt := 353) (lo := 0) (hi := 10) (offs := #[59, 122, 145, 158, 171, 204, 217, 251, 284, 307, 330]) (len := 59) (tgt := 386) (by decide +kernel) hin (by decide) ?_
    exact lw_tail C hl lw_r_kh19.1 lw_r_kh19.2 H locs hR hS
  · obtain ⟨i1, i2⟩ := not_or.mp hin
    have hv : v.toInt = 0 ∨ v.toInt = 1 ∨ v.toInt = 2 ∨ v.toInt = 3 ∨ v.toInt = 4 ∨ v.toInt = 5 ∨ v.toInt = 6 ∨ v.toInt = 7 ∨ v.toInt = 8 ∨ v.toInt = 9 ∨ v.toInt = 10 := by omega
    rcases hv with hv | hv | hv | hv | hv | hv | hv | hv | hv | hv | hv
    · refine lv_tableIn C.1.1 C.1.2.1 (dflt := 353) (lo := 0) (hi := 10) (offs := #[59, 122, 145, 158, 171, 204, 217, 251, 284, 307, 330]) (len := 59) (off := 59) (tgt := 92) (by decide +kernel) i1 i2 (by rw [hv]; rfl) (by decide) ?_
      exact lw_c_feed hfl C hw hl H locs hR hS
    · refine lv_tableIn C.1.1 C.1.2.1 (dflt := 353) (lo := 0) (hi := 10) (offs := #[59, 122, 145, 158, 171, 204, 217, 251, 284, 307, 330]) (len := 59) (off := 122) (tgt := 155) (by decide +kernel) i1 i2 (by rw [hv]; rfl) (by decide) ?_
      exact lw_c_end hfl C hw hl H locs hR hS
    · refine lv_tableIn C.1.1 C.1.2.1 (dflt := 353) (lo := 0) (hi := 10) (offs := #[59, 122, 145, 158, 171, 204, 217, 251, 284, 307, 330]) (len := 59) (off := 145) (tgt := 178) (by decide +kernel) i1 i2 (by rw [hv]; rfl) (by decide) ?_
      exact lw_c_grammar hfl C hw hl H locs hR hS
    · refine lv_tableIn C.1.1 C.1.2.1 (dflt := 353) (lo := 0) (hi := 10) (offs := #[59, 122, 145, 158, 171, 204, 217, 251, 284, 307, 330]) (len := 59) (off := 158) (tgt := 191) (by decide +kernel) i1 i2 (by rw [hv]; rfl) (by decide) ?_
      exact lw_c_place hfl C hw hl H locs hR hS
    · refine lv_tableIn C.1.1 C.1.2.1 (dflt := 353) (lo := 0) (hi := 10) (offs := #[59, 122, 145, 158, 171, 204, 217, 251, 284, 307, 330]) (len := 59) (off := 171) (tgt := 204) (by decide +kernel) i1 i2 (by rw [hv]; rfl) (by decide) ?_
      exact lw_c_rule hfl C hw hl H locs hR hS
    · refine lv_tableIn C.1.1 C.1.2.1 (dflt := 353) (lo := 0) (hi := 10) (offs := #[59, 122, 145, 158, 171, 204, 217, 251, 284, 307, 330]) (len := 59) (off := 204) (tgt := 237) (by decide +kernel) i1 i2 (by rw [hv]; rfl) (by decide) ?_
      exact lw_c_item hfl C hw hl H locs hR hS
    · refine lv_tableIn C.1.1 C.1.2.1 (dflt := 353) (lo := 0) (hi := 10) (offs := #[59, 122, 145, 158, 171, 204, 217, 251, 284, 307, 330]) (len := 59) (off := 217) (tgt := 250) (by decide +kernel) i1 i2 (by rw [hv]; rfl) (by decide) ?_
      exact lw_c_node hfl C hw hl H locs hR hS
    · refine lv_tableIn C.1.1 C.1.2.1 (dflt := 353) (lo := 0) (hi := 10) (offs := #[59, 122, 145, 158, 171, 204, 217, 251, 284, 307, 330]) (len := 59) (off := 251) (tgt := 284) (by decide +kernel) i1 i2 (by rw [hv]; rfl) (by decide) ?_
      exact lw_c_judge hfl C hw hl H locs hR hS
    · refine lv_tableIn C.1.1 C.1.2.1 (dflt := 353) (lo := 0) (hi := 10) (offs := #[59, 122, 145, 158, 171, 204, 217, 251, 284, 307, 330]) (len := 59) (off := 284) (tgt := 317) (by decide +kernel) i1 i2 (by rw [hv]; rfl) (by decide) ?_
      exact lw_c_write hfl C hw hl H locs hR hS
    · refine lv_tableIn C.1.1 C.1.2.1 (dflt := 353) (lo := 0) (hi := 10) (offs := #[59, 122, 145, 158, 171, 204, 217, 251, 284, 307, 330]) (len := 59) (off := 307) (tgt := 340) (by decide +kernel) i1 i2 (by rw [hv]; rfl) (by decide) ?_
      exact lw_c_shorten hfl C hw hl H locs hR hS
    · refine lv_tableIn C.1.1 C.1.2.1 (dflt := 353) (lo := 0) (hi := 10) (offs := #[59, 122, 145, 158, 171, 204, 217, 251, 284, 307, 330]) (len := 59) (off := 330) (tgt := 363) (by decide +kernel) i1 i2 (by rw [hv]; rfl) (by decide) ?_
      exact lw_c_out hfl C hw hl H locs hR hS
theorem lw_run (hfl : l.stackTraces = false) (C : lwC p s m meth c bq L xs D b) (hL : L ≤ 6) (hl : lv_has ls 4 [(0, .ref bq)]) : lwG p l e s m below meth c bq D b (0, 0, []) 0 ls [] := by
  refine lw_new C (i := 7) (ci := 12) (h1 := kh0) (by decide +kernel) dLc_7 (by decide) ⟨rfl, fun i ch q => by simp at q⟩ (by decide +kernel) (by decide) lw_r_kh0.1 lw_r_kh0.2 fun w0 => ?_
  show lwG p l e s m below meth c bq D b kh0 3 ls [.ref (b 0)]
  refine lw_dup C (by decide +kernel) rfl ?_
  have G1 := kxg8 l hfl D b w0
  refine lw_init C (y := 283) (t := (12, yX12_init, cX12_init, 1, none)) (a := 0) (h1 := kh11) (by decide +kernel) dM_283 (by decide) dLm_9 dLi_9 dLn_9 rfl rfl (by decide +kernel) dPd_283 (by decide) G1 hl.1 (by simp [Value.category]) lw_r_kh11.1 lw_r_kh11.2 ?_
  have w11 := G1.1.2.2
  intro H locs hR hS
  refine lv_astore_n C.1.1 C.1.2.1 (k := 1) (by decide +kernel) rfl hl (by decide) rfl fun ls1 hl1 => ?_
  revert H locs hR hS
  show lwG p l e s m below meth c bq D b kh11 8 ls1 []
  replace hl := hl1
  refine lw_new C (i := 10) (ci := 13) (h1 := kh12) (by decide +kernel) dLc_10 (by decide) w11 (by decide +kernel) (by decide +kernel) lw_r_kh12.1 lw_r_kh12.2 fun w12 => ?_
  show lwG p l e s m below meth c bq D b kh12 11 ls1 [.ref (b 126)]
  refine lw_dup C (by decide +kernel) rfl ?_
  have G2 := kyg6 l hfl D b w12
  refine lw_init C (y := 305) (t := (13, yX13_init, cX13_init, 1, none)) (a := 126) (h1 := kh19) (by decide +kernel) dM_305 (by decide) dLm_12 dLi_12 dLn_12 rfl rfl (by decide +kernel) dPd_305 (by decide) G2 hl.1 (by simp [Value.category]) lw_r_kh19.1 lw_r_kh19.2 ?_
  have w19 := G2.1.2.2
  intro H locs hR hS
  refine lv_astore_n C.1.1 C.1.2.1 (k := 2) (by decide +kernel) rfl hl (by decide) rfl fun ls2 hl2 => ?_
  refine lv_iconst C.1.1 C.1.2.1 (n := 0) (v := 0) (by decide +kernel) (by decide) ?_
  refine lv_istore_n C.1.1 C.1.2.1 (k := 3) (by decide +kernel) rfl hl2 (by decide) rfl fun ls3 hl3 => ?_
  have hl4 : lv_has ls3 4 [(0, .ref bq), (1, .ref (b 0)), (2, .ref (b 126)), (3, .int 0)] := lv_sub hl3 [3, 2, 1, 0] rfl
  refine lw_head C (lv_at hl4 0 rfl) (lv_at hl4 3 rfl) (fun _ => lw_end C lw_r_kh19.1 lw_r_kh19.2) (fun q => ?_) H locs hR hS
  obtain rfl : L = 6 := by
    rcases (show L = 0 ∨ L = 1 ∨ L = 2 ∨ L = 3 ∨ L = 4 ∨ L = 5 ∨ L = 6 by omega) with rfl | rfl | rfl | rfl | rfl | rfl | rfl
    all_goals first
      | rfl
      | exact absurd (by decide) q
  exact lw_go hfl C w19 hl4
end LWX
/-- YOUR PART: from the entry, for every script of at most 6 ints, the law comes to its end with true ('hflags': the launch's flags, for a law that throws: no stack traces) -/
theorem whole_start {p : Program} {e : Env} {s : State} {m : MethodId} {below : List Frame} {meth : Method} {c : Code} (l : Launch) (hflags : l.flags = flags0) {b L : Nat} {xs : Nat → Int32} (hL : L ≤ 6) (C0 : lw_At p s m meth c b L xs) : W p l e room_1 s m #[Value.ref b] below meth c s.heap [] 0 0 (lw_Z below #[Value.ref b] s) (entryFrame m ([Value.ref b] : List Value).toArray 4) := by
  have hfl : l.stackTraces = false := by unfold Launch.stackTraces; rw [hflags]; decide
  obtain ⟨D, f, f0, fl, hK⟩ := dStart C0.2.2.2.2.2.1 C0.2.2.2.2.2.2.2.2.2
  have C : lwC p s m meth c b L xs D f := ⟨C0, f0, fl, hK⟩
  rw [lg_entry_eq]
  have hl : lv_has _ 4 [(0, Value.ref b)] := lv_entry [Value.ref b] (n := 4) (Nat.le_of_ble_eq_true rfl)
  exact lw_run hfl C hL hl s.heap [] ⟨⟨by rw [f0]; rfl, by decide, fl⟩, ⟨rfl, fun i ch q => by simp at q⟩, fun k cc q => by rw [hat_eq] at q; simp at q⟩ ⟨by rw [f0]; exact Nat.le_refl _, fun _ _ => rfl, fun x hx => by cases hx⟩

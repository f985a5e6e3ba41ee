/-! ===== steps of a program of words with values that stand for any number ===== -/
theorem wst_same (w c k v : Nat) (hv : wd w c k = v) : wst w c k v = c := by
  have h1 : Nat.xor (wd w c k) v = 0 := by rw [hv]; exact Nat.xor_self v
  unfold wst
  rw [h1, hv]
  have h2 : Nat.xor (dmx k v) (dmx k v) = 0 := Nat.xor_self _
  rw [h2]
  have h3 : Nat.shiftLeft 0 (Nat.add (Nat.mul w k) 64) = 0 := Nat.zero_shiftLeft _
  rw [h3]
  have h4 : Nat.xor c 0 = c := Nat.xor_zero c
  rw [h4, h4]
theorem hset_same {β : Type} {h : dH} {k : Nat} {c : dC} (f : dH → β) (z : β) (e : hat h k = some c) : hset h k c f z = f h := by
  obtain ⟨n, s, cs⟩ := h
  rw [hat_eq] at e
  dsimp only at e
  cases hc : cs[k / 16]? with
  | none => rw [hc] at e; cases e
  | some ch =>
    rw [hc] at e
    have e2 : ch[k % 16]? = some c := e
    obtain ⟨h2, h2b⟩ := List.getElem?_eq_some_iff.mp e2
    obtain ⟨h3, h3b⟩ := List.getElem?_eq_some_iff.mp hc
    unfold hset
    dsimp only
    rw [nth_eq, show cs[Nat.div k 16]? = some ch from hc]
    dsimp only
    rw [setc_eq, if_pos (show Nat.mod k 16 < ch.length from h2), setc_eq, if_pos (show Nat.div k 16 < cs.length from h3)]
    have e3 : ch.set (Nat.mod k 16) c = ch := by
      rw [← h2b]; exact List.set_getElem_self h2
    have e4 : cs.set (Nat.div k 16) ch = cs := by
      rw [← h3b]; exact List.set_getElem_self h3
    rw [e3, e4]
theorem e_pop {v : dV} {r : List dV} {k : dV → List dV → dR} : pop (v :: r) k = k v r := rfl
theorem e_d1 {a : Nat} {r : List dV} {k : Nat → List dV → dR} : d1 (.inl a :: r) k = k a r := rfl
theorem e_d2 {a b : Nat} {r : List dV} {k : Nat → Nat → List dV → dR} : d2 (.inl b :: .inl a :: r) k = k a b r := rfl
theorem e_d1l {a : Nat} {r : List dV} {k : Nat → List dV → dR} : d1l (.inr (.inl a) :: r) k = k a r := rfl
theorem e_d2l {a b : Nat} {r : List dV} {k : Nat → Nat → List dV → dR} : d2l (.inr (.inl b) :: .inr (.inl a) :: r) k = k a b r := rfl
theorem e_dil {a b : Nat} {r : List dV} {k : Nat → Nat → List dV → dR} : dil (.inl b :: .inr (.inl a) :: r) k = k a b r := rfl
theorem e_d1a {a : Nat} {r : List dV} {k : Nat → List dV → dR} : d1a (.inr (.inr (Nat.succ a)) :: r) k = k a r := rfl
theorem e_dia {a i : Nat} {r : List dV} {k : Nat → Nat → List dV → dR} : dia (.inl i :: .inr (.inr (Nat.succ a)) :: r) k = k a (i % 4294967296) r := by
  have h : dia (.inl i :: .inr (.inr (Nat.succ a)) :: r) k = fo (i % 4294967296) (fun j => k a j r) := rfl
  rw [h, fo_eq]
theorem e_diia {a i x : Nat} {r : List dV} {k : Nat → Nat → Nat → List dV → dR} : diia (.inl x :: .inl i :: .inr (.inr (Nat.succ a)) :: r) k = k a (i % 4294967296) x r := by
  have h : diia (.inl x :: .inl i :: .inr (.inr (Nat.succ a)) :: r) k = dia (.inl i :: .inr (.inr (Nat.succ a)) :: r) (fun a i r => k a i x r) := rfl
  rw [h, e_dia]
theorem e_dlia {a i x : Nat} {r : List dV} {k : Nat → Nat → Nat → List dV → dR} : dlia (.inr (.inl x) :: .inl i :: .inr (.inr (Nat.succ a)) :: r) k = k a (i % 4294967296) x r := by
  have h : dlia (.inr (.inl x) :: .inl i :: .inr (.inr (Nat.succ a)) :: r) k = dia (.inl i :: .inr (.inr (Nat.succ a)) :: r) (fun a i r => k a i x r) := rfl
  rw [h, e_dia]
theorem e_opt {α : Type} {a : α} {k : α → dR} : opt (some a) k = k a := rfl
theorem e_cel {kd n ct : Nat} {k : Nat → Nat → Nat → dR} : cel (some (kd, n, ct)) k = k kd n ct := rfl
theorem e_vI {n : Nat} {k : Nat → dR} : vI (.inl n) k = k n := rfl
theorem e_vL {n : Nat} {k : Nat → dR} : vL (.inr (.inl n)) k = k n := rfl
theorem e_vA {n : Nat} {k : Nat → dR} : vA (.inr (.inr (Nat.succ n))) k = k n := rfl
theorem e_emp {X : dR} : emp [] X = X := rfl
section S
variable {rec : dRec} {nxt : dCode} {y x d : Nat} {L : dL} {st : List dV} {h : dH}
theorem s_int : o_int y x nxt rec d L st h = nxt rec d L (.inl x :: st) h := rfl
theorem s_long : o_long y x nxt rec d L st h = nxt rec d L (.inr (.inl x) :: st) h := rfl
theorem s_ldc (e : Nat.blt x 4294967296 = true) : o_ldc y x nxt rec d L st h = nxt rec d L (.inl x :: st) h := by
  show cond (Nat.blt x 4294967296) _ _ = _
  rw [e]; rfl
theorem s_iload {n : Nat} (e : dlk L x = some (.inl n)) : o_iload y x nxt rec d L st h = nxt rec d L (.inl n :: st) h := by
  simp only [o_iload, e, e_opt, e_vI]
theorem s_lload {n : Nat} (e : dlk L x = some (.inr (.inl n))) : o_lload y x nxt rec d L st h = nxt rec d L (.inr (.inl n) :: st) h := by
  simp only [o_lload, e, e_opt, e_vL]
theorem s_aload {n : Nat} (e : dlk L x = some (.inr (.inr (Nat.succ n)))) : o_aload y x nxt rec d L st h = nxt rec d L (.inr (.inr (Nat.succ n)) :: st) h := by
  simp only [o_aload, e, e_opt, e_vA]
theorem s_istore {v : Nat} {u : dL} (e : L.filter (dp1 x) = u) : o_istore y x nxt rec d L (.inl v :: st) h = nxt rec d ((x, .inl v) :: u) st h := by
  simp only [o_istore, e_d1, fltc_eq, e]
theorem s_lstore {v : Nat} {u : dL} (e : L.filter (dp2 x) = u) : o_lstore y x nxt rec d L (.inr (.inl v) :: st) h = nxt rec d ((x, .inr (.inl v)) :: u) st h := by
  simp only [o_lstore, e_d1l, fltc_eq, e]
theorem s_astore {v : Nat} {u : dL} (e : L.filter (dp1 x) = u) : o_astore y x nxt rec d L (.inr (.inr (Nat.succ v)) :: st) h = nxt rec d ((x, .inr (.inr (Nat.succ v))) :: u) st h := by
  simp only [o_astore, e_d1a, fltc_eq, e]
theorem s_iinc {n v : Nat} {u : dL} (e : dlk L (Nat.div x 4294967296) = some (.inl n)) (ev : dAdd n (Nat.mod x 4294967296) = v) (e2 : L.filter (dp1 (Nat.div x 4294967296)) = u) : o_iinc y x nxt rec d L st h = nxt rec d ((Nat.div x 4294967296, .inl v) :: u) st h := by
  simp only [o_iinc, e, e_opt, e_vI, fo_eq, fltc_eq, e2, ev]
theorem s_bin {f : Nat → Nat → Nat} {a b v : Nat} (e : f a b = v) : o_bin f y x nxt rec d L (.inl b :: .inl a :: st) h = nxt rec d L (.inl v :: st) h := by
  simp only [o_bin, e_d2, fo_eq, e]
theorem s_binl {f : Nat → Nat → Nat} {a b v : Nat} (e : f a b = v) : o_binl f y x nxt rec d L (.inr (.inl b) :: .inr (.inl a) :: st) h = nxt rec d L (.inr (.inl v) :: st) h := by
  simp only [o_binl, e_d2l, fo_eq, e]
theorem s_div {f : Nat → Nat → Nat} {a b v : Nat} (hz : dZ b = false) (e : f a b = v) : o_div f y x nxt rec d L (.inl b :: .inl a :: st) h = nxt rec d L (.inl v :: st) h := by
  simp only [o_div, e_d2, hz, cond_false, fo_eq, e]
theorem s_shl {f : Nat → Nat → Nat} {a b v : Nat} (e : f a b = v) : o_shl f y x nxt rec d L (.inl b :: .inr (.inl a) :: st) h = nxt rec d L (.inr (.inl v) :: st) h := by
  simp only [o_shl, e_dil, fo_eq, e]
theorem s_lcmp {a b v : Nat} (e : dCmp a b = v) : o_lcmp y x nxt rec d L (.inr (.inl b) :: .inr (.inl a) :: st) h = nxt rec d L (.inl v :: st) h := by
  simp only [o_lcmp, e_d2l, fo_eq, e]
theorem s_un {f : Nat → Nat} {a v : Nat} (e : f a = v) : o_un f y x nxt rec d L (.inl a :: st) h = nxt rec d L (.inl v :: st) h := by
  simp only [o_un, e_d1, fo_eq, e]
theorem s_i2l {a v : Nat} (e : dI2l a = v) : o_i2l y x nxt rec d L (.inl a :: st) h = nxt rec d L (.inr (.inl v) :: st) h := by
  simp only [o_i2l, e_d1, fo_eq, e]
theorem s_l2i {a v : Nat} (e : dL2i a = v) : o_l2i y x nxt rec d L (.inr (.inl a) :: st) h = nxt rec d L (.inl v :: st) h := by
  simp only [o_l2i, e_d1l, fo_eq, e]
theorem s_if_t {c : ClassFile.Cond} {a : Nat} (e : dcd c a 0 = true) : o_if c y x nxt rec d L (.inl a :: st) h = rec d y x L st h := by
  simp only [o_if, e_d1, e, cond_true]
theorem s_if_f {c : ClassFile.Cond} {a : Nat} (e : dcd c a 0 = false) : o_if c y x nxt rec d L (.inl a :: st) h = nxt rec d L st h := by
  simp only [o_if, e_d1, e, cond_false]
theorem s_icmp_t {c : ClassFile.Cond} {a b : Nat} (e : dcd c a b = true) : o_icmp c y x nxt rec d L (.inl b :: .inl a :: st) h = rec d y x L st h := by
  simp only [o_icmp, e_d2, e, cond_true]
theorem s_icmp_f {c : ClassFile.Cond} {a b : Nat} (e : dcd c a b = false) : o_icmp c y x nxt rec d L (.inl b :: .inl a :: st) h = nxt rec d L st h := by
  simp only [o_icmp, e_d2, e, cond_false]
theorem s_goto : o_goto y x nxt rec d L st h = rec d y x L st h := rfl
theorem s_jmp {pc : Nat} : djmp y pc rec d L st h = rec d y pc L st h := rfl
theorem s_dup {v : dV} (e : disl v = false) : o_dup y x nxt rec d L (v :: st) h = nxt rec d L (v :: v :: st) h := by
  simp only [o_dup, e_pop, e, cond_false]
theorem s_pop {v : dV} (e : disl v = false) : o_pop y x nxt rec d L (v :: st) h = nxt rec d L st h := by
  simp only [o_pop, e_pop, e, cond_false]
theorem s_getfield {a kd n ct : Nat} {w : dV} (ha : hat h a = some (kd, n, ct)) (hk : Nat.beq kd (Nat.add (Nat.div x 1024) 4) = true) (hw : fv (Nat.mod x 4) (wd 64 ct (Nat.mod (Nat.div x 4) 256)) = w) : o_getfield y x nxt rec d L (.inr (.inr (Nat.succ a)) :: st) h = nxt rec d L (w :: st) h := by
  simp only [o_getfield, e_d1a, ha, e_cel, hk, cond_true, fo_eq, hw]
theorem fe_0 {n w : Nat} (e : n % 4294967296 = w) (k : Nat → dR) : fe 0 (.inl n) k = k w := by
  show fo (Nat.mod n 4294967296) k = _
  rw [fo_eq]
  exact congrArg k e
theorem s_putfield {a kd n ct w : Nat} {v : dV} (hw : hwf h) (ha : hat h a = some (kd, n, ct)) (hk : Nat.beq kd (Nat.add (Nat.div x 1024) 4) = true) (hv : ∀ k : Nat → dR, fe (Nat.mod x 4) v k = k w) : ∃ h1 : dH, o_putfield y x nxt rec d L (v :: .inr (.inr (Nat.succ a)) :: st) h = nxt rec d L st h1 ∧ h1.1 = h.1 ∧ h1.2.1 = h.2.1 ∧ hwf h1 ∧ ∀ j, hat h1 j = if j = a then some (kd, n, wst 64 ct (Nat.mod (Nat.div x 4) 256) w) else hat h j := by
  obtain ⟨h1, e, r⟩ := hset_spec (c := (kd, n, wst 64 ct (Nat.mod (Nat.div x 4) 256) w)) (fun h' => nxt rec d L st h') none hw ha
  refine ⟨h1, ?_, r⟩
  simp only [o_putfield, e_pop, e_d1a, ha, e_cel, hk, cond_true, hv, fo_eq]
  exact e
theorem s_putsame {a kd n ct w : Nat} {v : dV} (ha : hat h a = some (kd, n, ct)) (hk : Nat.beq kd (Nat.add (Nat.div x 1024) 4) = true) (hv : ∀ k : Nat → dR, fe (Nat.mod x 4) v k = k w) (hs : wd 64 ct (Nat.mod (Nat.div x 4) 256) = w) : o_putfield y x nxt rec d L (v :: .inr (.inr (Nat.succ a)) :: st) h = nxt rec d L st h := by
  simp only [o_putfield, e_pop, e_d1a, ha, e_cel, hk, cond_true, hv, fo_eq, wst_same _ _ _ _ hs]
  exact hset_same _ _ ha
theorem s_alen {a kd n ct : Nat} (ha : hat h a = some (kd, n, ct)) (hk : Nat.blt kd 4 = true) : o_alen y x nxt rec d L (.inr (.inr (Nat.succ a)) :: st) h = nxt rec d L (.inl n :: st) h := by
  simp only [o_alen, e_d1a, ha, e_cel, hk, cond_true]
theorem s_in {j n : Nat} {X : dR} (h1 : j < n) (h2 : j < 2147483648) : din j n X = X := by
  show cond (Nat.blt j n) (cond (Nat.blt j 2147483648) X none) none = X
  rw [di_blt.mpr h1, di_blt.mpr h2]; rfl
theorem s_iaload {a i j n ct v : Nat} (ha : hat h a = some (0, n, ct)) (hi : i % 4294967296 = j) (h1 : j < n) (h2 : j < 2147483648) (ev : wd 32 ct j = v) : o_iaload y x nxt rec d L (.inl i :: .inr (.inr (Nat.succ a)) :: st) h = nxt rec d L (.inl v :: st) h := by
  simp only [o_iaload, e_dia, ha, e_cel, hi, s_in h1 h2, fo_eq, ev]
  rfl
theorem s_baload {a i j n ct v : Nat} (ha : hat h a = some (2, n, ct)) (hi : i % 4294967296 = j) (h1 : j < n) (h2 : j < 2147483648) (ev : dI2b (wd 8 ct j) = v) : o_baload y x nxt rec d L (.inl i :: .inr (.inr (Nat.succ a)) :: st) h = nxt rec d L (.inl v :: st) h := by
  simp only [o_baload, e_dia, ha, e_cel, hi, s_in h1 h2, fo_eq, ev]
  rfl
theorem s_iastore {a i j n ct v : Nat} (hw : hwf h) (ha : hat h a = some (0, n, ct)) (hi : i % 4294967296 = j) (h1 : j < n) (h2 : j < 2147483648) : ∃ g : dH, o_iastore y x nxt rec d L (.inl v :: .inl i :: .inr (.inr (Nat.succ a)) :: st) h = nxt rec d L st g ∧ g.1 = h.1 ∧ g.2.1 = h.2.1 ∧ hwf g ∧ ∀ k, hat g k = if k = a then some (0, n, wst 32 ct j (v % 4294967296)) else hat h k := by
  obtain ⟨g, e, r⟩ := hset_spec (c := (0, n, wst 32 ct j (v % 4294967296))) (fun h' => nxt rec d L st h') none hw ha
  refine ⟨g, ?_, r⟩
  simp only [o_iastore, e_diia, ha, e_cel, hi, s_in h1 h2, fo_eq]
  exact e
theorem s_bastore {a i j n ct v : Nat} (hw : hwf h) (ha : hat h a = some (2, n, ct)) (hi : i % 4294967296 = j) (h1 : j < n) (h2 : j < 2147483648) : ∃ g : dH, o_bastore y x nxt rec d L (.inl v :: .inl i :: .inr (.inr (Nat.succ a)) :: st) h = nxt rec d L st g ∧ g.1 = h.1 ∧ g.2.1 = h.2.1 ∧ hwf g ∧ ∀ k, hat g k = if k = a then some (2, n, wst 8 ct j (v % 256)) else hat h k := by
  obtain ⟨g, e, r⟩ := hset_spec (c := (2, n, wst 8 ct j (v % 256))) (fun h' => nxt rec d L st h') none hw ha
  refine ⟨g, ?_, r⟩
  simp only [o_bastore, e_diia, ha, e_cel, hi, s_in h1 h2, fo_eq]
  exact e
theorem s_return : o_return y x nxt rec d L [] h = some (none, h) := rfl
theorem s_ireturn {v : Nat} (e : Nat.beq x 1 = true) : o_ireturn y x nxt rec d L [.inl v] h = some (some (.inl v), h) := by
  show cond (Nat.beq x 1) _ _ = _
  rw [e]; rfl
theorem s_lreturn {v : Nat} : o_lreturn y x nxt rec d L [.inr (.inl v)] h = some (some (.inr (.inl v)), h) := rfl
end S
/-- what a run shows, with the calls that wait for it -/
def dGoal (G : dR → Prop) : List (Option dV → dH → dR) → dR → Prop
  | [], z => G z
  | k :: ks, z => dGoal G ks (opt z fun q => k q.1 q.2)
theorem gst {G : dR → Prop} {ks : List (Option dV → dH → dR)} {a b : dR} (e : a = b) (g : dGoal G ks b) : dGoal G ks a := by rw [e]; exact g
theorem gret {G : dR → Prop} {ks : List (Option dV → dH → dR)} {k : Option dV → dH → dR} {v : Option dV} {h : dH} (g : dGoal G ks (k v h)) : dGoal G (k :: ks) (some (v, h)) := g
theorem grun {G : dR → Prop} {ks : List (Option dV → dH → dR)} {P : Nat → Nat → Option dCode} {f d y pc : Nat} {L : dL} {st : List dV} {h : dH} {c : dCode} (e : P y pc = some c) (g : dGoal G ks (c (drun P f) d L st h)) : dGoal G ks (drun P (Nat.succ f) d y pc L st h) := by
  refine gst (b := c (drun P f) d L st h) ?_ g
  show opt (P y pc) _ = _
  rw [e]; rfl
theorem e_dcall {rec : dRec} {d x : Nat} {as : List dV} {h : dH} {k : Option dV → dH → dR} : dcall rec (Nat.succ d) x as h k = cond (Nat.ble (dsz as) (Nat.mod (Nat.div x 256) 64)) (opt (rec d (Nat.div x 16384) 0 (dal 0 as) [] h) fun z => k z.1 z.2) none := by
  have h1 : dcall rec (Nat.succ d) x as h k = dargs as 0 (fun L n => cond (Nat.ble n (Nat.mod (Nat.div x 256) 64)) (opt (rec d (Nat.div x 16384) 0 L [] h) fun z => k z.1 z.2) none) := rfl
  rw [h1, dargs_eq, Nat.zero_add]
section SC
variable {G : dR → Prop} {ks : List (Option dV → dH → dR)} {rec : dRec} {nxt : dCode} {y x d : Nat} {L : dL} {st ST as : List dV} {h : dH}
theorem gvirtual {a kd n ct : Nat} (hp : ∀ k : List dV → List dV → dR, dpop (Nat.mod (Nat.div x 16) 16) ST [] k = k as (.inr (.inr (Nat.succ a)) :: st)) (ha : hat h a = some (kd, n, ct)) (hk : Nat.beq kd (Nat.add (Nat.mod x 16) 4) = true) (hc : Nat.ble (dcat st) 8 = true) (hs : Nat.ble (dsz (.inr (.inr (Nat.succ a)) :: as)) (Nat.mod (Nat.div x 256) 64) = true) (g : dGoal G ((fun v h' => cond (dthr v) (some (v, h')) (dgo nxt rec (Nat.succ d) L st v h')) :: ks) (rec d (Nat.div x 16384) 0 (dal 0 (.inr (.inr (Nat.succ a)) :: as)) [] h)) : dGoal G ks (o_virtual y x nxt rec (Nat.succ d) L ST h) := by
  refine gst (b := opt (rec d (Nat.div x 16384) 0 (dal 0 (.inr (.inr (Nat.succ a)) :: as)) [] h) fun q => cond (dthr q.1) (some (q.1, q.2)) (dgo nxt rec (Nat.succ d) L st q.1 q.2)) ?_ g
  simp only [o_virtual, hp, e_d1a, ha, e_cel, hk, hc, cond_true, e_dcall, hs]
theorem gstatic (hp : ∀ k : List dV → List dV → dR, dpop (Nat.mod (Nat.div x 16) 16) ST [] k = k as st) (hc : Nat.ble (dcat st) 8 = true) (hs : Nat.ble (dsz as) (Nat.mod (Nat.div x 256) 64) = true) (g : dGoal G ((fun v h' => cond (dthr v) none (dgo nxt rec (Nat.succ d) L st v h')) :: ks) (rec d (Nat.div x 16384) 0 (dal 0 as) [] h)) : dGoal G ks (o_static y x nxt rec (Nat.succ d) L ST h) := by
  refine gst (b := opt (rec d (Nat.div x 16384) 0 (dal 0 as) [] h) fun q => cond (dthr q.1) none (dgo nxt rec (Nat.succ d) L st q.1 q.2)) ?_ g
  simp only [o_static, hp, hc, cond_true, e_dcall, hs]
end SC
/-! a loop that writes noughts into a row of noughts -/
section Z
variable {P : Nat → Nat → Option dCode} {y H EX N X o kd n CT ar len f d : Nat} {z : dCode} {h : dH}
theorem dAdd_1 {k : Nat} (hk : k < 2147483648) : dAdd k 1 = k + 1 := by
  show (k + 1) % 4294967296 = k + 1
  omega
theorem zge_f {k N : Nat} (hk : k < N) (hN : N < 2147483648) : dcd .ge k N = false := by
  have h1 : dLt k N = true := by
    show Nat.blt ((k + 2147483648) % 4294967296) ((N + 2147483648) % 4294967296) = true
    rw [di_blt]; omega
  show cond (dLt k N) false true = false
  rw [h1]; rfl
/-- the loop's round; the store is what it does with a nought -/
theorem zround {k : Nat} {cst sto zer : Nat → Nat → dCode → dCode} {zv : dV} (hP : P y H = some (o_iload y 1 (cst y N (o_icmp .ge y EX (o_aload y 0 (o_getfield y X (o_iload y 1 (zer y 0 (sto y 0 (o_iinc y 4294967297 (o_goto y H z)))))))))))
    (hcst : ∀ (nxt : dCode) (rec : dRec) (L : dL) (st : List dV) (g : dH), cst y N nxt rec d L st g = nxt rec d L (.inl N :: st) g) (hzer : ∀ (nxt : dCode) (rec : dRec) (L : dL) (st : List dV) (g : dH), zer y 0 nxt rec d L st g = nxt rec d L (zv :: st) g)
    (hsto : ∀ (nxt : dCode) (rec : dRec) (L : dL) (st : List dV), sto y 0 nxt rec d L (zv :: .inl k :: .inr (.inr (Nat.succ ar)) :: st) h = nxt rec d L st h)
    (ho : hat h o = some (kd, n, CT)) (hkd : Nat.beq kd (Nat.add (Nat.div X 1024) 4) = true) (hf : fv (Nat.mod X 4) (wd 64 CT (Nat.mod (Nat.div X 4) 256)) = .inr (.inr (Nat.succ ar))) (hk : k < N) (hN : N < 2147483648) :
    drun P (Nat.succ f) d y H [(1, .inl k), (0, .inr (.inr (Nat.succ o)))] [] h = drun P f d y H [(1, .inl (k + 1)), (0, .inr (.inr (Nat.succ o)))] [] h := by
  show opt (P y H) _ = _
  rw [hP]
  show o_iload y 1 _ (drun P f) d [(1, .inl k), (0, .inr (.inr (Nat.succ o)))] [] h = _
  rw [s_iload (n := k) rfl, hcst, s_icmp_f (zge_f hk hN), s_aload (n := o) rfl, s_getfield ho hkd hf, s_iload (n := k) rfl, hzer, hsto, s_iinc (n := k) (v := k + 1) (u := [(0, .inr (.inr (Nat.succ o)))]) rfl (dAdd_1 (by omega)) rfl]
  rfl
theorem zloop {cst sto zer : Nat → Nat → dCode → dCode} {zv : dV} (hP : P y H = some (o_iload y 1 (cst y N (o_icmp .ge y EX (o_aload y 0 (o_getfield y X (o_iload y 1 (zer y 0 (sto y 0 (o_iinc y 4294967297 (o_goto y H z)))))))))))
    (hcst : ∀ (nxt : dCode) (rec : dRec) (L : dL) (st : List dV) (g : dH), cst y N nxt rec d L st g = nxt rec d L (.inl N :: st) g) (hzer : ∀ (nxt : dCode) (rec : dRec) (L : dL) (st : List dV) (g : dH), zer y 0 nxt rec d L st g = nxt rec d L (zv :: st) g)
    (hsto : ∀ (k : Nat), k < N → ∀ (nxt : dCode) (rec : dRec) (L : dL) (st : List dV), sto y 0 nxt rec d L (zv :: .inl k :: .inr (.inr (Nat.succ ar)) :: st) h = nxt rec d L st h)
    (ho : hat h o = some (kd, n, CT)) (hkd : Nat.beq kd (Nat.add (Nat.div X 1024) 4) = true) (hf : fv (Nat.mod X 4) (wd 64 CT (Nat.mod (Nat.div X 4) 256)) = .inr (.inr (Nat.succ ar))) (hN : N < 2147483648) (j : Nat) : ∀ k, k + j = N →
    drun P (f + j) d y H [(1, .inl k), (0, .inr (.inr (Nat.succ o)))] [] h = drun P f d y H [(1, .inl N), (0, .inr (.inr (Nat.succ o)))] [] h := by
  induction j with
  | zero => intro k hk; rw [show k = N by omega]; rfl
  | succ j ih =>
    intro k hk
    show drun P (Nat.succ (f + j)) d y H _ [] h = _
    rw [zround hP hcst hzer (hsto k (by omega)) ho hkd hf (by omega) hN]
    exact ih (k + 1) (by omega)
theorem z_b {k : Nat} (ha : hat h ar = some (2, len, 0)) (hk : k < len) (h2 : k < 2147483648) (nxt : dCode) (rec : dRec) (L : dL) (st : List dV) : o_bastore y 0 nxt rec d L (.inl 0 :: .inl k :: .inr (.inr (Nat.succ ar)) :: st) h = nxt rec d L st h := by
  have e : wst 8 0 k (Nat.mod 0 256) = 0 := wst_same 8 0 k _ (wd_0 8 k)
  have em : k % 4294967296 = k := by omega
  simp only [o_bastore, e_diia, ha, e_cel, em, s_in hk h2, fo_eq, e]
  exact hset_same _ _ ha
theorem z_i {k : Nat} (ha : hat h ar = some (0, len, 0)) (hk : k < len) (h2 : k < 2147483648) (nxt : dCode) (rec : dRec) (L : dL) (st : List dV) : o_iastore y 0 nxt rec d L (.inl 0 :: .inl k :: .inr (.inr (Nat.succ ar)) :: st) h = nxt rec d L st h := by
  have e : wst 32 0 k (Nat.mod 0 4294967296) = 0 := wst_same 32 0 k _ (wd_0 32 k)
  have em : k % 4294967296 = k := by omega
  simp only [o_iastore, e_diia, ha, e_cel, em, s_in hk h2, fo_eq, e]
  exact hset_same _ _ ha
theorem z_l {k : Nat} (ha : hat h ar = some (1, len, 0)) (hk : k < len) (h2 : k < 2147483648) (nxt : dCode) (rec : dRec) (L : dL) (st : List dV) : o_lastore y 0 nxt rec d L (.inr (.inl 0) :: .inl k :: .inr (.inr (Nat.succ ar)) :: st) h = nxt rec d L st h := by
  have e : wst 64 0 k (Nat.mod 0 18446744073709551616) = 0 := wst_same 64 0 k _ (wd_0 64 k)
  have em : k % 4294967296 = k := by omega
  simp only [o_lastore, e_dlia, ha, e_cel, em, s_in hk h2, fo_eq, e]
  exact hset_same _ _ ha
end Z
section SG
variable {G : dR → Prop} {ks : List (Option dV → dH → dR)} {rec : dRec} {nxt : dCode} {y x d : Nat} {L : dL} {st : List dV} {h : dH}
theorem gputfield {a kd n ct w : Nat} {v : dV} (hw : hwf h) (ha : hat h a = some (kd, n, ct)) (hk : Nat.beq kd (Nat.add (Nat.div x 1024) 4) = true) (hv : ∀ k : Nat → dR, fe (Nat.mod x 4) v k = k w) (g : ∀ h1 : dH, h1.1 = h.1 → h1.2.1 = h.2.1 → hwf h1 → (∀ j, hat h1 j = if j = a then some (kd, n, wst 64 ct (Nat.mod (Nat.div x 4) 256) w) else hat h j) → dGoal G ks (nxt rec d L st h1)) : dGoal G ks (o_putfield y x nxt rec d L (v :: .inr (.inr (Nat.succ a)) :: st) h) := by
  obtain ⟨h1, e, z1, z2, w1, a1⟩ := s_putfield (rec := rec) (nxt := nxt) (y := y) (x := x) (d := d) (L := L) (st := st) hw ha hk hv
  exact gst e (g h1 z1 z2 w1 a1)
theorem giastore {a i j n ct v : Nat} (hw : hwf h) (ha : hat h a = some (0, n, ct)) (hi : i % 4294967296 = j) (h1 : j < n) (h2 : j < 2147483648) (g : ∀ h1 : dH, h1.1 = h.1 → h1.2.1 = h.2.1 → hwf h1 → (∀ k, hat h1 k = if k = a then some (0, n, wst 32 ct j (v % 4294967296)) else hat h k) → dGoal G ks (nxt rec d L st h1)) : dGoal G ks (o_iastore y x nxt rec d L (.inl v :: .inl i :: .inr (.inr (Nat.succ a)) :: st) h) := by
  obtain ⟨h3, e, z1, z2, w1, a1⟩ := s_iastore (rec := rec) (nxt := nxt) (y := y) (x := x) (d := d) (L := L) (st := st) (v := v) hw ha hi h1 h2
  exact gst e (g h3 z1 z2 w1 a1)
theorem gbastore {a i j n ct v : Nat} (hw : hwf h) (ha : hat h a = some (2, n, ct)) (hi : i % 4294967296 = j) (h1 : j < n) (h2 : j < 2147483648) (g : ∀ h1 : dH, h1.1 = h.1 → h1.2.1 = h.2.1 → hwf h1 → (∀ k, hat h1 k = if k = a then some (2, n, wst 8 ct j (v % 256)) else hat h k) → dGoal G ks (nxt rec d L st h1)) : dGoal G ks (o_bastore y x nxt rec d L (.inl v :: .inl i :: .inr (.inr (Nat.succ a)) :: st) h) := by
  obtain ⟨h3, e, z1, z2, w1, a1⟩ := s_bastore (rec := rec) (nxt := nxt) (y := y) (x := x) (d := d) (L := L) (st := st) (v := v) hw ha hi h1 h2
  exact gst e (g h3 z1 z2 w1 a1)
theorem gif {c : ClassFile.Cond} {a : Nat} (gt : dcd c a 0 = true → dGoal G ks (rec d y x L st h)) (gf : dcd c a 0 = false → dGoal G ks (nxt rec d L st h)) : dGoal G ks (o_if c y x nxt rec d L (.inl a :: st) h) := by
  cases e : dcd c a 0
  · exact gst (s_if_f e) (gf e)
  · exact gst (s_if_t e) (gt e)
theorem gicmp {c : ClassFile.Cond} {a b : Nat} (gt : dcd c a b = true → dGoal G ks (rec d y x L st h)) (gf : dcd c a b = false → dGoal G ks (nxt rec d L st h)) : dGoal G ks (o_icmp c y x nxt rec d L (.inl b :: .inl a :: st) h) := by
  cases e : dcd c a b
  · exact gst (s_icmp_f e) (gf e)
  · exact gst (s_icmp_t e) (gt e)
theorem dcd_lg {a b : Nat} : dcd .ge a b = !dcd .lt a b := by
  show cond (dLt a b) false true = !dLt a b
  cases dLt a b <;> rfl
theorem dcd_gl {a b : Nat} : dcd .le a b = !dcd .gt a b := by
  show cond (dLt b a) false true = !dLt b a
  cases dLt b a <;> rfl
end SG
section SB
variable {G : dR → Prop} {ks : List (Option dV → dH → dR)} {rec : dRec} {nxt : dCode} {d : Nat} {L : dL} {st : List dV} {h : dH}
theorem gbackv1 {w : dV} (hv : dthr (some w) = false) (g : dGoal G ks (nxt rec d L (w :: st) h)) : dGoal G ((fun v h' => cond (dthr v) (some (v, h')) (dgo nxt rec d L st v h')) :: ks) (some (some w, h)) := by
  show dGoal G ks (cond (dthr (some w)) _ (dgo nxt rec d L st (some w) h))
  rw [hv]; exact g
theorem gbackv0 (g : dGoal G ks (nxt rec d L st h)) : dGoal G ((fun v h' => cond (dthr v) (some (v, h')) (dgo nxt rec d L st v h')) :: ks) (some (none, h)) := g
theorem gbacks1 {w : dV} (hv : dthr (some w) = false) (g : dGoal G ks (nxt rec d L (w :: st) h)) : dGoal G ((fun v h' => cond (dthr v) none (dgo nxt rec d L st v h')) :: ks) (some (some w, h)) := by
  show dGoal G ks (cond (dthr (some w)) _ (dgo nxt rec d L st (some w) h))
  rw [hv]; exact g
theorem gbacks0 (g : dGoal G ks (nxt rec d L st h)) : dGoal G ((fun v h' => cond (dthr v) none (dgo nxt rec d L st v h')) :: ks) (some (none, h)) := g
end SB

/-! ===== an instruction, with sums for numbers ===== -/
theorem kw_obj {kd c : Nat} (h : kd = Nat.add c 4) : kw kd = 64 := by
  subst h
  show kw (c + 4) = 64
  rfl
theorem dI2b_lt {x : Nat} (h : x < 128) : dI2b x = x := by
  show cond (Nat.blt (x % 256) 128) (x % 256) _ = x
  rw [Nat.mod_eq_of_lt (show x < 256 by omega), di_blt.mpr h]; rfl
theorem dI2l_lt {x : Nat} (h : x < 2147483648) : dI2l x = x := by
  show cond (Nat.blt (x % 4294967296) 2147483648) (x % 4294967296) _ = x
  rw [Nat.mod_eq_of_lt (show x < 4294967296 by omega), di_blt.mpr h]; rfl
theorem scs_s (ρ : Nat → Nat) {a : sN} {y : Nat → sR} {lv : List sLf} (h : scs a none y = some lv) : sden ρ a = a.1 ∧ y a.1 = some lv := by
  rcases scs_spec ρ a none y with ⟨e, e2, -⟩ | e
  · rw [e] at h; exact ⟨e2, h⟩
  · rw [e] at h; cases h
/-- a content that is known -/
noncomputable def sKc (X : sX) (k : Nat → sR) : sR := Sum.rec (motive := fun _ => sR) k (fun _ => none) X
theorem sKc_s {X : sX} {k : Nat → sR} {lv : List sLf} (h : sKc X k = some lv) : ∃ c, X = .inl c ∧ k c = some lv := by
  cases X with
  | inl c => exact ⟨c, rfl, h⟩
  | inr O => cases h
theorem k_acopy {rec : dRec} {nxt : dCode} {y x d : Nat} {L : dL} {st : List dV} {h h2 : dH} {a1 a2 xn xd xs n1 n2 ct1 ct2 : Nat} (hc1 : hat h a1 = some (2, n1, ct1)) (hc2 : hat h a2 = some (2, n2, ct2)) (s3 : xn < 2147483648) (s1 : xs < 2147483648) (s2 : xd < 2147483648) (g1 : xs + xn ≤ n1) (g2 : xd + xn ≤ n2) (hd : 1 ≤ d) (hcat : dcat st ≤ 8) (hs : hset h a2 (2, n2, dcp ct1 ct2 xs xd xn) (fun h' => nxt rec d L st h') none = nxt rec d L st h2) : o_acopy y x nxt rec d L (.inl xn :: .inl xd :: .inr (.inr (a2 + 1)) :: .inl xs :: .inr (.inr (a1 + 1)) :: st) h = nxt rec d L st h2 := by
  have e1 : xn % 4294967296 = xn := Nat.mod_eq_of_lt (by omega)
  have e2 : xd % 4294967296 = xd := Nat.mod_eq_of_lt (by omega)
  have e3 : xs % 4294967296 = xs := Nat.mod_eq_of_lt (by omega)
  have e4 : Nat.mod xn 4294967296 = xn := e1
  have hg : (Nat.beq 2 2 && (Nat.beq 2 2 && (Nat.blt xn 2147483648 && (Nat.blt xs 2147483648 && (Nat.blt xd 2147483648 && (Nat.ble (Nat.add xs xn) n1 && (Nat.ble (Nat.add xd xn) n2 && (Nat.ble 1 d && Nat.ble (dcat st) 8)))))))) = true := by
    simp only [Bool.and_eq_true, Nat.beq_eq, Nat.blt_eq, Nat.ble_eq]
    exact ⟨trivial, trivial, s3, s1, s2, g1, g2, hd, hcat⟩
  simp only [o_acopy, ke_pop, ke_vI, ke_dia, hc1, hc2, ke_cel, e2, e3, e4, hg, cond_true, fo_eq]
  exact hs
/-- the text of a constant -/
noncomputable def sstr (a : Nat) (k : Nat → Nat → sR) : sR := cond (Nat.beq (dT0 + a % 1048576) a) (sO (nth dStr (a % 1048576)) fun z => k z.1 z.2) none
theorem sstr_s {a : Nat} {k : Nat → Nat → sR} {lv : List sLf} (h : sstr a k = some lv) : ∃ n ct, (∀ k2 : Nat → Nat → dR, dstr a k2 = k2 n ct) ∧ k n ct = some lv := by
  obtain ⟨h1, h2⟩ := scd_t h
  obtain ⟨z, h3, h4⟩ := sO_s h2
  refine ⟨z.1, z.2, fun k2 => ?_, h4⟩
  show cond (Nat.beq (dT0 + a % 1048576) a) (opt (nth dStr (a % 1048576)) _) none = _
  rw [h1, h3]; rfl
theorem k_strlen {rec : dRec} {nxt : dCode} {y x d : Nat} {L : dL} {st : List dV} {h : dH} {a n ct : Nat} (hs : ∀ k2 : Nat → Nat → dR, dstr a k2 = k2 n ct) (h1 : Nat.ble 4 d = true) (h2 : Nat.ble (dcat st) 8 = true) : o_strlen y x nxt rec d L (.inr (.inr (a + 1)) :: st) h = nxt rec d L (.inl n :: st) h := by simp only [o_strlen, ke_d1a, hs, h1, h2, cond_true]
theorem k_charAt {rec : dRec} {nxt : dCode} {y x d : Nat} {L : dL} {st : List dV} {h : dH} {a n ct i : Nat} (hs : ∀ k2 : Nat → Nat → dR, dstr a k2 = k2 n ct) (hi : i % 4294967296 = i) (hin : Nat.blt i n = true) (h1 : Nat.ble 4 d = true) (h2 : Nat.ble (dcat st) 8 = true) : o_charAt y x nxt rec d L (.inl i :: .inr (.inr (a + 1)) :: st) h = nxt rec d L (.inl (wd 8 ct i) :: st) h := by simp only [o_charAt, ke_dia, hi, hs, hin, h1, h2, cond_true, fo_eq]
theorem k_mml {rec : dRec} {nxt : dCode} {y x d : Nat} {L : dL} {st : List dV} {h : dH} {f : Nat → Nat → Nat} {a b : Nat} (h1 : Nat.ble 1 d = true) (h2 : Nat.ble (dcat st) 8 = true) : o_mml f y x nxt rec d L (.inr (.inl b) :: .inr (.inl a) :: st) h = nxt rec d L (.inr (.inl (f a b)) :: st) h := by simp only [o_mml, ke_d2l, h1, h2, cond_true, fo_eq]
/-- operations of which facts may be given -/
def opf (i a b : Nat) : Nat := match i with
  | 0 => dMul a b
  | 1 => dOr a b
  | 2 => dXor a b
  | 3 => dShl a b
  | 4 => dShr a b
  | 7 => dAnd a b
  | 8 => dLMul a b
  | 9 => dLXor a b
  | 10 => dLAnd a b
  | 11 => dLOr a b
  | 12 => dLShl a b
  | 13 => dLUshr a b
  | 14 => a % 256
  | 15 => dI2b a
  | 16 => dL2i a
  | 17 => dAdd a b
  | 18 => dSub a b
  | 19 => dCmp a b
  | 20 => cond (dcd .eq a b) 1 0
  | 21 => cond (dcd .ne a b) 1 0
  | 22 => cond (dcd .lt a b) 1 0
  | 23 => cond (dcd .ge a b) 1 0
  | 24 => cond (dcd .gt a b) 1 0
  | 25 => cond (dcd .le a b) 1 0
  | _ => 0
def cix : ClassFile.Cond → Nat
  | .eq => 20
  | .ne => 21
  | .lt => 22
  | .ge => 23
  | .gt => 24
  | .le => 25
theorem cix_f (c : ClassFile.Cond) (a b : Nat) : opf (cix c) a b = cond (dcd c a b) 1 0 := by cases c <;> rfl
theorem scd_fx {fx : Nat → sN → sN → Option sN} {ρ : Nat → Nat} (hfx : ∀ i a b v, fx i a b = some v → opf i (sden ρ a) (sden ρ b) = sden ρ v) {c : ClassFile.Cond} {a b : sN} {X t e : sR} {k : Bool → sR} {lv : List sLf} (h : X = (sO (fx (cix c) a b) fun v => scs v none fun n => cond (Nat.beq n 1) t (cond (Nat.beq n 0) e none)) ∨ X = k (dcd c (sden ρ a) (sden ρ b))) (hX : X = some lv) (hk : k = fun q => cond q t e := by rfl) : k (dcd c (sden ρ a) (sden ρ b)) = some lv := by
  rcases h with h | h
  · rw [h] at hX
    obtain ⟨v, g1, g2⟩ := sO_s hX
    have g3 := hfx _ _ _ _ g1
    rw [cix_f] at g3
    rcases scs_spec ρ v none (fun n => cond (Nat.beq n 1) t (cond (Nat.beq n 0) e none)) with ⟨q, q2, -⟩ | q
    · rw [q] at g2
      rw [q2] at g3
      rw [hk]
      cases hd : dcd c (sden ρ a) (sden ρ b) with
      | true =>
        rw [hd] at g3
        rw [← g3] at g2
        exact g2
      | false =>
        rw [hd] at g3
        rw [← g3] at g2
        exact g2
    · rw [q] at g2; cases g2
  · rw [← h]; exact hX
theorem sof_s {fx : Nat → sN → sN → Option sN} {ρ : Nat → Nat} {i : Nat} (hfx : ∀ a b v, fx i a b = some v → opf i (sden ρ a) (sden ρ b) = sden ρ v) {a b : sN} {k : sN → sR} {X : sR} {lv : List sLf} {q : Nat} (h : X = sO (fx i a b) k ∨ ∃ v, X = k v ∧ sden ρ v = q) (e : X = some lv) (hq : opf i (sden ρ a) (sden ρ b) = q := by rfl) : ∃ v, k v = some lv ∧ sden ρ v = q := by
  rcases h with h | ⟨v, h1, h2⟩
  · rw [h] at e
    obtain ⟨v, g1, g2⟩ := sO_s e
    exact ⟨v, g2, (hfx a b v g1).symm.trans hq⟩
  · rw [h1] at e
    exact ⟨v, e, h2⟩
theorem dMax_lt (x y : Nat) (hx : x < 2147483648) (hy : y < 2147483648) : dMax x y = cond true (max x y) (min x y) := by
  show cond (dLt x y) y x = max x y
  rw [dlt_eq hx hy]
  by_cases h : x < y
  · rw [decide_eq_true h]; show y = _; omega
  · rw [decide_eq_false h]; show x = _; omega
theorem dMin_lt (x y : Nat) (hx : x < 2147483648) (hy : y < 2147483648) : dMin x y = cond false (max x y) (min x y) := by
  show cond (dLt y x) y x = min x y
  rw [dlt_eq hy hx]
  by_cases h : y < x
  · rw [decide_eq_true h]; show y = _; omega
  · rw [decide_eq_false h]; show x = _; omega
/-- what an instruction does; one word each, so that only that one is laid out -/
abbrev sOp : Type := List (Nat × Nat) → (Nat → sN → sN → Option sN) → (Nat → Option Nat) → Nat → sL → List sV → sH → (sL → List sV → sH → sR) → (Nat → sL → List sV → sR) → (Bool → List sV → List sV → sR) → (Option sV → sR) → sR
noncomputable def q_iconst (x : Nat) : sOp := fun B fx kdo d L st S nx jp cl rt => nx L (.inl (x, []) :: st) S
noncomputable def q_lconst (x : Nat) : sOp := fun B fx kdo d L st S nx jp cl rt => nx L (.inr (.inl (x, [])) :: st) S
noncomputable def q_ldc (x : Nat) : sOp := fun B fx kdo d L st S nx jp cl rt => cond (Nat.blt x 4294967296) (nx L (.inl (x, []) :: st) S) (fo (Nat.succ (Nat.add dT0 (Nat.mod x 1048576))) fun a => nx L (.inr (.inr a) :: st) S)
noncomputable def q_iload_n (x : Nat) : sOp := fun B fx kdo d L st S nx jp cl rt => sO (slk1 L x) fun v => sI v fun a => nx L (.inl a :: st) S
noncomputable def q_lload_n (x : Nat) : sOp := fun B fx kdo d L st S nx jp cl rt => sO (slk1 L x) fun v => sJ v fun a => nx L (.inr (.inl a) :: st) S
noncomputable def q_aload_n (x : Nat) : sOp := fun B fx kdo d L st S nx jp cl rt => sO (slk1 L x) fun v => sA v fun _ => nx L (v :: st) S
noncomputable def q_istore_n (x : Nat) : sOp := fun B fx kdo d L st S nx jp cl rt => t1 st fun a r => fltc (sp1 x) L fun u => nx ((x, .inl a) :: u) r S
noncomputable def q_lstore_n (x : Nat) : sOp := fun B fx kdo d L st S nx jp cl rt => t1l st fun a r => fltc (sp2 x) L fun u => nx ((x, .inr (.inl a)) :: u) r S
noncomputable def q_astore_n (x : Nat) : sOp := fun B fx kdo d L st S nx jp cl rt => t1a st fun a r => fltc (sp1 x) L fun u => nx ((x, .inr (.inr (a + 1))) :: u) r S
noncomputable def q_iinc (x : Nat) : sOp := fun B fx kdo d L st S nx jp cl rt => fo (Nat.div x 4294967296) fun i => fo (Nat.mod x 4294967296) fun c => sO (slk1 L i) fun v => sI v fun a => sadd B 4294967296 a (c, []) none fun w => fltc (sp1 i) L fun u => nx ((i, .inl w) :: u) st S
noncomputable def q_iadd (x : Nat) : sOp := fun B fx kdo d L st S nx jp cl rt => t2 st fun a b r => sadd B 4294967296 a b (sO (fx 17 a b) fun v => nx L (.inl v :: r) S) fun v => nx L (.inl v :: r) S
noncomputable def q_isub (x : Nat) : sOp := fun B fx kdo d L st S nx jp cl rt => t2 st fun a b r => ssub B 4294967296 dSub a b (sO (fx 18 a b) fun v => nx L (.inl v :: r) S) fun v => nx L (.inl v :: r) S
noncomputable def q_imul (x : Nat) : sOp := fun B fx kdo d L st S nx jp cl rt => t2 st fun a b r => sbin dMul a b (sO (fx 0 a b) fun v => nx L (.inl v :: r) S) fun v => nx L (.inl v :: r) S
noncomputable def q_ior (x : Nat) : sOp := fun B fx kdo d L st S nx jp cl rt => t2 st fun a b r => sbin dOr a b (sO (fx 1 a b) fun v => nx L (.inl v :: r) S) fun v => nx L (.inl v :: r) S
noncomputable def q_ixor (x : Nat) : sOp := fun B fx kdo d L st S nx jp cl rt => t2 st fun a b r => sbin dXor a b (sO (fx 2 a b) fun v => nx L (.inl v :: r) S) fun v => nx L (.inl v :: r) S
noncomputable def q_ishl (x : Nat) : sOp := fun B fx kdo d L st S nx jp cl rt => t2 st fun a b r => sbin dShl a b (sO (fx 3 a b) fun v => nx L (.inl v :: r) S) fun v => nx L (.inl v :: r) S
noncomputable def q_ishr (x : Nat) : sOp := fun B fx kdo d L st S nx jp cl rt => t2 st fun a b r => sbin dShr a b (sO (fx 4 a b) fun v => nx L (.inl v :: r) S) fun v => nx L (.inl v :: r) S
noncomputable def q_iand (x : Nat) : sOp := fun B fx kdo d L st S nx jp cl rt => t2 st fun a b r => sand B 4294967296 dAnd a b (sO (fx 7 a b) fun v => nx L (.inl v :: r) S) fun v => nx L (.inl v :: r) S
noncomputable def q_idiv (x : Nat) : sOp := fun B fx kdo d L st S nx jp cl rt => t2 st fun a b r => scs b none fun y => cond (dZ y) none (sbin dDiv a b none fun v => nx L ((.inl v : sV) :: r) S)
noncomputable def q_irem (x : Nat) : sOp := fun B fx kdo d L st S nx jp cl rt => t2 st fun a b r => scs b none fun y => cond (dZ y) none (sbin dRem a b none fun v => nx L ((.inl v : sV) :: r) S)
noncomputable def q_ladd (x : Nat) : sOp := fun B fx kdo d L st S nx jp cl rt => t2l st fun a b r => sadd B 18446744073709551616 a b none fun v => nx L (.inr (.inl v) :: r) S
noncomputable def q_lsub (x : Nat) : sOp := fun B fx kdo d L st S nx jp cl rt => t2l st fun a b r => ssub B 18446744073709551616 dLSub a b none fun v => nx L (.inr (.inl v) :: r) S
noncomputable def q_lmul (x : Nat) : sOp := fun B fx kdo d L st S nx jp cl rt => t2l st fun a b r => sbin dLMul a b (sO (fx 8 a b) fun v => nx L (.inr (.inl v) :: r) S) fun v => nx L (.inr (.inl v) :: r) S
noncomputable def q_lxor (x : Nat) : sOp := fun B fx kdo d L st S nx jp cl rt => t2l st fun a b r => sbin dLXor a b (sO (fx 9 a b) fun v => nx L (.inr (.inl v) :: r) S) fun v => nx L (.inr (.inl v) :: r) S
noncomputable def q_land (x : Nat) : sOp := fun B fx kdo d L st S nx jp cl rt => t2l st fun a b r => sand B 18446744073709551616 dLAnd a b (sO (fx 10 a b) fun v => nx L (.inr (.inl v) :: r) S) fun v => nx L (.inr (.inl v) :: r) S
noncomputable def q_lor (x : Nat) : sOp := fun B fx kdo d L st S nx jp cl rt => t2l st fun a b r => sor B 18446744073709551616 dLOr a b (sO (fx 11 a b) fun v => nx L (.inr (.inl v) :: r) S) fun v => nx L (.inr (.inl v) :: r) S
noncomputable def q_lshl (x : Nat) : sOp := fun B fx kdo d L st S nx jp cl rt => til st fun a b r => sbin dLShl a b (sO (fx 12 a b) fun v => nx L (.inr (.inl v) :: r) S) fun v => nx L (.inr (.inl v) :: r) S
noncomputable def q_lushr (x : Nat) : sOp := fun B fx kdo d L st S nx jp cl rt => til st fun a b r => sbin dLUshr a b (sO (fx 13 a b) fun v => nx L (.inr (.inl v) :: r) S) fun v => nx L (.inr (.inl v) :: r) S
noncomputable def q_lcmp (x : Nat) : sOp := fun B fx kdo d L st S nx jp cl rt => t2l st fun a b r => slc B a b (sO (fx 19 a b) fun v => nx L (.inl v :: r) S) fun v => nx L (.inl v :: r) S
noncomputable def q_ineg (x : Nat) : sOp := fun B fx kdo d L st S nx jp cl rt => t1 st fun a r => sun B dNeg 0 a none fun v => nx L (.inl v :: r) S
noncomputable def q_i2b (x : Nat) : sOp := fun B fx kdo d L st S nx jp cl rt => t1 st fun a r => sun B dI2b 128 a (sO (fx 15 a (0, [])) fun v => nx L (.inl v :: r) S) fun v => nx L (.inl v :: r) S
noncomputable def q_i2l (x : Nat) : sOp := fun B fx kdo d L st S nx jp cl rt => t1 st fun a r => sun B dI2l 2147483648 a none fun v => nx L (.inr (.inl v) :: r) S
noncomputable def q_l2i (x : Nat) : sOp := fun B fx kdo d L st S nx jp cl rt => t1l st fun a r => sun B dL2i 4294967296 a (sO (fx 16 a (0, [])) fun v => nx L (.inl v :: r) S) fun v => nx L (.inl v :: r) S
noncomputable def q_ifCond (c : ClassFile.Cond) (x : Nat) : sOp := fun B fx kdo d L st S nx jp cl rt => t1 st fun a r => scd B c a (0, []) (sO (fx (cix c) a (0, [])) fun v => scs v none fun n => cond (Nat.beq n 1) (jp x L r) (cond (Nat.beq n 0) (nx L r S) none)) fun t => cond t (jp x L r) (nx L r S)
noncomputable def q_if_icmp (c : ClassFile.Cond) (x : Nat) : sOp := fun B fx kdo d L st S nx jp cl rt => t2 st fun a b r => scd B c a b (sO (fx (cix c) a b) fun v => scs v none fun n => cond (Nat.beq n 1) (jp x L r) (cond (Nat.beq n 0) (nx L r S) none)) fun t => cond t (jp x L r) (nx L r S)
noncomputable def q_goto (x : Nat) : sOp := fun B fx kdo d L st S nx jp cl rt => jp x L st
noncomputable def q_tableswitch (x : Nat) : sOp := fun B fx kdo d L st S nx jp cl rt => t1 st fun a r => scs a none fun a => fo (dSub a (Nat.mod x 4294967296)) fun j => fo (Nat.shiftRight x 32) fun w => cond (Nat.blt j (wq 16 w 0)) (fo (wq 16 w (Nat.succ (Nat.succ j))) fun t => jp t L r) (fo (wq 16 w 1) fun t => jp t L r)
noncomputable def q_lookupswitch (x : Nat) : sOp := fun B fx kdo d L st S nx jp cl rt => t1 st fun a r => scs a none fun a => fo (Nat.mod a 4294967296) fun a => fo (Nat.shiftRight x 32) fun w => fo (dlsw w a (wq 16 x 1) (wq 16 x 0) 0) fun t => jp t L r
noncomputable def q_dup (x : Nat) : sOp := fun B fx kdo d L st S nx jp cl rt => sP st fun v r => cond (sisl v) none (nx L (v :: v :: r) S)
noncomputable def q_pop (x : Nat) : sOp := fun B fx kdo d L st S nx jp cl rt => sP st fun v r => cond (sisl v) none (nx L r S)
noncomputable def q_dup2 (x : Nat) : sOp := fun B fx kdo d L st S nx jp cl rt => sP st fun v r => cond (sisl v) (nx L (v :: v :: r) S) (sP r fun w r2 => cond (sisl w) none (nx L (v :: w :: v :: w :: r2) S))
noncomputable def q_getfield (x : Nat) : sOp := fun B fx kdo d L st S nx jp cl rt => t1a st fun a r => slk S a none fun kd n X => cond (Nat.beq kd (Nat.add (Nat.div x 1024) 4)) (fo (Nat.mod (Nat.div x 4) 256) fun i => srd B 64 X (i, []) none fun w => sfv (Nat.mod x 4) w fun v => nx L (v :: r) S) none
noncomputable def q_putfield (x : Nat) : sOp := fun B fx kdo d L st S nx jp cl rt => sP st fun v st1 => t1a st1 fun a r => slk S a none fun kd n X => cond (Nat.beq kd (Nat.add (Nat.div x 1024) 4)) (sfe B (Nat.mod x 4) v fun w => fo (Nat.mod (Nat.div x 4) 256) fun i => swr B 64 X (i, []) w none fun X2 => sst a (kd, n, X2) S fun S2 => nx L r S2) none
noncomputable def q_arraylength (x : Nat) : sOp := fun B fx kdo d L st S nx jp cl rt => t1a st fun a r => slk S a none fun kd n _ => cond (Nat.blt kd 4) (nx L (.inl (n, []) :: r) S) none
noncomputable def q_iaload (x : Nat) : sOp := fun B fx kdo d L st S nx jp cl rt => tia st fun a i r => slk S a none fun kd n X => cond (Nat.beq kd 0) (sin B i n (srd B 32 X i none fun w => nx L (.inl w :: r) S)) none
noncomputable def q_laload (x : Nat) : sOp := fun B fx kdo d L st S nx jp cl rt => tia st fun a i r => slk S a none fun kd n X => cond (Nat.beq kd 1) (sin B i n (srd B 64 X i none fun w => nx L (.inr (.inl w) :: r) S)) none
noncomputable def q_baload (x : Nat) : sOp := fun B fx kdo d L st S nx jp cl rt => tia st fun a i r => slk S a none fun kd n X => cond (Nat.beq kd 2) (sin B i n (srd B 8 X i none fun w => sun B dI2b 128 w none fun v => nx L (.inl v :: r) S)) (cond (Nat.beq kd 3) (sin B i n (srd B 8 X i none fun w => nx L (.inl w :: r) S)) none)
noncomputable def q_iastore (x : Nat) : sOp := fun B fx kdo d L st S nx jp cl rt => tiia st fun a i v r => slk S a none fun kd n X => cond (Nat.beq kd 0) (sin B i n (sun B (fun x => Nat.mod x 4294967296) 4294967296 v none fun w => swr B 32 X i w none fun X2 => sst a (0, n, X2) S fun S2 => nx L r S2)) none
noncomputable def q_lastore (x : Nat) : sOp := fun B fx kdo d L st S nx jp cl rt => tlia st fun a i v r => slk S a none fun kd n X => cond (Nat.beq kd 1) (sin B i n (sun B (fun x => Nat.mod x 18446744073709551616) 18446744073709551616 v none fun w => swr B 64 X i w none fun X2 => sst a (1, n, X2) S fun S2 => nx L r S2)) none
noncomputable def q_bastore (x : Nat) : sOp := fun B fx kdo d L st S nx jp cl rt => tiia st fun a i v r => slk S a none fun kd n X => cond (Nat.beq kd 2) (sin B i n (sun B (fun x => Nat.mod x 256) 256 v (sO (fx 14 v (0, [])) fun w => swr B 8 X i w none fun X2 => sst a (2, n, X2) S fun S2 => nx L r S2) fun w => swr B 8 X i w none fun X2 => sst a (2, n, X2) S fun S2 => nx L r S2)) (cond (Nat.beq kd 3) (sin B i n (sun B (fun x => Nat.mod x 2) 2 v none fun w => swr B 8 X i w none fun X2 => sst a (3, n, X2) S fun S2 => nx L r S2)) none)
noncomputable def q_invokestatic (x : Nat) : sOp := fun B fx kdo d L st S nx jp cl rt => cond (Nat.ble 1099511627776 x) (cond (Nat.beq x 1099511627777) (t2 st fun a b r => cond (Nat.ble 1 d) (cond (Nat.ble (sdcat r) 8) (smx B dMax true a b fun v => nx L (.inl v :: r) S) none) none) (cond (Nat.beq x 1099511627778) (t2 st fun a b r => cond (Nat.ble 1 d) (cond (Nat.ble (sdcat r) 8) (smx B dMin false a b fun v => nx L (.inl v :: r) S) none) none) (cond (Nat.beq x 1099511627782) (t1 st fun xn r0 => tia r0 fun a2 xd r1 => tia r1 fun a1 xs r => scs xn none fun n => scs xd none fun d0 => scs xs none fun s0 => slk S a1 none fun kd1 n1 X1 => slk S a2 none fun kd2 n2 X2 => sKc X1 fun c1 => sKc X2 fun c2 => cond (Nat.beq kd1 2 && (Nat.beq kd2 2 && (Nat.blt n 2147483648 && (Nat.blt s0 2147483648 && (Nat.blt d0 2147483648 && (Nat.ble (Nat.add s0 n) n1 && (Nat.ble (Nat.add d0 n) n2 && (Nat.ble 1 d && Nat.ble (sdcat r) 8)))))))) (fo (dcp c1 c2 s0 d0 n) fun c => sst a2 (2, n2, .inl c) S fun S2 => nx L r S2) none) (cond (Nat.beq x 1099511627779) (t2l st fun a b r => cond (Nat.ble 1 d) (cond (Nat.ble (sdcat r) 8) (sbin dLMax a b none fun v => nx L (.inr (.inl v) :: r) S) none) none) (cond (Nat.beq x 1099511627780) (t2l st fun a b r => cond (Nat.ble 1 d) (cond (Nat.ble (sdcat r) 8) (sbin dLMin a b none fun v => nx L (.inr (.inl v) :: r) S) none) none) none))))) (spop (Nat.mod (Nat.div x 16) 16) st [] fun as r => cond (Nat.ble (sdcat r) 8) (cl false as r) none)
noncomputable def q_invokevirtual (x : Nat) : sOp := fun B fx kdo d L st S nx jp cl rt => cond (Nat.ble 1099511627776 x) (cond (Nat.ble 2199023255552 x) none (cond (Nat.beq x 1099511627777) (t1a st fun a r => sstr a fun n _ => cond (Nat.ble 4 d) (cond (Nat.ble (sdcat r) 8) (nx L (.inl (n, []) :: r) S) none) none) (cond (Nat.beq x 1099511627778) (tia st fun a i r => scs i none fun i => sstr a fun n ct => cond (Nat.blt i 4294967296) (cond (Nat.blt i n) (cond (Nat.ble 4 d) (cond (Nat.ble (sdcat r) 8) (fo (wd 8 ct i) fun w => nx L (.inl (w, []) :: r) S) none) none) none) none) none))) (spop (Nat.mod (Nat.div x 16) 16) st [] fun as r1 => t1a r1 fun a r => sO (kdo a) fun kd => cond (Nat.beq kd (Nat.add (Nat.mod x 16) 4)) (cond (Nat.ble (sdcat r) 8) (cl true (.inr (.inr (a + 1)) :: as) r) none) none)
noncomputable def q_invokespecial (x : Nat) : sOp := fun B fx kdo d L st S nx jp cl rt => cond (Nat.ble 1099511627776 x) none (spop (Nat.mod (Nat.div x 16) 16) st [] fun as r1 => t1a r1 fun a r => cond (Nat.ble (sdcat r) 8) (cl false (.inr (.inr (a + 1)) :: as) r) none)
noncomputable def q_return_ (x : Nat) : sOp := fun B fx kdo d L st S nx jp cl rt => List.rec (motive := fun _ => sR) (rt none) (fun _ _ _ => none) st
noncomputable def q_ireturn (x : Nat) : sOp := fun B fx kdo d L st S nx jp cl rt => t1 st fun v r => List.rec (motive := fun _ => sR) (cond (Nat.beq x 1) (rt (some (.inl v))) (sbel B 2 v none (rt (some (.inl v))))) (fun _ _ _ => none) r
noncomputable def q_lreturn (x : Nat) : sOp := fun B fx kdo d L st S nx jp cl rt => t1l st fun v r => List.rec (motive := fun _ => sR) (rt (some (.inr (.inl v)))) (fun _ _ _ => none) r
noncomputable def q_none : sOp := fun _ _ _ _ _ _ _ _ _ _ _ => none
noncomputable def sopO (ins : Instr) (x : Nat) : sOp := match ins with
  | .iconst _ => q_iconst x
  | .bipush _ => q_iconst x
  | .sipush _ => q_iconst x
  | .lconst _ => q_lconst x
  | .ldc2_w _ => q_lconst x
  | .ldc _ => q_ldc x
  | .ldc_w _ => q_ldc x
  | .iload_n _ => q_iload_n x
  | .iload _ => q_iload_n x
  | .lload_n _ => q_lload_n x
  | .lload _ => q_lload_n x
  | .aload_n _ => q_aload_n x
  | .aload _ => q_aload_n x
  | .istore_n _ => q_istore_n x
  | .istore _ => q_istore_n x
  | .lstore_n _ => q_lstore_n x
  | .lstore _ => q_lstore_n x
  | .astore_n _ => q_astore_n x
  | .astore _ => q_astore_n x
  | .iinc _ _ => q_iinc x
  | .iadd => q_iadd x
  | .isub => q_isub x
  | .imul => q_imul x
  | .ior => q_ior x
  | .ixor => q_ixor x
  | .ishl => q_ishl x
  | .ishr => q_ishr x
  | .iand => q_iand x
  | .idiv => q_idiv x
  | .irem => q_irem x
  | .ladd => q_ladd x
  | .lsub => q_lsub x
  | .lmul => q_lmul x
  | .lxor => q_lxor x
  | .land => q_land x
  | .lor => q_lor x
  | .lshl => q_lshl x
  | .lushr => q_lushr x
  | .lcmp => q_lcmp x
  | .ineg => q_ineg x
  | .i2b => q_i2b x
  | .i2l => q_i2l x
  | .l2i => q_l2i x
  | .ifCond c _ => q_ifCond c x
  | .if_icmp c _ => q_if_icmp c x
  | .goto _ => q_goto x
  | .tableswitch _ _ _ _ => q_tableswitch x
  | .lookupswitch _ _ => q_lookupswitch x
  | .dup => q_dup x
  | .pop => q_pop x
  | .dup2 => q_dup2 x
  | .getfield _ => q_getfield x
  | .putfield _ => q_putfield x
  | .arraylength => q_arraylength x
  | .iaload => q_iaload x
  | .laload => q_laload x
  | .baload => q_baload x
  | .iastore => q_iastore x
  | .lastore => q_lastore x
  | .bastore => q_bastore x
  | .invokestatic _ => q_invokestatic x
  | .invokevirtual _ => q_invokevirtual x
  | .invokespecial _ => q_invokespecial x
  | .return_ => q_return_ x
  | .ireturn => q_ireturn x
  | .lreturn => q_lreturn x
  | _ => q_none
noncomputable def sop (B : List (Nat × Nat)) (fx : Nat → sN → sN → Option sN) (kdo : Nat → Option Nat) (d : Nat) (ins : Instr) (x : Nat) (L : sL) (st : List sV) (S : sH) (nx : sL → List sV → sH → sR) (jp : Nat → sL → List sV → sR) (cl : Bool → List sV → List sV → sR) (rt : Option sV → sR) : sR := sopO ins x B fx kdo d L st S nx jp cl rt
section S
variable {ρ : Nat → Nat} {B : List (Nat × Nat)} {fx : Nat → sN → sN → Option sN} {kdo : Nat → Option Nat} {Op : Nat → Bool} {g : dH} {I : dH → Prop} {T : dR → Prop} {nxt : dCode} {rec : dRec} {y d x : Nat} {ins : Instr} {L : sL} {st : List sV} {S : sH} {h' : dH} {lv : List sLf} {nx : sL → List sV → sH → sR} {jp : Nat → sL → List sV → sR} {cl : Bool → List sV → List sV → sR} {rt : Option sV → sR}
set_option maxHeartbeats 4000000 in
theorem sop_ok (hB : sok ρ B) (hfx : ∀ i a b v, fx i a b = some v → opf i (sden ρ a) (sden ρ b) = sden ρ v) (hIo : ∀ u u2 : dH, (∀ q, Op q = true → hat u2 q = hat u q) → hwf u2 → I u → I u2)
    (hK : ∀ a kd, kdo a = some kd → ∀ S u, ssat ρ Op g S u → I u → ∃ n ct, hat u a = some (kd, n, ct))
    (hS : ssat ρ Op g S h') (hI : I h')
    (hnx : ∀ L2 st2 S2 u, ssat ρ Op g S2 u → I u → nx L2 st2 S2 = some lv → T (nxt rec d (slD ρ L2) (st2.map (svd ρ)) u))
    (hjp : ∀ pc L2 st2, jp pc L2 st2 = some lv → T (rec d y pc (slD ρ L2) (st2.map (svd ρ)) h'))
    (hcl : ∀ fl as r, cl fl as r = some lv → T (dcall rec d x (as.map (svd ρ)) h' fun v u => cond (dthr v) (cond fl (some (v, u)) none) (dgo nxt rec d (slD ρ L) (r.map (svd ρ)) v u)))
    (hrt : ∀ v, rt v = some lv → T (some (v.map (svd ρ), h')))
    (h : sop B fx kdo d ins x L st S nx jp cl rt = some lv) : ∃ o, dop ins x = some o ∧ T (o y x nxt rec d (slD ρ L) (st.map (svd ρ)) h') := by
  unfold sop sopO at h
  split at h
  · change (nx L (.inl (x, []) :: st) S) = some lv at h
    refine ⟨_, rfl, ?_⟩
    exact hnx _ ((.inl (x, []) : sV) :: st) _ _ hS hI h
  · change (nx L (.inl (x, []) :: st) S) = some lv at h
    refine ⟨_, rfl, ?_⟩
    exact hnx _ ((.inl (x, []) : sV) :: st) _ _ hS hI h
  · change (nx L (.inl (x, []) :: st) S) = some lv at h
    refine ⟨_, rfl, ?_⟩
    exact hnx _ ((.inl (x, []) : sV) :: st) _ _ hS hI h
  · change (nx L (.inr (.inl (x, [])) :: st) S) = some lv at h
    refine ⟨_, rfl, ?_⟩
    exact hnx _ ((.inr (.inl (x, [])) : sV) :: st) _ _ hS hI h
  · change (nx L (.inr (.inl (x, [])) :: st) S) = some lv at h
    refine ⟨_, rfl, ?_⟩
    exact hnx _ ((.inr (.inl (x, [])) : sV) :: st) _ _ hS hI h
  · change (cond (Nat.blt x 4294967296) (nx L (.inl (x, []) :: st) S) (fo (Nat.succ (Nat.add dT0 (Nat.mod x 1048576))) fun a => nx L (.inr (.inr a) :: st) S)) = some lv at h
    cases h1 : Nat.blt x 4294967296 with
    | true =>
      rw [h1] at h
      refine ⟨o_ldc, by show cond (Nat.blt x 4294967296) _ _ = _; rw [h1]; rfl, ?_⟩
      show T (cond (Nat.blt x 4294967296) _ _)
      rw [h1]
      exact hnx _ ((.inl (x, []) : sV) :: st) _ _ hS hI h
    | false =>
      rw [h1, cond_false, fo_eq] at h
      refine ⟨o_ldt, by show cond (Nat.blt x 4294967296) _ _ = _; rw [h1]; rfl, ?_⟩
      show T (cond (Nat.blt x 4294967296) none _)
      rw [h1]
      exact hnx _ ((.inr (.inr (Nat.succ (Nat.add dT0 (Nat.mod x 1048576)))) : sV) :: st) _ _ hS hI h
  · change (cond (Nat.blt x 4294967296) (nx L (.inl (x, []) :: st) S) (fo (Nat.succ (Nat.add dT0 (Nat.mod x 1048576))) fun a => nx L (.inr (.inr a) :: st) S)) = some lv at h
    cases h1 : Nat.blt x 4294967296 with
    | true =>
      rw [h1] at h
      refine ⟨o_ldc, by show cond (Nat.blt x 4294967296) _ _ = _; rw [h1]; rfl, ?_⟩
      show T (cond (Nat.blt x 4294967296) _ _)
      rw [h1]
      exact hnx _ ((.inl (x, []) : sV) :: st) _ _ hS hI h
    | false =>
      rw [h1, cond_false, fo_eq] at h
      refine ⟨o_ldt, by show cond (Nat.blt x 4294967296) _ _ = _; rw [h1]; rfl, ?_⟩
      show T (cond (Nat.blt x 4294967296) none _)
      rw [h1]
      exact hnx _ ((.inr (.inr (Nat.succ (Nat.add dT0 (Nat.mod x 1048576)))) : sV) :: st) _ _ hS hI h
  · change (sO (slk1 L x) fun v => sI v fun a => nx L (.inl a :: st) S) = some lv at h
    obtain ⟨v, h1, h⟩ := sO_s h
    obtain ⟨a, rfl, h0⟩ := sI_s h
    refine ⟨_, rfl, ?_⟩
    refine Eq.mpr (congrArg T (k_iload (n := sden ρ a) (by rw [slk1_d, h1]; rfl))) ?_
    exact hnx _ ((.inl a : sV) :: st) _ _ hS hI h0
  · change (sO (slk1 L x) fun v => sI v fun a => nx L (.inl a :: st) S) = some lv at h
    obtain ⟨v, h1, h⟩ := sO_s h
    obtain ⟨a, rfl, h0⟩ := sI_s h
    refine ⟨_, rfl, ?_⟩
    refine Eq.mpr (congrArg T (k_iload (n := sden ρ a) (by rw [slk1_d, h1]; rfl))) ?_
    exact hnx _ ((.inl a : sV) :: st) _ _ hS hI h0
  · change (sO (slk1 L x) fun v => sJ v fun a => nx L (.inr (.inl a) :: st) S) = some lv at h
    obtain ⟨v, h1, h⟩ := sO_s h
    obtain ⟨a, rfl, h0⟩ := sJ_s h
    refine ⟨_, rfl, ?_⟩
    refine Eq.mpr (congrArg T (k_lload (n := sden ρ a) (by rw [slk1_d, h1]; rfl))) ?_
    exact hnx _ ((.inr (.inl a) : sV) :: st) _ _ hS hI h0
  · change (sO (slk1 L x) fun v => sJ v fun a => nx L (.inr (.inl a) :: st) S) = some lv at h
    obtain ⟨v, h1, h⟩ := sO_s h
    obtain ⟨a, rfl, h0⟩ := sJ_s h
    refine ⟨_, rfl, ?_⟩
    refine Eq.mpr (congrArg T (k_lload (n := sden ρ a) (by rw [slk1_d, h1]; rfl))) ?_
    exact hnx _ ((.inr (.inl a) : sV) :: st) _ _ hS hI h0
  · change (sO (slk1 L x) fun v => sA v fun _ => nx L (v :: st) S) = some lv at h
    obtain ⟨v, h1, h⟩ := sO_s h
    obtain ⟨a, rfl, h0⟩ := sA_s h
    refine ⟨_, rfl, ?_⟩
    refine Eq.mpr (congrArg T (k_aload (n := a) (by rw [slk1_d, h1]; rfl))) ?_
    exact hnx _ ((.inr (.inr (a + 1)) : sV) :: st) _ _ hS hI h0
  · change (sO (slk1 L x) fun v => sA v fun _ => nx L (v :: st) S) = some lv at h
    obtain ⟨v, h1, h⟩ := sO_s h
    obtain ⟨a, rfl, h0⟩ := sA_s h
    refine ⟨_, rfl, ?_⟩
    refine Eq.mpr (congrArg T (k_aload (n := a) (by rw [slk1_d, h1]; rfl))) ?_
    exact hnx _ ((.inr (.inr (a + 1)) : sV) :: st) _ _ hS hI h0
  · change (t1 st fun a r => fltc (sp1 x) L fun u => nx ((x, .inl a) :: u) r S) = some lv at h
    obtain ⟨a, r, rfl, h0⟩ := t1_s h
    rw [sy_flt] at h0
    refine ⟨_, rfl, ?_⟩
    refine Eq.mpr (congrArg T (k_istore (v := sden ρ a) (st := r.map (svd ρ)))) ?_
    rw [sy_f1]
    exact hnx ((x, .inl a) :: L.filter (sp1 x)) _ _ _ hS hI h0
  · change (t1 st fun a r => fltc (sp1 x) L fun u => nx ((x, .inl a) :: u) r S) = some lv at h
    obtain ⟨a, r, rfl, h0⟩ := t1_s h
    rw [sy_flt] at h0
    refine ⟨_, rfl, ?_⟩
    refine Eq.mpr (congrArg T (k_istore (v := sden ρ a) (st := r.map (svd ρ)))) ?_
    rw [sy_f1]
    exact hnx ((x, .inl a) :: L.filter (sp1 x)) _ _ _ hS hI h0
  · change (t1l st fun a r => fltc (sp2 x) L fun u => nx ((x, .inr (.inl a)) :: u) r S) = some lv at h
    obtain ⟨a, r, rfl, h0⟩ := t1l_s h
    rw [sy_flt] at h0
    refine ⟨_, rfl, ?_⟩
    refine Eq.mpr (congrArg T (k_lstore (v := sden ρ a) (st := r.map (svd ρ)))) ?_
    rw [sy_f2]
    exact hnx ((x, .inr (.inl a)) :: L.filter (sp2 x)) _ _ _ hS hI h0
  · change (t1l st fun a r => fltc (sp2 x) L fun u => nx ((x, .inr (.inl a)) :: u) r S) = some lv at h
    obtain ⟨a, r, rfl, h0⟩ := t1l_s h
    rw [sy_flt] at h0
    refine ⟨_, rfl, ?_⟩
    refine Eq.mpr (congrArg T (k_lstore (v := sden ρ a) (st := r.map (svd ρ)))) ?_
    rw [sy_f2]
    exact hnx ((x, .inr (.inl a)) :: L.filter (sp2 x)) _ _ _ hS hI h0
  · change (t1a st fun a r => fltc (sp1 x) L fun u => nx ((x, .inr (.inr (a + 1))) :: u) r S) = some lv at h
    obtain ⟨a, r, rfl, h0⟩ := t1a_s h
    rw [sy_flt] at h0
    refine ⟨_, rfl, ?_⟩
    refine Eq.mpr (congrArg T (k_astore (v := a) (st := r.map (svd ρ)))) ?_
    rw [sy_f1]
    exact hnx ((x, .inr (.inr (a + 1))) :: L.filter (sp1 x)) _ _ _ hS hI h0
  · change (t1a st fun a r => fltc (sp1 x) L fun u => nx ((x, .inr (.inr (a + 1))) :: u) r S) = some lv at h
    obtain ⟨a, r, rfl, h0⟩ := t1a_s h
    rw [sy_flt] at h0
    refine ⟨_, rfl, ?_⟩
    refine Eq.mpr (congrArg T (k_astore (v := a) (st := r.map (svd ρ)))) ?_
    rw [sy_f1]
    exact hnx ((x, .inr (.inr (a + 1))) :: L.filter (sp1 x)) _ _ _ hS hI h0
  · change (fo (Nat.div x 4294967296) fun i => fo (Nat.mod x 4294967296) fun c => sO (slk1 L i) fun v => sI v fun a => sadd B 4294967296 a (c, []) none fun w => fltc (sp1 i) L fun u => nx ((i, .inl w) :: u) st S) = some lv at h
    rw [fo_eq, fo_eq] at h
    obtain ⟨v, h1, h⟩ := sO_s h
    obtain ⟨a, rfl, h0⟩ := sI_s h
    obtain ⟨w, h2, h3⟩ := sor_s (sadd_spec hB _ (by decide) a (Nat.mod x 4294967296, []) none _) h0
    rw [h2, sy_flt] at h0
    refine ⟨_, rfl, ?_⟩
    refine Eq.mpr (congrArg T (k_iinc (n := sden ρ a) (by rw [slk1_d, h1]; rfl))) ?_
    rw [sy_f1, show dAdd (sden ρ a) (Nat.mod x 4294967296) = sden ρ w from h3.symm]
    exact hnx ((Nat.div x 4294967296, .inl w) :: L.filter (sp1 (Nat.div x 4294967296))) _ _ _ hS hI h0
  · change (t2 st fun a b r => sadd B 4294967296 a b (sO (fx 17 a b) fun v => nx L (.inl v :: r) S) fun v => nx L (.inl v :: r) S) = some lv at h
    obtain ⟨a, b, r, rfl, h0⟩ := t2_s h
    obtain ⟨v, h0, h3⟩ := sof_s (hfx 17) (sadd_spec hB _ (by decide) a b _ _) h0
    refine ⟨_, rfl, ?_⟩
    refine Eq.mpr (congrArg T (k_bin (a := sden ρ a) (b := sden ρ b) (st := r.map (svd ρ)))) ?_
    rw [show dAdd (sden ρ a) (sden ρ b) = sden ρ v from h3.symm]
    exact hnx _ ((.inl v : sV) :: r) _ _ hS hI h0
  · change (t2 st fun a b r => ssub B 4294967296 dSub a b (sO (fx 18 a b) fun v => nx L (.inl v :: r) S) fun v => nx L (.inl v :: r) S) = some lv at h
    obtain ⟨a, b, r, rfl, h0⟩ := t2_s h
    obtain ⟨v, h0, h3⟩ := sof_s (hfx 18) (ssub_spec hB _ (by decide) dSub (fun _ _ => rfl) a b _ _) h0
    refine ⟨_, rfl, ?_⟩
    refine Eq.mpr (congrArg T (k_bin (a := sden ρ a) (b := sden ρ b) (st := r.map (svd ρ)))) ?_
    rw [show dSub (sden ρ a) (sden ρ b) = sden ρ v from h3.symm]
    exact hnx _ ((.inl v : sV) :: r) _ _ hS hI h0
  · change (t2 st fun a b r => sbin dMul a b (sO (fx 0 a b) fun v => nx L (.inl v :: r) S) fun v => nx L (.inl v :: r) S) = some lv at h
    obtain ⟨a, b, r, rfl, h0⟩ := t2_s h
    obtain ⟨v, h0, h3⟩ := sof_s (hfx 0) (sbin_spec ρ dMul a b _ _) h0
    refine ⟨_, rfl, ?_⟩
    refine Eq.mpr (congrArg T (k_bin (a := sden ρ a) (b := sden ρ b) (st := r.map (svd ρ)))) ?_
    rw [show dMul (sden ρ a) (sden ρ b) = sden ρ v from h3.symm]
    exact hnx _ ((.inl v : sV) :: r) _ _ hS hI h0
  · change (t2 st fun a b r => sbin dOr a b (sO (fx 1 a b) fun v => nx L (.inl v :: r) S) fun v => nx L (.inl v :: r) S) = some lv at h
    obtain ⟨a, b, r, rfl, h0⟩ := t2_s h
    obtain ⟨v, h0, h3⟩ := sof_s (hfx 1) (sbin_spec ρ dOr a b _ _) h0
    refine ⟨_, rfl, ?_⟩
    refine Eq.mpr (congrArg T (k_bin (a := sden ρ a) (b := sden ρ b) (st := r.map (svd ρ)))) ?_
    rw [show dOr (sden ρ a) (sden ρ b) = sden ρ v from h3.symm]
    exact hnx _ ((.inl v : sV) :: r) _ _ hS hI h0
  · change (t2 st fun a b r => sbin dXor a b (sO (fx 2 a b) fun v => nx L (.inl v :: r) S) fun v => nx L (.inl v :: r) S) = some lv at h
    obtain ⟨a, b, r, rfl, h0⟩ := t2_s h
    obtain ⟨v, h0, h3⟩ := sof_s (hfx 2) (sbin_spec ρ dXor a b _ _) h0
    refine ⟨_, rfl, ?_⟩
    refine Eq.mpr (congrArg T (k_bin (a := sden ρ a) (b := sden ρ b) (st := r.map (svd ρ)))) ?_
    rw [show dXor (sden ρ a) (sden ρ b) = sden ρ v from h3.symm]
    exact hnx _ ((.inl v : sV) :: r) _ _ hS hI h0
  · change (t2 st fun a b r => sbin dShl a b (sO (fx 3 a b) fun v => nx L (.inl v :: r) S) fun v => nx L (.inl v :: r) S) = some lv at h
    obtain ⟨a, b, r, rfl, h0⟩ := t2_s h
    obtain ⟨v, h0, h3⟩ := sof_s (hfx 3) (sbin_spec ρ dShl a b _ _) h0
    refine ⟨_, rfl, ?_⟩
    refine Eq.mpr (congrArg T (k_bin (a := sden ρ a) (b := sden ρ b) (st := r.map (svd ρ)))) ?_
    rw [show dShl (sden ρ a) (sden ρ b) = sden ρ v from h3.symm]
    exact hnx _ ((.inl v : sV) :: r) _ _ hS hI h0
  · change (t2 st fun a b r => sbin dShr a b (sO (fx 4 a b) fun v => nx L (.inl v :: r) S) fun v => nx L (.inl v :: r) S) = some lv at h
    obtain ⟨a, b, r, rfl, h0⟩ := t2_s h
    obtain ⟨v, h0, h3⟩ := sof_s (hfx 4) (sbin_spec ρ dShr a b _ _) h0
    refine ⟨_, rfl, ?_⟩
    refine Eq.mpr (congrArg T (k_bin (a := sden ρ a) (b := sden ρ b) (st := r.map (svd ρ)))) ?_
    rw [show dShr (sden ρ a) (sden ρ b) = sden ρ v from h3.symm]
    exact hnx _ ((.inl v : sV) :: r) _ _ hS hI h0
  · change (t2 st fun a b r => sand B 4294967296 dAnd a b (sO (fx 7 a b) fun v => nx L (.inl v :: r) S) fun v => nx L (.inl v :: r) S) = some lv at h
    obtain ⟨a, b, r, rfl, h0⟩ := t2_s h
    obtain ⟨v, h0, h3⟩ := sof_s (hfx 7) (sand_spec hB _ dAnd (fun _ _ => rfl) a b _ _) h0
    refine ⟨_, rfl, ?_⟩
    refine Eq.mpr (congrArg T (k_bin (a := sden ρ a) (b := sden ρ b) (st := r.map (svd ρ)))) ?_
    rw [show dAnd (sden ρ a) (sden ρ b) = sden ρ v from h3.symm]
    exact hnx _ ((.inl v : sV) :: r) _ _ hS hI h0
  · change (t2 st fun a b r => scs b none fun y => cond (dZ y) none (sbin dDiv a b none fun v => nx L ((.inl v : sV) :: r) S)) = some lv at h
    obtain ⟨a, b, r, rfl, h0⟩ := t2_s h
    rcases scs_spec ρ b none (fun y => cond (dZ y) none (sbin dDiv a b none fun v => nx L ((.inl v : sV) :: r) S)) with ⟨e, e2, -⟩ | e
    · rw [e] at h0
      cases hz : dZ b.1 with
      | true => rw [hz] at h0; cases h0
      | false =>
        rw [hz] at h0
        have h9 : sbin dDiv a b none (fun v => nx L ((.inl v : sV) :: r) S) = some lv := h0
        obtain ⟨v, h2, h3⟩ := sor_s (sbin_spec ρ dDiv a b none _) h9
        rw [h2] at h9
        refine ⟨_, rfl, ?_⟩
        refine Eq.mpr (congrArg T (k_div (a := sden ρ a) (b := sden ρ b) (st := r.map (svd ρ)) (by rw [e2]; exact hz))) ?_
        rw [show dDiv (sden ρ a) (sden ρ b) = sden ρ v from h3.symm]
        exact hnx _ ((.inl v : sV) :: r) _ _ hS hI h9
    · rw [e] at h0; cases h0
  · change (t2 st fun a b r => scs b none fun y => cond (dZ y) none (sbin dRem a b none fun v => nx L ((.inl v : sV) :: r) S)) = some lv at h
    obtain ⟨a, b, r, rfl, h0⟩ := t2_s h
    rcases scs_spec ρ b none (fun y => cond (dZ y) none (sbin dRem a b none fun v => nx L ((.inl v : sV) :: r) S)) with ⟨e, e2, -⟩ | e
    · rw [e] at h0
      cases hz : dZ b.1 with
      | true => rw [hz] at h0; cases h0
      | false =>
        rw [hz] at h0
        have h9 : sbin dRem a b none (fun v => nx L ((.inl v : sV) :: r) S) = some lv := h0
        obtain ⟨v, h2, h3⟩ := sor_s (sbin_spec ρ dRem a b none _) h9
        rw [h2] at h9
        refine ⟨_, rfl, ?_⟩
        refine Eq.mpr (congrArg T (k_div (a := sden ρ a) (b := sden ρ b) (st := r.map (svd ρ)) (by rw [e2]; exact hz))) ?_
        rw [show dRem (sden ρ a) (sden ρ b) = sden ρ v from h3.symm]
        exact hnx _ ((.inl v : sV) :: r) _ _ hS hI h9
    · rw [e] at h0; cases h0
  · change (t2l st fun a b r => sadd B 18446744073709551616 a b none fun v => nx L (.inr (.inl v) :: r) S) = some lv at h
    obtain ⟨a, b, r, rfl, h0⟩ := t2l_s h
    obtain ⟨v, h2, h3⟩ := sor_s (sadd_spec hB _ (by decide) a b none _) h0
    rw [h2] at h0
    refine ⟨_, rfl, ?_⟩
    refine Eq.mpr (congrArg T (k_binl (a := sden ρ a) (b := sden ρ b) (st := r.map (svd ρ)))) ?_
    rw [show dLAdd (sden ρ a) (sden ρ b) = sden ρ v from h3.symm]
    exact hnx _ ((.inr (.inl v) : sV) :: r) _ _ hS hI h0
  · change (t2l st fun a b r => ssub B 18446744073709551616 dLSub a b none fun v => nx L (.inr (.inl v) :: r) S) = some lv at h
    obtain ⟨a, b, r, rfl, h0⟩ := t2l_s h
    obtain ⟨v, h2, h3⟩ := sor_s (ssub_spec hB _ (by decide) dLSub (fun _ _ => rfl) a b none _) h0
    rw [h2] at h0
    refine ⟨_, rfl, ?_⟩
    refine Eq.mpr (congrArg T (k_binl (a := sden ρ a) (b := sden ρ b) (st := r.map (svd ρ)))) ?_
    rw [show dLSub (sden ρ a) (sden ρ b) = sden ρ v from h3.symm]
    exact hnx _ ((.inr (.inl v) : sV) :: r) _ _ hS hI h0
  · change (t2l st fun a b r => sbin dLMul a b (sO (fx 8 a b) fun v => nx L (.inr (.inl v) :: r) S) fun v => nx L (.inr (.inl v) :: r) S) = some lv at h
    obtain ⟨a, b, r, rfl, h0⟩ := t2l_s h
    obtain ⟨v, h0, h3⟩ := sof_s (hfx 8) (sbin_spec ρ dLMul a b _ _) h0
    refine ⟨_, rfl, ?_⟩
    refine Eq.mpr (congrArg T (k_binl (a := sden ρ a) (b := sden ρ b) (st := r.map (svd ρ)))) ?_
    rw [show dLMul (sden ρ a) (sden ρ b) = sden ρ v from h3.symm]
    exact hnx _ ((.inr (.inl v) : sV) :: r) _ _ hS hI h0
  · change (t2l st fun a b r => sbin dLXor a b (sO (fx 9 a b) fun v => nx L (.inr (.inl v) :: r) S) fun v => nx L (.inr (.inl v) :: r) S) = some lv at h
    obtain ⟨a, b, r, rfl, h0⟩ := t2l_s h
    obtain ⟨v, h0, h3⟩ := sof_s (hfx 9) (sbin_spec ρ dLXor a b _ _) h0
    refine ⟨_, rfl, ?_⟩
    refine Eq.mpr (congrArg T (k_binl (a := sden ρ a) (b := sden ρ b) (st := r.map (svd ρ)))) ?_
    rw [show dLXor (sden ρ a) (sden ρ b) = sden ρ v from h3.symm]
    exact hnx _ ((.inr (.inl v) : sV) :: r) _ _ hS hI h0
  · change (t2l st fun a b r => sand B 18446744073709551616 dLAnd a b (sO (fx 10 a b) fun v => nx L (.inr (.inl v) :: r) S) fun v => nx L (.inr (.inl v) :: r) S) = some lv at h
    obtain ⟨a, b, r, rfl, h0⟩ := t2l_s h
    obtain ⟨v, h0, h3⟩ := sof_s (hfx 10) (sand_spec hB _ dLAnd (fun _ _ => rfl) a b _ _) h0
    refine ⟨_, rfl, ?_⟩
    refine Eq.mpr (congrArg T (k_binl (a := sden ρ a) (b := sden ρ b) (st := r.map (svd ρ)))) ?_
    rw [show dLAnd (sden ρ a) (sden ρ b) = sden ρ v from h3.symm]
    exact hnx _ ((.inr (.inl v) : sV) :: r) _ _ hS hI h0
  · change (t2l st fun a b r => sor B 18446744073709551616 dLOr a b (sO (fx 11 a b) fun v => nx L (.inr (.inl v) :: r) S) fun v => nx L (.inr (.inl v) :: r) S) = some lv at h
    obtain ⟨a, b, r, rfl, h0⟩ := t2l_s h
    obtain ⟨v, h0, h3⟩ := sof_s (hfx 11) (sor_spec hB _ dLOr (fun _ _ => rfl) a b _ _) h0
    refine ⟨_, rfl, ?_⟩
    refine Eq.mpr (congrArg T (k_binl (a := sden ρ a) (b := sden ρ b) (st := r.map (svd ρ)))) ?_
    rw [show dLOr (sden ρ a) (sden ρ b) = sden ρ v from h3.symm]
    exact hnx _ ((.inr (.inl v) : sV) :: r) _ _ hS hI h0
  · change (til st fun a b r => sbin dLShl a b (sO (fx 12 a b) fun v => nx L (.inr (.inl v) :: r) S) fun v => nx L (.inr (.inl v) :: r) S) = some lv at h
    obtain ⟨a, b, r, rfl, h0⟩ := til_s h
    obtain ⟨v, h0, h3⟩ := sof_s (hfx 12) (sbin_spec ρ dLShl a b _ _) h0
    refine ⟨_, rfl, ?_⟩
    refine Eq.mpr (congrArg T (k_shl (a := sden ρ a) (b := sden ρ b) (st := r.map (svd ρ)))) ?_
    rw [show dLShl (sden ρ a) (sden ρ b) = sden ρ v from h3.symm]
    exact hnx _ ((.inr (.inl v) : sV) :: r) _ _ hS hI h0
  · change (til st fun a b r => sbin dLUshr a b (sO (fx 13 a b) fun v => nx L (.inr (.inl v) :: r) S) fun v => nx L (.inr (.inl v) :: r) S) = some lv at h
    obtain ⟨a, b, r, rfl, h0⟩ := til_s h
    obtain ⟨v, h0, h3⟩ := sof_s (hfx 13) (sbin_spec ρ dLUshr a b _ _) h0
    refine ⟨_, rfl, ?_⟩
    refine Eq.mpr (congrArg T (k_shl (a := sden ρ a) (b := sden ρ b) (st := r.map (svd ρ)))) ?_
    rw [show dLUshr (sden ρ a) (sden ρ b) = sden ρ v from h3.symm]
    exact hnx _ ((.inr (.inl v) : sV) :: r) _ _ hS hI h0
  · change (t2l st fun a b r => slc B a b (sO (fx 19 a b) fun v => nx L (.inl v :: r) S) fun v => nx L (.inl v :: r) S) = some lv at h
    obtain ⟨a, b, r, rfl, h0⟩ := t2l_s h
    obtain ⟨v, h0, h3⟩ := sof_s (hfx 19) (slc_s hB) h0
    refine ⟨_, rfl, ?_⟩
    refine Eq.mpr (congrArg T (k_lcmp (a := sden ρ a) (b := sden ρ b) (st := r.map (svd ρ)))) ?_
    rw [← h3]
    exact hnx _ ((.inl v : sV) :: r) _ _ hS hI h0
  · change (t1 st fun a r => sun B dNeg 0 a none fun v => nx L (.inl v :: r) S) = some lv at h
    obtain ⟨a, r, rfl, h0⟩ := t1_s h
    obtain ⟨v, h2, h3⟩ := sor_s (sun_spec hB dNeg 0 (fun _ h => absurd h (Nat.not_lt_zero _)) a none _) h0
    rw [h2] at h0
    refine ⟨_, rfl, ?_⟩
    refine Eq.mpr (congrArg T (k_un (a := sden ρ a) (st := r.map (svd ρ)))) ?_
    rw [← h3]
    exact hnx _ ((.inl v : sV) :: r) _ _ hS hI h0
  · change (t1 st fun a r => sun B dI2b 128 a (sO (fx 15 a (0, [])) fun v => nx L (.inl v :: r) S) fun v => nx L (.inl v :: r) S) = some lv at h
    obtain ⟨a, r, rfl, h0⟩ := t1_s h
    obtain ⟨v, h0, h3⟩ := sof_s (hfx 15) (sun_spec hB dI2b 128 (fun _ h => dI2b_lt h) a _ _) h0
    refine ⟨_, rfl, ?_⟩
    refine Eq.mpr (congrArg T (k_un (a := sden ρ a) (st := r.map (svd ρ)))) ?_
    rw [← h3]
    exact hnx _ ((.inl v : sV) :: r) _ _ hS hI h0
  · change (t1 st fun a r => sun B dI2l 2147483648 a none fun v => nx L (.inr (.inl v) :: r) S) = some lv at h
    obtain ⟨a, r, rfl, h0⟩ := t1_s h
    obtain ⟨v, h2, h3⟩ := sor_s (sun_spec hB dI2l 2147483648 (fun _ h => dI2l_lt h) a none _) h0
    rw [h2] at h0
    refine ⟨_, rfl, ?_⟩
    refine Eq.mpr (congrArg T (k_i2l (a := sden ρ a) (st := r.map (svd ρ)))) ?_
    rw [← h3]
    exact hnx _ ((.inr (.inl v) : sV) :: r) _ _ hS hI h0
  · change (t1l st fun a r => sun B dL2i 4294967296 a (sO (fx 16 a (0, [])) fun v => nx L (.inl v :: r) S) fun v => nx L (.inl v :: r) S) = some lv at h
    obtain ⟨a, r, rfl, h0⟩ := t1l_s h
    obtain ⟨v, h0, h3⟩ := sof_s (hfx 16) (sun_spec hB dL2i 4294967296 (fun _ h => Nat.mod_eq_of_lt h) a _ _) h0
    refine ⟨_, rfl, ?_⟩
    refine Eq.mpr (congrArg T (k_l2i (a := sden ρ a) (st := r.map (svd ρ)))) ?_
    rw [← h3]
    exact hnx _ ((.inl v : sV) :: r) _ _ hS hI h0
  · rename_i c _
    change (t1 st fun a r => scd B c a (0, []) (sO (fx (cix c) a (0, [])) fun v => scs v none fun n => cond (Nat.beq n 1) (jp x L r) (cond (Nat.beq n 0) (nx L r S) none)) fun t => cond t (jp x L r) (nx L r S)) = some lv at h
    obtain ⟨a, r, rfl, h0⟩ := t1_s h
    have h0 := scd_fx hfx (scd_spec hB c a (0, []) _ fun t => cond t (jp x L r) (nx L r S)) h0
    refine ⟨_, rfl, ?_⟩
    refine Eq.mpr (congrArg T (k_if (a := sden ρ a) (st := r.map (svd ρ)))) ?_
    have e0 : sden ρ (0, []) = 0 := rfl
    rw [e0] at h0
    cases e : dcd c (sden ρ a) 0 with
    | true => rw [e] at h0; exact hjp _ _ _ h0
    | false => rw [e] at h0; exact hnx _ _ _ _ hS hI h0
  · rename_i c _
    change (t2 st fun a b r => scd B c a b (sO (fx (cix c) a b) fun v => scs v none fun n => cond (Nat.beq n 1) (jp x L r) (cond (Nat.beq n 0) (nx L r S) none)) fun t => cond t (jp x L r) (nx L r S)) = some lv at h
    obtain ⟨a, b, r, rfl, h0⟩ := t2_s h
    have h0 := scd_fx hfx (scd_spec hB c a b _ fun t => cond t (jp x L r) (nx L r S)) h0
    refine ⟨_, rfl, ?_⟩
    refine Eq.mpr (congrArg T (k_icmp (a := sden ρ a) (b := sden ρ b) (st := r.map (svd ρ)))) ?_
    cases e : dcd c (sden ρ a) (sden ρ b) with
    | true => rw [e] at h0; exact hjp _ _ _ h0
    | false => rw [e] at h0; exact hnx _ _ _ _ hS hI h0
  · change (jp x L st) = some lv at h
    exact ⟨_, rfl, hjp _ _ _ h⟩
  · change (t1 st fun a r => scs a none fun a => fo (dSub a (Nat.mod x 4294967296)) fun j => fo (Nat.shiftRight x 32) fun w => cond (Nat.blt j (wq 16 w 0)) (fo (wq 16 w (Nat.succ (Nat.succ j))) fun t => jp t L r) (fo (wq 16 w 1) fun t => jp t L r)) = some lv at h
    obtain ⟨a, r, rfl, h0⟩ := t1_s h
    rcases scs_spec ρ a none (fun a => fo (dSub a (Nat.mod x 4294967296)) fun j => fo (Nat.shiftRight x 32) fun w => cond (Nat.blt j (wq 16 w 0)) (fo (wq 16 w (Nat.succ (Nat.succ j))) fun t => jp t L r) (fo (wq 16 w 1) fun t => jp t L r)) with ⟨e, e2, -⟩ | e
    · rw [e, fo_eq, fo_eq] at h0
      refine ⟨_, rfl, ?_⟩
      refine Eq.mpr (congrArg T (k_tsw (a := sden ρ a) (st := r.map (svd ρ)))) ?_
      rw [e2]
      cases g : Nat.blt (dSub a.1 (Nat.mod x 4294967296)) (wq 16 (Nat.shiftRight x 32) 0) with
      | true => rw [g] at h0; simp only [cond_true, fo_eq] at h0; exact hjp _ _ _ h0
      | false => rw [g] at h0; simp only [cond_false, fo_eq] at h0; exact hjp _ _ _ h0
    · rw [e] at h0; cases h0
  · change (t1 st fun a r => scs a none fun a => fo (Nat.mod a 4294967296) fun a => fo (Nat.shiftRight x 32) fun w => fo (dlsw w a (wq 16 x 1) (wq 16 x 0) 0) fun t => jp t L r) = some lv at h
    obtain ⟨a, r, rfl, h0⟩ := t1_s h
    rcases scs_spec ρ a none (fun a => fo (Nat.mod a 4294967296) fun a => fo (Nat.shiftRight x 32) fun w => fo (dlsw w a (wq 16 x 1) (wq 16 x 0) 0) fun t => jp t L r) with ⟨e, e2, -⟩ | e
    · rw [e] at h0
      simp only [fo_eq] at h0
      refine ⟨_, rfl, ?_⟩
      refine Eq.mpr (congrArg T (k_lsw (a := sden ρ a) (st := r.map (svd ρ)))) ?_
      rw [e2]
      exact hjp _ _ _ h0
    · rw [e] at h0; cases h0
  · change (sP st fun v r => cond (sisl v) none (nx L (v :: v :: r) S)) = some lv at h
    obtain ⟨v, r, rfl, h0⟩ := sP_s h
    refine ⟨_, rfl, ?_⟩
    cases e : sisl v with
    | true => rw [e] at h0; cases h0
    | false =>
      rw [e] at h0
      refine Eq.mpr (congrArg T (k_dup (v := svd ρ v) (st := r.map (svd ρ)) (by rw [sisl_d, e]))) ?_
      exact hnx _ (v :: v :: r) _ _ hS hI h0
  · change (sP st fun v r => cond (sisl v) none (nx L r S)) = some lv at h
    obtain ⟨v, r, rfl, h0⟩ := sP_s h
    refine ⟨_, rfl, ?_⟩
    cases e : sisl v with
    | true => rw [e] at h0; cases h0
    | false =>
      rw [e] at h0
      refine Eq.mpr (congrArg T (k_pop (v := svd ρ v) (st := r.map (svd ρ)) (by rw [sisl_d, e]))) ?_
      exact hnx _ r _ _ hS hI h0
  · change (sP st fun v r => cond (sisl v) (nx L (v :: v :: r) S) (sP r fun w r2 => cond (sisl w) none (nx L (v :: w :: v :: w :: r2) S))) = some lv at h
    obtain ⟨v, r, rfl, h0⟩ := sP_s h
    refine ⟨_, rfl, ?_⟩
    cases e : sisl v with
    | true =>
      rw [e] at h0
      refine Eq.mpr (congrArg T (k_dup2l (v := svd ρ v) (st := r.map (svd ρ)) (by rw [sisl_d, e]))) ?_
      exact hnx _ (v :: v :: r) _ _ hS hI h0
    | false =>
      rw [e] at h0
      obtain ⟨w, r2, rfl, h1⟩ := sP_s (st := r) h0
      cases e2 : sisl w with
      | true => rw [e2] at h1; cases h1
      | false =>
        rw [e2] at h1
        refine Eq.mpr (congrArg T (k_dup2 (v := svd ρ v) (w := svd ρ w) (st := r2.map (svd ρ)) (by rw [sisl_d, e]) (by rw [sisl_d, e2]))) ?_
        exact hnx _ (v :: w :: v :: w :: r2) _ _ hS hI h1
  · change (t1a st fun a r => slk S a none fun kd n X => cond (Nat.beq kd (Nat.add (Nat.div x 1024) 4)) (fo (Nat.mod (Nat.div x 4) 256) fun i => srd B 64 X (i, []) none fun w => sfv (Nat.mod x 4) w fun v => nx L (v :: r) S) none) = some lv at h
    obtain ⟨a, r, rfl, h0⟩ := t1a_s h
    obtain ⟨kd, n, X, hm, h1⟩ := sor_s (slk_spec S a none _) h0
    rw [h1] at h0
    obtain ⟨hk, h0⟩ := scd_t h0
    obtain ⟨ct0, ct, -, hc, hX⟩ := hS.2.2.2.2.2.2 a kd n X hm
    rw [kw_obj (Nat.eq_of_beq_eq_true hk)] at hX
    rw [fo_eq] at h0
    obtain ⟨w, h2, h3⟩ := sor_s (srd_spec hB 64 ct0 ct X hX (Nat.mod (Nat.div x 4) 256, []) none _) h0
    rw [h2] at h0
    obtain ⟨v, h4, h5⟩ := sfv_s ρ h0
    refine ⟨_, rfl, ?_⟩
    refine Eq.mpr (congrArg T (k_getfield (st := r.map (svd ρ)) hc hk)) ?_
    rw [show wd 64 ct (Nat.mod (Nat.div x 4) 256) = sden ρ w from h3.symm, ← h5]
    exact hnx _ (v :: r) _ _ hS hI h4
  · change (sP st fun v st1 => t1a st1 fun a r => slk S a none fun kd n X => cond (Nat.beq kd (Nat.add (Nat.div x 1024) 4)) (sfe B (Nat.mod x 4) v fun w => fo (Nat.mod (Nat.div x 4) 256) fun i => swr B 64 X (i, []) w none fun X2 => sst a (kd, n, X2) S fun S2 => nx L r S2) none) = some lv at h
    obtain ⟨v, st1, rfl, h9⟩ := sP_s h
    obtain ⟨a, r, rfl, h0⟩ := t1a_s (st := st1) h9
    obtain ⟨kd, n, X, hm, h1⟩ := sor_s (slk_spec S a none _) h0
    rw [h1] at h0
    obtain ⟨hk, h0⟩ := scd_t h0
    obtain ⟨ct0, ct, -, hc, hX⟩ := hS.2.2.2.2.2.2 a kd n X hm
    have ek := kw_obj (Nat.eq_of_beq_eq_true hk)
    obtain ⟨w, h0, hw, hfe⟩ := sfe_s hB h0
    rw [fo_eq] at h0
    obtain ⟨X2, h2, hx2⟩ := sor_s (swr_spec hB 64 ct X (Nat.mod (Nat.div x 4) 256, []) w hw none _) h0
    have hX2 : ∀ c0, sct ρ (kw kd) c0 X ct → sct ρ (kw kd) c0 X2 (wst 64 ct (Nat.mod (Nat.div x 4) 256) (sden ρ w)) := by
      intro c0 hc0
      rw [ek] at hc0 ⊢
      exact hx2 c0 hc0
    rw [h2, sst_eq] at h0
    refine ⟨_, rfl, ?_⟩
    obtain ⟨g2, e5, e6, e7, e8, e9⟩ := hset_spec (c := (kd, n, wst 64 ct (Nat.mod (Nat.div x 4) 256) (sden ρ w))) (fun h'' => nxt rec d (slD ρ L) (r.map (svd ρ)) h'') none hS.1 hc
    refine Eq.mpr (congrArg T (k_putfield (st := r.map (svd ρ)) (v := svd ρ v) (w := sden ρ w) hc hk hfe e5)) ?_
    exact hnx _ r _ _ (ssat_set hS hm hX2 hc e6 e7 e8 e9) (hIo h' g2 (fun q hq => by rw [e9, if_neg (fun w => by rw [w, hS.2.2.2.2.1 _ hm] at hq; cases hq)]) e8 hI) h0
  · change (t1a st fun a r => slk S a none fun kd n _ => cond (Nat.blt kd 4) (nx L (.inl (n, []) :: r) S) none) = some lv at h
    obtain ⟨a, r, rfl, h0⟩ := t1a_s h
    obtain ⟨kd, n, X, hm, h1⟩ := sor_s (slk_spec S a none _) h0
    rw [h1] at h0
    obtain ⟨hk, h0⟩ := scd_t h0
    obtain ⟨ct0, ct, -, hc, hX⟩ := hS.2.2.2.2.2.2 a kd n X hm
    refine ⟨_, rfl, ?_⟩
    refine Eq.mpr (congrArg T (k_alen (st := r.map (svd ρ)) hc hk)) ?_
    exact hnx _ ((.inl (n, []) : sV) :: r) _ _ hS hI h0
  · change (tia st fun a i r => slk S a none fun kd n X => cond (Nat.beq kd 0) (sin B i n (srd B 32 X i none fun w => nx L (.inl w :: r) S)) none) = some lv at h
    obtain ⟨a, i, r, rfl, h0⟩ := tia_s h
    obtain ⟨kd, n, X, hm, h1⟩ := sor_s (slk_spec S a none _) h0
    rw [h1] at h0
    obtain ⟨hk, h0⟩ := scd_t h0
    obtain rfl := Nat.eq_of_beq_eq_true hk
    obtain ⟨ct0, ct, -, hc, hX⟩ := hS.2.2.2.2.2.2 a 0 n X hm
    obtain ⟨h0, hi, hdn⟩ := sin_s hB h0
    obtain ⟨w, h2, h3⟩ := sor_s (srd_spec hB 32 ct0 ct X hX i none _) h0
    rw [h2] at h0
    refine ⟨_, rfl, ?_⟩
    refine Eq.mpr (congrArg T (k_iaload (st := r.map (svd ρ)) hc hi hdn)) ?_
    rw [← h3]
    exact hnx _ ((.inl w : sV) :: r) _ _ hS hI h0
  · change (tia st fun a i r => slk S a none fun kd n X => cond (Nat.beq kd 1) (sin B i n (srd B 64 X i none fun w => nx L (.inr (.inl w) :: r) S)) none) = some lv at h
    obtain ⟨a, i, r, rfl, h0⟩ := tia_s h
    obtain ⟨kd, n, X, hm, h1⟩ := sor_s (slk_spec S a none _) h0
    rw [h1] at h0
    obtain ⟨hk, h0⟩ := scd_t h0
    obtain rfl := Nat.eq_of_beq_eq_true hk
    obtain ⟨ct0, ct, -, hc, hX⟩ := hS.2.2.2.2.2.2 a 1 n X hm
    obtain ⟨h0, hi, hdn⟩ := sin_s hB h0
    obtain ⟨w, h2, h3⟩ := sor_s (srd_spec hB 64 ct0 ct X hX i none _) h0
    rw [h2] at h0
    refine ⟨_, rfl, ?_⟩
    refine Eq.mpr (congrArg T (k_laload (st := r.map (svd ρ)) hc hi hdn)) ?_
    rw [← h3]
    exact hnx _ ((.inr (.inl w) : sV) :: r) _ _ hS hI h0
  · change (tia st fun a i r => slk S a none fun kd n X => cond (Nat.beq kd 2) (sin B i n (srd B 8 X i none fun w => sun B dI2b 128 w none fun v => nx L (.inl v :: r) S)) (cond (Nat.beq kd 3) (sin B i n (srd B 8 X i none fun w => nx L (.inl w :: r) S)) none)) = some lv at h
    obtain ⟨a, i, r, rfl, h0⟩ := tia_s h
    obtain ⟨kd, n, X, hm, h1⟩ := sor_s (slk_spec S a none _) h0
    rw [h1] at h0
    obtain ⟨ct0, ct, -, hc, hX⟩ := hS.2.2.2.2.2.2 a kd n X hm
    cases hk : Nat.beq kd 2 with
    | true =>
      rw [hk] at h0
      obtain rfl := Nat.eq_of_beq_eq_true hk
      obtain ⟨h0, hi, hdn⟩ := sin_s hB h0
      obtain ⟨w, h2, h3⟩ := sor_s (srd_spec hB 8 ct0 ct X hX i none _) h0
      rw [h2] at h0
      obtain ⟨v, h4, h5⟩ := sor_s (sun_spec hB dI2b 128 (fun _ h => dI2b_lt h) w none _) h0
      rw [h4] at h0
      refine ⟨_, rfl, ?_⟩
      refine Eq.mpr (congrArg T (k_baload2 (st := r.map (svd ρ)) hc hi hdn)) ?_
      rw [← h3, ← h5]
      exact hnx _ ((.inl v : sV) :: r) _ _ hS hI h0
    | false =>
      rw [hk] at h0
      obtain ⟨hk3, h0⟩ := scd_t h0
      obtain rfl := Nat.eq_of_beq_eq_true hk3
      obtain ⟨h0, hi, hdn⟩ := sin_s hB h0
      obtain ⟨w, h2, h3⟩ := sor_s (srd_spec hB 8 ct0 ct X hX i none _) h0
      rw [h2] at h0
      refine ⟨_, rfl, ?_⟩
      refine Eq.mpr (congrArg T (k_baload3 (st := r.map (svd ρ)) hc hi hdn)) ?_
      rw [← h3]
      exact hnx _ ((.inl w : sV) :: r) _ _ hS hI h0
  · change (tiia st fun a i v r => slk S a none fun kd n X => cond (Nat.beq kd 0) (sin B i n (sun B (fun x => Nat.mod x 4294967296) 4294967296 v none fun w => swr B 32 X i w none fun X2 => sst a (0, n, X2) S fun S2 => nx L r S2)) none) = some lv at h
    obtain ⟨a, i, v, r, rfl, h0⟩ := tiia_s h
    obtain ⟨kd, n, X, hm, h1⟩ := sor_s (slk_spec S a none _) h0
    rw [h1] at h0
    obtain ⟨hk, h0⟩ := scd_t h0
    obtain rfl := Nat.eq_of_beq_eq_true hk
    obtain ⟨ct0, ct, -, hc, hX⟩ := hS.2.2.2.2.2.2 a 0 n X hm
    obtain ⟨h0, hi, hdn⟩ := sin_s hB h0
    obtain ⟨w, h2, h3⟩ := sor_s (sun_spec hB (fun x => Nat.mod x 4294967296) 4294967296 (fun x hx => Nat.mod_eq_of_lt hx) v none _) h0
    rw [h2] at h0
    have hw : sden ρ w < 2 ^ 32 := by rw [h3]; exact Nat.lt_of_lt_of_le (Nat.mod_lt _ (by decide)) (by decide)
    obtain ⟨X2, h4, hx2⟩ := sor_s (swr_spec hB 32 ct X i w hw none _) h0
    have hX2 : ∀ c0, sct ρ (kw 0) c0 X ct → sct ρ (kw 0) c0 X2 (wst 32 ct (sden ρ i) (sden ρ w)) := fun c0 hc0 => hx2 c0 hc0
    rw [h4, sst_eq] at h0
    refine ⟨_, rfl, ?_⟩
    obtain ⟨g2, e5, e6, e7, e8, e9⟩ := hset_spec (c := (0, n, wst 32 ct (sden ρ i) (Nat.mod (sden ρ v) 4294967296))) (fun h'' => nxt rec d (slD ρ L) (r.map (svd ρ)) h'') none hS.1 hc
    refine Eq.mpr (congrArg T (k_iastore (st := r.map (svd ρ)) (v := sden ρ v) hc hi hdn e5)) ?_
    rw [show Nat.mod (sden ρ v) 4294967296 = sden ρ w from h3.symm] at e9
    exact hnx _ r _ _ (ssat_set hS hm hX2 hc e6 e7 e8 e9) (hIo h' g2 (fun q hq => by rw [e9, if_neg (fun w => by rw [w, hS.2.2.2.2.1 _ hm] at hq; cases hq)]) e8 hI) h0
  · change (tlia st fun a i v r => slk S a none fun kd n X => cond (Nat.beq kd 1) (sin B i n (sun B (fun x => Nat.mod x 18446744073709551616) 18446744073709551616 v none fun w => swr B 64 X i w none fun X2 => sst a (1, n, X2) S fun S2 => nx L r S2)) none) = some lv at h
    obtain ⟨a, i, v, r, rfl, h0⟩ := tlia_s h
    obtain ⟨kd, n, X, hm, h1⟩ := sor_s (slk_spec S a none _) h0
    rw [h1] at h0
    obtain ⟨hk, h0⟩ := scd_t h0
    obtain rfl := Nat.eq_of_beq_eq_true hk
    obtain ⟨ct0, ct, -, hc, hX⟩ := hS.2.2.2.2.2.2 a 1 n X hm
    obtain ⟨h0, hi, hdn⟩ := sin_s hB h0
    obtain ⟨w, h2, h3⟩ := sor_s (sun_spec hB (fun x => Nat.mod x 18446744073709551616) 18446744073709551616 (fun x hx => Nat.mod_eq_of_lt hx) v none _) h0
    rw [h2] at h0
    have hw : sden ρ w < 2 ^ 64 := by rw [h3]; exact Nat.lt_of_lt_of_le (Nat.mod_lt _ (by decide)) (by decide)
    obtain ⟨X2, h4, hx2⟩ := sor_s (swr_spec hB 64 ct X i w hw none _) h0
    have hX2 : ∀ c0, sct ρ (kw 1) c0 X ct → sct ρ (kw 1) c0 X2 (wst 64 ct (sden ρ i) (sden ρ w)) := fun c0 hc0 => hx2 c0 hc0
    rw [h4, sst_eq] at h0
    refine ⟨_, rfl, ?_⟩
    obtain ⟨g2, e5, e6, e7, e8, e9⟩ := hset_spec (c := (1, n, wst 64 ct (sden ρ i) (Nat.mod (sden ρ v) 18446744073709551616))) (fun h'' => nxt rec d (slD ρ L) (r.map (svd ρ)) h'') none hS.1 hc
    refine Eq.mpr (congrArg T (k_lastore (st := r.map (svd ρ)) (v := sden ρ v) hc hi hdn e5)) ?_
    rw [show Nat.mod (sden ρ v) 18446744073709551616 = sden ρ w from h3.symm] at e9
    exact hnx _ r _ _ (ssat_set hS hm hX2 hc e6 e7 e8 e9) (hIo h' g2 (fun q hq => by rw [e9, if_neg (fun w => by rw [w, hS.2.2.2.2.1 _ hm] at hq; cases hq)]) e8 hI) h0
  · change (tiia st fun a i v r => slk S a none fun kd n X => cond (Nat.beq kd 2) (sin B i n (sun B (fun x => Nat.mod x 256) 256 v (sO (fx 14 v (0, [])) fun w => swr B 8 X i w none fun X2 => sst a (2, n, X2) S fun S2 => nx L r S2) fun w => swr B 8 X i w none fun X2 => sst a (2, n, X2) S fun S2 => nx L r S2)) (cond (Nat.beq kd 3) (sin B i n (sun B (fun x => Nat.mod x 2) 2 v none fun w => swr B 8 X i w none fun X2 => sst a (3, n, X2) S fun S2 => nx L r S2)) none)) = some lv at h
    obtain ⟨a, i, v, r, rfl, h0⟩ := tiia_s h
    obtain ⟨kd, n, X, hm, h1⟩ := sor_s (slk_spec S a none _) h0
    rw [h1] at h0
    obtain ⟨ct0, ct, -, hc, hX⟩ := hS.2.2.2.2.2.2 a kd n X hm
    cases hk : Nat.beq kd 2 with
    | true =>
      rw [hk] at h0
      obtain rfl := Nat.eq_of_beq_eq_true hk
      obtain ⟨h0, hi, hdn⟩ := sin_s hB h0
      obtain ⟨w, h0, h3⟩ := sof_s (hfx 14) (sun_spec hB (fun x => Nat.mod x 256) 256 (fun x hx => Nat.mod_eq_of_lt hx) v _ _) h0
      have hw : sden ρ w < 2 ^ 8 := by rw [h3]; exact Nat.lt_of_lt_of_le (Nat.mod_lt _ (by decide)) (by decide)
      obtain ⟨X2, h4, hx2⟩ := sor_s (swr_spec hB 8 ct X i w hw none _) h0
      have hX2 : ∀ c0, sct ρ (kw 2) c0 X ct → sct ρ (kw 2) c0 X2 (wst 8 ct (sden ρ i) (sden ρ w)) := fun c0 hc0 => hx2 c0 hc0
      rw [h4, sst_eq] at h0
      refine ⟨_, rfl, ?_⟩
      obtain ⟨g2, e5, e6, e7, e8, e9⟩ := hset_spec (c := (2, n, wst 8 ct (sden ρ i) (Nat.mod (sden ρ v) 256))) (fun h'' => nxt rec d (slD ρ L) (r.map (svd ρ)) h'') none hS.1 hc
      refine Eq.mpr (congrArg T (k_bastore2 (st := r.map (svd ρ)) (v := sden ρ v) hc hi hdn e5)) ?_
      rw [show Nat.mod (sden ρ v) 256 = sden ρ w from h3.symm] at e9
      exact hnx _ r _ _ (ssat_set hS hm hX2 hc e6 e7 e8 e9) (hIo h' g2 (fun q hq => by rw [e9, if_neg (fun w => by rw [w, hS.2.2.2.2.1 _ hm] at hq; cases hq)]) e8 hI) h0
    | false =>
      rw [hk] at h0
      obtain ⟨hk3, h0⟩ := scd_t h0
      obtain rfl := Nat.eq_of_beq_eq_true hk3
      obtain ⟨h0, hi, hdn⟩ := sin_s hB h0
      obtain ⟨w, h2, h3⟩ := sor_s (sun_spec hB (fun x => Nat.mod x 2) 2 (fun x hx => Nat.mod_eq_of_lt hx) v none _) h0
      rw [h2] at h0
      have hw : sden ρ w < 2 ^ 8 := by rw [h3]; exact Nat.lt_of_lt_of_le (Nat.mod_lt _ (by decide)) (by decide)
      obtain ⟨X2, h4, hx2⟩ := sor_s (swr_spec hB 8 ct X i w hw none _) h0
      have hX2 : ∀ c0, sct ρ (kw 3) c0 X ct → sct ρ (kw 3) c0 X2 (wst 8 ct (sden ρ i) (sden ρ w)) := fun c0 hc0 => hx2 c0 hc0
      rw [h4, sst_eq] at h0
      refine ⟨_, rfl, ?_⟩
      obtain ⟨g2, e5, e6, e7, e8, e9⟩ := hset_spec (c := (3, n, wst 8 ct (sden ρ i) (Nat.mod (sden ρ v) 2))) (fun h'' => nxt rec d (slD ρ L) (r.map (svd ρ)) h'') none hS.1 hc
      refine Eq.mpr (congrArg T (k_bastore3 (st := r.map (svd ρ)) (v := sden ρ v) hc hi hdn e5)) ?_
      rw [show Nat.mod (sden ρ v) 2 = sden ρ w from h3.symm] at e9
      exact hnx _ r _ _ (ssat_set hS hm hX2 hc e6 e7 e8 e9) (hIo h' g2 (fun q hq => by rw [e9, if_neg (fun w => by rw [w, hS.2.2.2.2.1 _ hm] at hq; cases hq)]) e8 hI) h0
  · change (cond (Nat.ble 1099511627776 x) (cond (Nat.beq x 1099511627777) (t2 st fun a b r => cond (Nat.ble 1 d) (cond (Nat.ble (sdcat r) 8) (smx B dMax true a b fun v => nx L (.inl v :: r) S) none) none) (cond (Nat.beq x 1099511627778) (t2 st fun a b r => cond (Nat.ble 1 d) (cond (Nat.ble (sdcat r) 8) (smx B dMin false a b fun v => nx L (.inl v :: r) S) none) none) (cond (Nat.beq x 1099511627782) (t1 st fun xn r0 => tia r0 fun a2 xd r1 => tia r1 fun a1 xs r => scs xn none fun n => scs xd none fun d0 => scs xs none fun s0 => slk S a1 none fun kd1 n1 X1 => slk S a2 none fun kd2 n2 X2 => sKc X1 fun c1 => sKc X2 fun c2 => cond (Nat.beq kd1 2 && (Nat.beq kd2 2 && (Nat.blt n 2147483648 && (Nat.blt s0 2147483648 && (Nat.blt d0 2147483648 && (Nat.ble (Nat.add s0 n) n1 && (Nat.ble (Nat.add d0 n) n2 && (Nat.ble 1 d && Nat.ble (sdcat r) 8)))))))) (fo (dcp c1 c2 s0 d0 n) fun c => sst a2 (2, n2, .inl c) S fun S2 => nx L r S2) none) (cond (Nat.beq x 1099511627779) (t2l st fun a b r => cond (Nat.ble 1 d) (cond (Nat.ble (sdcat r) 8) (sbin dLMax a b none fun v => nx L (.inr (.inl v) :: r) S) none) none) (cond (Nat.beq x 1099511627780) (t2l st fun a b r => cond (Nat.ble 1 d) (cond (Nat.ble (sdcat r) 8) (sbin dLMin a b none fun v => nx L (.inr (.inl v) :: r) S) none) none) none))))) (spop (Nat.mod (Nat.div x 16) 16) st [] fun as r => cond (Nat.ble (sdcat r) 8) (cl false as r) none)) = some lv at h
    cases hb : Nat.ble 1099511627776 x with
    | true =>
      rw [hb] at h
      cases h5 : Nat.beq x 1099511627777 with
      | true =>
        rw [h5] at h
        obtain ⟨a, b, r, rfl, h0⟩ := t2_s (st := st) h
        obtain ⟨hd1, h0⟩ := scd_t h0
        obtain ⟨hd2, h0⟩ := scd_t h0
        obtain ⟨v, h0, h3⟩ := smx_s hB dMax_lt h0
        refine ⟨o_mm dMax, by show cond (Nat.ble 1099511627776 x) (dopM x) _ = _; rw [hb]; show cond (Nat.beq x 1099511627777) _ _ = _; rw [h5]; rfl, ?_⟩
        refine Eq.mpr (congrArg T (k_mm (a := sden ρ a) (b := sden ρ b) (st := r.map (svd ρ)) hd1 (by rw [sdcat_d]; exact hd2))) ?_
        rw [← h3]
        exact hnx _ ((.inl v : sV) :: r) _ _ hS hI h0
      | false =>
        rw [h5] at h
        cases h6 : Nat.beq x 1099511627778 with
        | false =>
          rw [h6] at h
          cases h7 : Nat.beq x 1099511627782 with
          | false =>
            rw [h7] at h
            cases h8 : Nat.beq x 1099511627779 with
            | true =>
              rw [h8] at h
              obtain ⟨a, b, r, rfl, h0⟩ := t2l_s (st := st) h
              obtain ⟨hd1, h0⟩ := scd_t h0
              obtain ⟨hd2, h0⟩ := scd_t h0
              obtain ⟨v, q2, h3⟩ := sor_s (sbin_spec ρ dLMax a b none _) h0
              rw [q2] at h0
              have hx7 := Nat.eq_of_beq_eq_true h8
              refine ⟨o_mml dLMax, by show cond (Nat.ble 1099511627776 x) (dopM x) _ = _; rw [hb, hx7]; rfl, ?_⟩
              refine Eq.mpr (congrArg T (k_mml (a := sden ρ a) (b := sden ρ b) (st := r.map (svd ρ)) hd1 (by rw [sdcat_d]; exact hd2))) ?_
              rw [← h3]
              exact hnx _ ((.inr (.inl v) : sV) :: r) _ _ hS hI h0
            | false =>
              rw [h8] at h
              obtain ⟨h9, h⟩ := scd_t h
              obtain ⟨a, b, r, rfl, h0⟩ := t2l_s (st := st) h
              obtain ⟨hd1, h0⟩ := scd_t h0
              obtain ⟨hd2, h0⟩ := scd_t h0
              obtain ⟨v, q2, h3⟩ := sor_s (sbin_spec ρ dLMin a b none _) h0
              rw [q2] at h0
              have hx7 := Nat.eq_of_beq_eq_true h9
              refine ⟨o_mml dLMin, by show cond (Nat.ble 1099511627776 x) (dopM x) _ = _; rw [hb, hx7]; rfl, ?_⟩
              refine Eq.mpr (congrArg T (k_mml (a := sden ρ a) (b := sden ρ b) (st := r.map (svd ρ)) hd1 (by rw [sdcat_d]; exact hd2))) ?_
              rw [← h3]
              exact hnx _ ((.inr (.inl v) : sV) :: r) _ _ hS hI h0
          | true =>
          rw [h7] at h
          have hx7 := Nat.eq_of_beq_eq_true h7
          obtain ⟨xn, r0, rfl, h8⟩ := t1_s (st := st) h
          obtain ⟨a2, xd, r1, rfl, h9⟩ := tia_s (st := r0) h8
          obtain ⟨a1, xs, r, rfl, h10⟩ := tia_s (st := r1) h9
          obtain ⟨en, h0⟩ := scs_s ρ h10
          obtain ⟨ed, h0⟩ := scs_s ρ h0
          obtain ⟨es, h0⟩ := scs_s ρ h0
          obtain ⟨kd1, n1, X1, hm1, q1⟩ := sor_s (slk_spec S a1 none _) h0
          rw [q1] at h0
          obtain ⟨kd2, n2, X2, hm2, q2⟩ := sor_s (slk_spec S a2 none _) h0
          rw [q2] at h0
          obtain ⟨c1, rfl, h0⟩ := sKc_s (X := X1) h0
          obtain ⟨c2, rfl, h12⟩ := sKc_s (X := X2) h0
          obtain ⟨hg, h11⟩ := scd_t h12
          rw [fo_eq, sst_eq] at h11
          simp only [Bool.and_eq_true, Nat.beq_eq, Nat.blt_eq, Nat.ble_eq] at hg
          obtain ⟨rfl, rfl, s3, s1, s2, g1, g2, hd1, hcat⟩ := hg
          obtain ⟨ct01, ct1, -, hc1, hX1⟩ := hS.2.2.2.2.2.2 a1 2 n1 _ hm1
          obtain ⟨ct02, ct2, -, hc2, hX2⟩ := hS.2.2.2.2.2.2 a2 2 n2 _ hm2
          have hX1 : ct1 = c1 := hX1
          have hX2 : ct2 = c2 := hX2
          subst hX1 hX2
          obtain ⟨u2, e5, e6, e7, e8, e9⟩ := hset_spec (c := (2, n2, dcp ct1 ct2 xs.1 xd.1 xn.1)) (fun h'' => nxt rec d (slD ρ L) (r.map (svd ρ)) h'') none hS.1 hc2
          refine ⟨o_acopy, by show cond (Nat.ble 1099511627776 x) (dopM x) _ = _; rw [hb, hx7]; rfl, ?_⟩
          refine Eq.mpr (congrArg T (k_acopy (st := r.map (svd ρ)) (a1 := a1) (a2 := a2) (xn := sden ρ xn) (xd := sden ρ xd) (xs := sden ρ xs) (h2 := u2) hc1 hc2 (by rw [en]; exact s3) (by rw [es]; exact s1) (by rw [ed]; exact s2) (by rw [es, en]; exact g1) (by rw [ed, en]; exact g2) hd1 (by rw [sdcat_d]; exact hcat) (by rw [es, ed, en]; exact e5))) ?_
          exact hnx _ r _ _ (ssat_set hS hm2 (X' := .inl (dcp ct1 ct2 xs.1 xd.1 xn.1)) (fun _ _ => rfl) hc2 e6 e7 e8 e9) (hIo h' u2 (fun q hq => by rw [e9, if_neg (fun w => by rw [w, hS.2.2.2.2.1 _ hm2] at hq; cases hq)]) e8 hI) h11
        | true =>
        rw [h6] at h
        obtain ⟨a, b, r, rfl, h0⟩ := t2_s (st := st) h
        obtain ⟨hd1, h0⟩ := scd_t h0
        obtain ⟨hd2, h0⟩ := scd_t h0
        obtain ⟨v, h0, h3⟩ := smx_s hB dMin_lt h0
        refine ⟨o_mm dMin, by show cond (Nat.ble 1099511627776 x) (dopM x) _ = _; rw [hb]; show cond (Nat.beq x 1099511627777) _ _ = _; rw [h5]; show cond (Nat.beq x 1099511627778) _ _ = _; rw [h6]; rfl, ?_⟩
        refine Eq.mpr (congrArg T (k_mm (a := sden ρ a) (b := sden ρ b) (st := r.map (svd ρ)) hd1 (by rw [sdcat_d]; exact hd2))) ?_
        rw [← h3]
        exact hnx _ ((.inl v : sV) :: r) _ _ hS hI h0
    | false =>
      rw [hb] at h
      obtain ⟨as, r, h0, hp⟩ := spop_s ρ (acc := []) h
      obtain ⟨hd2, h0⟩ := scd_t h0
      refine ⟨o_static, by show cond (Nat.ble 1099511627776 x) (dopM x) _ = _; rw [hb]; rfl, ?_⟩
      refine Eq.mpr (congrArg T (k_static hp (by rw [sdcat_d]; exact hd2))) ?_
      exact hcl false as r h0
  · change (cond (Nat.ble 1099511627776 x) (cond (Nat.ble 2199023255552 x) none (cond (Nat.beq x 1099511627777) (t1a st fun a r => sstr a fun n _ => cond (Nat.ble 4 d) (cond (Nat.ble (sdcat r) 8) (nx L (.inl (n, []) :: r) S) none) none) (cond (Nat.beq x 1099511627778) (tia st fun a i r => scs i none fun i => sstr a fun n ct => cond (Nat.blt i 4294967296) (cond (Nat.blt i n) (cond (Nat.ble 4 d) (cond (Nat.ble (sdcat r) 8) (fo (wd 8 ct i) fun w => nx L (.inl (w, []) :: r) S) none) none) none) none) none))) (spop (Nat.mod (Nat.div x 16) 16) st [] fun as r1 => t1a r1 fun a r => sO (kdo a) fun kd => cond (Nat.beq kd (Nat.add (Nat.mod x 16) 4)) (cond (Nat.ble (sdcat r) 8) (cl true (.inr (.inr (a + 1)) :: as) r) none) none)) = some lv at h
    cases hb : Nat.ble 1099511627776 x with
    | true =>
      rw [hb] at h
      cases hb3 : Nat.ble 2199023255552 x with
      | true => rw [hb3] at h; cases h
      | false =>
        rw [hb3] at h
        cases h5 : Nat.beq x 1099511627777 with
        | true =>
          rw [h5] at h
          obtain ⟨a, r, rfl, h0⟩ := t1a_s (st := st) h
          obtain ⟨n, ct, hs, h0⟩ := sstr_s h0
          obtain ⟨hd1, h0⟩ := scd_t h0
          obtain ⟨hd2, h0⟩ := scd_t h0
          refine ⟨o_strlen, by show cond (Nat.ble 2199023255552 x) _ (cond (Nat.ble 1099511627776 x) (cond (Nat.beq x 1099511627777) _ _) _) = _; rw [hb3, hb, h5]; rfl, ?_⟩
          refine Eq.mpr (congrArg T (k_strlen (st := r.map (svd ρ)) hs hd1 (by rw [sdcat_d]; exact hd2))) ?_
          exact hnx _ ((.inl (n, []) : sV) :: r) _ _ hS hI h0
        | false =>
          rw [h5] at h
          obtain ⟨h6, h⟩ := scd_t h
          obtain ⟨a, i, r, rfl, h0⟩ := tia_s (st := st) h
          obtain ⟨ei, h0⟩ := scs_s ρ h0
          obtain ⟨n, ct, hs, h0⟩ := sstr_s h0
          obtain ⟨hi0, h0⟩ := scd_t h0
          obtain ⟨hin, h0⟩ := scd_t h0
          obtain ⟨hd1, h0⟩ := scd_t h0
          obtain ⟨hd2, h0⟩ := scd_t h0
          rw [fo_eq] at h0
          refine ⟨o_charAt, by show cond (Nat.ble 2199023255552 x) _ (cond (Nat.ble 1099511627776 x) (cond (Nat.beq x 1099511627777) _ (cond (Nat.beq x 1099511627778) _ _)) _) = _; rw [hb3, hb, h5, h6]; rfl, ?_⟩
          refine Eq.mpr (congrArg T (k_charAt (st := r.map (svd ρ)) (i := sden ρ i) hs (by rw [ei]; exact Nat.mod_eq_of_lt (di_blt.mp hi0)) (by rw [ei]; exact hin) hd1 (by rw [sdcat_d]; exact hd2))) ?_
          rw [ei]
          exact hnx _ ((.inl (wd 8 ct i.1, []) : sV) :: r) _ _ hS hI h0
    | false =>
      rw [hb] at h
      have hb2 : Nat.ble 2199023255552 x = false := by
        cases e : Nat.ble 2199023255552 x with
        | false => rfl
        | true =>
          have q1 := Nat.le_of_ble_eq_true e
          rw [Nat.ble_eq_true_of_le (show 1099511627776 ≤ x by omega)] at hb; cases hb
      obtain ⟨as, r1, h9, hp⟩ := spop_s ρ (acc := []) h
      obtain ⟨a, r, rfl, h0⟩ := t1a_s (st := r1) h9
      obtain ⟨kd, hkd, h0⟩ := sO_s h0
      obtain ⟨hk, h0⟩ := scd_t h0
      obtain ⟨hd2, h0⟩ := scd_t h0
      obtain ⟨n, ct, hc⟩ := hK a kd hkd S h' hS hI
      refine ⟨o_virtual, by show cond (Nat.ble 2199023255552 x) _ (cond (Nat.ble 1099511627776 x) _ _) = _; rw [hb2, hb]; rfl, ?_⟩
      refine Eq.mpr (congrArg T (k_virtual (a := a) (r := r.map (svd ρ)) hp hc hk (by rw [sdcat_d]; exact hd2))) ?_
      exact hcl true (.inr (.inr (a + 1)) :: as) r h0
  · change (cond (Nat.ble 1099511627776 x) none (spop (Nat.mod (Nat.div x 16) 16) st [] fun as r1 => t1a r1 fun a r => cond (Nat.ble (sdcat r) 8) (cl false (.inr (.inr (a + 1)) :: as) r) none)) = some lv at h
    cases hb : Nat.ble 1099511627776 x with
    | true => rw [hb] at h; cases h
    | false =>
      rw [hb] at h
      obtain ⟨as, r1, h9, hp⟩ := spop_s ρ (acc := []) h
      obtain ⟨a, r, rfl, h0⟩ := t1a_s (st := r1) h9
      obtain ⟨hd2, h0⟩ := scd_t h0
      refine ⟨o_special, by show cond (Nat.ble 1099511627776 x) _ _ = _; rw [hb]; rfl, ?_⟩
      refine Eq.mpr (congrArg T (k_special (a := a) (r := r.map (svd ρ)) hp (by rw [sdcat_d]; exact hd2))) ?_
      exact hcl false (.inr (.inr (a + 1)) :: as) r h0
  · change (List.rec (motive := fun _ => sR) (rt none) (fun _ _ _ => none) st) = some lv at h
    cases st with
    | nil => exact ⟨_, rfl, hrt none h⟩
    | cons v r => cases h
  · change (t1 st fun v r => List.rec (motive := fun _ => sR) (cond (Nat.beq x 1) (rt (some (.inl v))) (sbel B 2 v none (rt (some (.inl v))))) (fun _ _ _ => none) r) = some lv at h
    obtain ⟨v, r, rfl, h0⟩ := t1_s h
    cases r with
    | cons v r => cases h0
    | nil =>
      have h1 : (cond (Nat.beq x 1) (rt (some (.inl v))) (sbel B 2 v none (rt (some (.inl v))))) = some lv := h0
      refine ⟨_, rfl, ?_⟩
      cases e : Nat.beq x 1 with
      | true =>
        rw [e] at h1
        refine Eq.mpr (congrArg T (k_ireturn (v := sden ρ v) (Or.inl e))) ?_
        exact hrt (some (.inl v)) h1
      | false =>
        rw [e] at h1
        obtain ⟨h2, h3⟩ := sor_s (sbel_spec hB 2 v none (rt (some (.inl v)))) h1
        have h4 : sbel B 2 v none (rt (some (.inl v))) = some lv := h1
        rw [h2] at h4
        refine Eq.mpr (congrArg T (k_ireturn (v := sden ρ v) (Or.inr h3))) ?_
        exact hrt (some (.inl v)) h4
  · change (t1l st fun v r => List.rec (motive := fun _ => sR) (rt (some (.inr (.inl v)))) (fun _ _ _ => none) r) = some lv at h
    obtain ⟨v, r, rfl, h0⟩ := t1l_s h
    cases r with
    | cons v r => cases h0
    | nil => exact ⟨_, rfl, hrt (some (.inr (.inl v))) h0⟩
  · cases h
end S

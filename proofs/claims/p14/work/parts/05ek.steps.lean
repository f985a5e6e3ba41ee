/-! ===== what each instruction of the program of words comes to ===== -/
theorem ke_pop {v : dV} {r : List dV} {k : dV → List dV → dR} : pop (v :: r) k = k v r := rfl
theorem ke_d1 {a : Nat} {r : List dV} {k : Nat → List dV → dR} : d1 (.inl a :: r) k = k a r := rfl
theorem ke_d2 {a b : Nat} {r : List dV} {k : Nat → Nat → List dV → dR} : d2 (.inl b :: .inl a :: r) k = k a b r := rfl
theorem ke_d1l {a : Nat} {r : List dV} {k : Nat → List dV → dR} : d1l (.inr (.inl a) :: r) k = k a r := rfl
theorem ke_d2l {a b : Nat} {r : List dV} {k : Nat → Nat → List dV → dR} : d2l (.inr (.inl b) :: .inr (.inl a) :: r) k = k a b r := rfl
theorem ke_dil {a b : Nat} {r : List dV} {k : Nat → Nat → List dV → dR} : dil (.inl b :: .inr (.inl a) :: r) k = k a b r := rfl
theorem ke_d1a {a : Nat} {r : List dV} {k : Nat → List dV → dR} : d1a (.inr (.inr (a + 1)) :: r) k = k a r := rfl
theorem ke_dia {a i : Nat} {r : List dV} {k : Nat → Nat → List dV → dR} : dia (.inl i :: .inr (.inr (a + 1)) :: r) k = k a (i % 4294967296) r := by
  have h : dia (.inl i :: .inr (.inr (a + 1)) :: r) k = fo (i % 4294967296) (fun j => k a j r) := rfl
  rw [h, fo_eq]
theorem ke_diia {a i x : Nat} {r : List dV} {k : Nat → Nat → Nat → List dV → dR} : diia (.inl x :: .inl i :: .inr (.inr (a + 1)) :: r) k = k a (i % 4294967296) x r := by
  have h : diia (.inl x :: .inl i :: .inr (.inr (a + 1)) :: r) k = dia (.inl i :: .inr (.inr (a + 1)) :: r) (fun a i r => k a i x r) := rfl
  rw [h, ke_dia]
theorem ke_dlia {a i x : Nat} {r : List dV} {k : Nat → Nat → Nat → List dV → dR} : dlia (.inr (.inl x) :: .inl i :: .inr (.inr (a + 1)) :: r) k = k a (i % 4294967296) x r := by
  have h : dlia (.inr (.inl x) :: .inl i :: .inr (.inr (a + 1)) :: r) k = dia (.inl i :: .inr (.inr (a + 1)) :: r) (fun a i r => k a i x r) := rfl
  rw [h, ke_dia]
theorem ke_opt {α : Type} {a : α} {k : α → dR} : opt (some a) k = k a := rfl
theorem ke_cel {kd n ct : Nat} {k : Nat → Nat → Nat → dR} : cel (some (kd, n, ct)) k = k kd n ct := rfl
theorem ke_vI {n : Nat} {k : Nat → dR} : vI (.inl n) k = k n := rfl
theorem ke_vL {n : Nat} {k : Nat → dR} : vL (.inr (.inl n)) k = k n := rfl
theorem ke_vA {n : Nat} {k : Nat → dR} : vA (.inr (.inr (n + 1))) k = k n := rfl
section S
variable {rec : dRec} {nxt : dCode} {y x d : Nat} {L : dL} {st : List dV} {h : dH}
theorem k_iload {n : Nat} (e : dlk L x = some (.inl n)) : o_iload y x nxt rec d L st h = nxt rec d L (.inl n :: st) h := by simp only [o_iload, e, ke_opt, ke_vI]
theorem k_lload {n : Nat} (e : dlk L x = some (.inr (.inl n))) : o_lload y x nxt rec d L st h = nxt rec d L (.inr (.inl n) :: st) h := by simp only [o_lload, e, ke_opt, ke_vL]
theorem k_aload {n : Nat} (e : dlk L x = some (.inr (.inr (n + 1)))) : o_aload y x nxt rec d L st h = nxt rec d L (.inr (.inr (n + 1)) :: st) h := by simp only [o_aload, e, ke_opt, ke_vA]
theorem k_istore {v : Nat} : o_istore y x nxt rec d L (.inl v :: st) h = nxt rec d ((x, .inl v) :: L.filter (dp1 x)) st h := by simp only [o_istore, ke_d1, sy_flt]
theorem k_lstore {v : Nat} : o_lstore y x nxt rec d L (.inr (.inl v) :: st) h = nxt rec d ((x, .inr (.inl v)) :: L.filter (dp2 x)) st h := by simp only [o_lstore, ke_d1l, sy_flt]
theorem k_astore {v : Nat} : o_astore y x nxt rec d L (.inr (.inr (v + 1)) :: st) h = nxt rec d ((x, .inr (.inr (v + 1))) :: L.filter (dp1 x)) st h := by simp only [o_astore, ke_d1a, sy_flt]
theorem k_iinc {n : Nat} (e : dlk L (Nat.div x 4294967296) = some (.inl n)) : o_iinc y x nxt rec d L st h = nxt rec d ((Nat.div x 4294967296, .inl (dAdd n (Nat.mod x 4294967296))) :: L.filter (dp1 (Nat.div x 4294967296))) st h := by simp only [o_iinc, e, ke_opt, ke_vI, fo_eq, sy_flt]
theorem k_bin {f : Nat → Nat → Nat} {a b : Nat} : o_bin f y x nxt rec d L (.inl b :: .inl a :: st) h = nxt rec d L (.inl (f a b) :: st) h := by simp only [o_bin, ke_d2, fo_eq]
theorem k_binl {f : Nat → Nat → Nat} {a b : Nat} : o_binl f y x nxt rec d L (.inr (.inl b) :: .inr (.inl a) :: st) h = nxt rec d L (.inr (.inl (f a b)) :: st) h := by simp only [o_binl, ke_d2l, fo_eq]
theorem k_div {f : Nat → Nat → Nat} {a b : Nat} (hz : dZ b = false) : o_div f y x nxt rec d L (.inl b :: .inl a :: st) h = nxt rec d L (.inl (f a b) :: st) h := by simp only [o_div, ke_d2, hz, cond_false, fo_eq]
theorem k_shl {f : Nat → Nat → Nat} {a b : Nat} : o_shl f y x nxt rec d L (.inl b :: .inr (.inl a) :: st) h = nxt rec d L (.inr (.inl (f a b)) :: st) h := by simp only [o_shl, ke_dil, fo_eq]
theorem k_lcmp {a b : Nat} : o_lcmp y x nxt rec d L (.inr (.inl b) :: .inr (.inl a) :: st) h = nxt rec d L (.inl (dCmp a b) :: st) h := by simp only [o_lcmp, ke_d2l, fo_eq]
theorem k_un {f : Nat → Nat} {a : Nat} : o_un f y x nxt rec d L (.inl a :: st) h = nxt rec d L (.inl (f a) :: st) h := by simp only [o_un, ke_d1, fo_eq]
theorem k_i2l {a : Nat} : o_i2l y x nxt rec d L (.inl a :: st) h = nxt rec d L (.inr (.inl (dI2l a)) :: st) h := by simp only [o_i2l, ke_d1, fo_eq]
theorem k_l2i {a : Nat} : o_l2i y x nxt rec d L (.inr (.inl a) :: st) h = nxt rec d L (.inl (dL2i a) :: st) h := by simp only [o_l2i, ke_d1l, fo_eq]
theorem k_if {c : ClassFile.Cond} {a : Nat} : o_if c y x nxt rec d L (.inl a :: st) h = cond (dcd c a 0) (rec d y x L st h) (nxt rec d L st h) := by simp only [o_if, ke_d1]
theorem k_icmp {c : ClassFile.Cond} {a b : Nat} : o_icmp c y x nxt rec d L (.inl b :: .inl a :: st) h = cond (dcd c a b) (rec d y x L st h) (nxt rec d L st h) := by simp only [o_icmp, ke_d2]
theorem k_tsw {a : Nat} : o_tsw y x nxt rec d L (.inl a :: st) h = cond (Nat.blt (dSub a (Nat.mod x 4294967296)) (wq 16 (Nat.shiftRight x 32) 0)) (rec d y (wq 16 (Nat.shiftRight x 32) (Nat.succ (Nat.succ (dSub a (Nat.mod x 4294967296))))) L st h) (rec d y (wq 16 (Nat.shiftRight x 32) 1) L st h) := by simp only [o_tsw, ke_d1, fo_eq]
theorem k_lsw {a : Nat} : o_lsw y x nxt rec d L (.inl a :: st) h = rec d y (dlsw (Nat.shiftRight x 32) (Nat.mod a 4294967296) (wq 16 x 1) (wq 16 x 0) 0) L st h := by simp only [o_lsw, ke_d1, fo_eq]
theorem k_dup {v : dV} (e : disl v = false) : o_dup y x nxt rec d L (v :: st) h = nxt rec d L (v :: v :: st) h := by simp only [o_dup, ke_pop, e, cond_false]
theorem k_pop {v : dV} (e : disl v = false) : o_pop y x nxt rec d L (v :: st) h = nxt rec d L st h := by simp only [o_pop, ke_pop, e, cond_false]
theorem k_dup2l {v : dV} (e : disl v = true) : o_dup2 y x nxt rec d L (v :: st) h = nxt rec d L (v :: v :: st) h := by simp only [o_dup2, ke_pop, e, cond_true]
theorem k_dup2 {v w : dV} (e : disl v = false) (e2 : disl w = false) : o_dup2 y x nxt rec d L (v :: w :: st) h = nxt rec d L (v :: w :: v :: w :: st) h := by simp only [o_dup2, ke_pop, e, e2, cond_false]
theorem k_getfield {a kd n ct : Nat} (ha : hat h a = some (kd, n, ct)) (hk : Nat.beq kd (Nat.add (Nat.div x 1024) 4) = true) : o_getfield y x nxt rec d L (.inr (.inr (a + 1)) :: st) h = nxt rec d L (fv (Nat.mod x 4) (wd 64 ct (Nat.mod (Nat.div x 4) 256)) :: st) h := by simp only [o_getfield, ke_d1a, ha, ke_cel, hk, cond_true, fo_eq]
theorem k_putfield {a kd n ct w : Nat} {v : dV} {h2 : dH} (ha : hat h a = some (kd, n, ct)) (hk : Nat.beq kd (Nat.add (Nat.div x 1024) 4) = true) (hv : ∀ k : Nat → dR, fe (Nat.mod x 4) v k = k w) (hs : hset h a (kd, n, wst 64 ct (Nat.mod (Nat.div x 4) 256) w) (fun h' => nxt rec d L st h') none = nxt rec d L st h2) : o_putfield y x nxt rec d L (v :: .inr (.inr (a + 1)) :: st) h = nxt rec d L st h2 := by
  simp only [o_putfield, ke_pop, ke_d1a, ha, ke_cel, hk, cond_true, hv, fo_eq]
  exact hs
theorem k_alen {a kd n ct : Nat} (ha : hat h a = some (kd, n, ct)) (hk : Nat.blt kd 4 = true) : o_alen y x nxt rec d L (.inr (.inr (a + 1)) :: st) h = nxt rec d L (.inl n :: st) h := by simp only [o_alen, ke_d1a, ha, ke_cel, hk, cond_true]
theorem k_iaload {a i n ct : Nat} (ha : hat h a = some (0, n, ct)) (hi : i % 4294967296 = i) (hd : ∀ X : dR, din i n X = X) : o_iaload y x nxt rec d L (.inl i :: .inr (.inr (a + 1)) :: st) h = nxt rec d L (.inl (wd 32 ct i) :: st) h := by
  simp only [o_iaload, ke_dia, ha, ke_cel, hi, hd, fo_eq]; rfl
theorem k_laload {a i n ct : Nat} (ha : hat h a = some (1, n, ct)) (hi : i % 4294967296 = i) (hd : ∀ X : dR, din i n X = X) : o_laload y x nxt rec d L (.inl i :: .inr (.inr (a + 1)) :: st) h = nxt rec d L (.inr (.inl (wd 64 ct i)) :: st) h := by
  simp only [o_laload, ke_dia, ha, ke_cel, hi, hd, fo_eq]; rfl
theorem k_baload2 {a i n ct : Nat} (ha : hat h a = some (2, n, ct)) (hi : i % 4294967296 = i) (hd : ∀ X : dR, din i n X = X) : o_baload y x nxt rec d L (.inl i :: .inr (.inr (a + 1)) :: st) h = nxt rec d L (.inl (dI2b (wd 8 ct i)) :: st) h := by
  simp only [o_baload, ke_dia, ha, ke_cel, hi, hd, fo_eq]; rfl
theorem k_baload3 {a i n ct : Nat} (ha : hat h a = some (3, n, ct)) (hi : i % 4294967296 = i) (hd : ∀ X : dR, din i n X = X) : o_baload y x nxt rec d L (.inl i :: .inr (.inr (a + 1)) :: st) h = nxt rec d L (.inl (wd 8 ct i) :: st) h := by
  simp only [o_baload, ke_dia, ha, ke_cel, hi, hd, fo_eq]; rfl
theorem k_iastore {a i n ct v : Nat} {h2 : dH} (ha : hat h a = some (0, n, ct)) (hi : i % 4294967296 = i) (hd : ∀ X : dR, din i n X = X) (hs : hset h a (0, n, wst 32 ct i (Nat.mod v 4294967296)) (fun h' => nxt rec d L st h') none = nxt rec d L st h2) : o_iastore y x nxt rec d L (.inl v :: .inl i :: .inr (.inr (a + 1)) :: st) h = nxt rec d L st h2 := by
  simp only [o_iastore, ke_diia, ha, ke_cel, hi, hd, fo_eq]; exact hs
theorem k_lastore {a i n ct v : Nat} {h2 : dH} (ha : hat h a = some (1, n, ct)) (hi : i % 4294967296 = i) (hd : ∀ X : dR, din i n X = X) (hs : hset h a (1, n, wst 64 ct i (Nat.mod v 18446744073709551616)) (fun h' => nxt rec d L st h') none = nxt rec d L st h2) : o_lastore y x nxt rec d L (.inr (.inl v) :: .inl i :: .inr (.inr (a + 1)) :: st) h = nxt rec d L st h2 := by
  simp only [o_lastore, ke_dlia, ha, ke_cel, hi, hd, fo_eq]; exact hs
theorem k_bastore2 {a i n ct v : Nat} {h2 : dH} (ha : hat h a = some (2, n, ct)) (hi : i % 4294967296 = i) (hd : ∀ X : dR, din i n X = X) (hs : hset h a (2, n, wst 8 ct i (Nat.mod v 256)) (fun h' => nxt rec d L st h') none = nxt rec d L st h2) : o_bastore y x nxt rec d L (.inl v :: .inl i :: .inr (.inr (a + 1)) :: st) h = nxt rec d L st h2 := by
  simp only [o_bastore, ke_diia, ha, ke_cel, hi, hd, fo_eq]; exact hs
theorem k_bastore3 {a i n ct v : Nat} {h2 : dH} (ha : hat h a = some (3, n, ct)) (hi : i % 4294967296 = i) (hd : ∀ X : dR, din i n X = X) (hs : hset h a (3, n, wst 8 ct i (Nat.mod v 2)) (fun h' => nxt rec d L st h') none = nxt rec d L st h2) : o_bastore y x nxt rec d L (.inl v :: .inl i :: .inr (.inr (a + 1)) :: st) h = nxt rec d L st h2 := by
  simp only [o_bastore, ke_diia, ha, ke_cel, hi, hd, fo_eq]; exact hs
theorem k_mm {f : Nat → Nat → Nat} {a b : Nat} (h1 : Nat.ble 1 d = true) (h2 : Nat.ble (dcat st) 8 = true) : o_mm f y x nxt rec d L (.inl b :: .inl a :: st) h = nxt rec d L (.inl (f a b) :: st) h := by simp only [o_mm, ke_d2, h1, h2, cond_true, fo_eq]
theorem k_static {as r : List dV} (hp : ∀ k2 : List dV → List dV → dR, dpop (Nat.mod (Nat.div x 16) 16) st [] k2 = k2 as r) (hd : Nat.ble (dcat r) 8 = true) : o_static y x nxt rec d L st h = dcall rec d x as h fun v h' => cond (dthr v) none (dgo nxt rec d L r v h') := by simp only [o_static, hp, hd, cond_true]
theorem k_virtual {as r : List dV} {a kd n ct : Nat} (hp : ∀ k2 : List dV → List dV → dR, dpop (Nat.mod (Nat.div x 16) 16) st [] k2 = k2 as (.inr (.inr (a + 1)) :: r)) (ha : hat h a = some (kd, n, ct)) (hk : Nat.beq kd (Nat.add (Nat.mod x 16) 4) = true) (hd : Nat.ble (dcat r) 8 = true) : o_virtual y x nxt rec d L st h = dcall rec d x (.inr (.inr (a + 1)) :: as) h fun v h' => cond (dthr v) (some (v, h')) (dgo nxt rec d L r v h') := by simp only [o_virtual, hp, ke_d1a, ha, ke_cel, hk, hd, cond_true]
theorem k_special {as r : List dV} {a : Nat} (hp : ∀ k2 : List dV → List dV → dR, dpop (Nat.mod (Nat.div x 16) 16) st [] k2 = k2 as (.inr (.inr (a + 1)) :: r)) (hd : Nat.ble (dcat r) 8 = true) : o_special y x nxt rec d L st h = dcall rec d x (.inr (.inr (a + 1)) :: as) h fun v h' => cond (dthr v) none (dgo nxt rec d L r v h') := by simp only [o_special, hp, ke_d1a, hd, cond_true]
theorem k_ireturn {v : Nat} (e : Nat.beq x 1 = true ∨ v < 2) : o_ireturn y x nxt rec d L [.inl v] h = some (some (.inl v), h) := by
  show cond (Nat.beq x 1) (some (some (.inl v : dV), h) : dR) (cond (Nat.ble (Nat.mod v 4294967296) 1) (some (some (.inl v : dV), h) : dR) none) = _
  rcases e with e | e
  · rw [e]; rfl
  · rw [show Nat.mod v 4294967296 = v from Nat.mod_eq_of_lt (by omega), show Nat.ble v 1 = true from Nat.ble_eq_true_of_le (by omega)]
    cases Nat.beq x 1 <;> rfl
end S

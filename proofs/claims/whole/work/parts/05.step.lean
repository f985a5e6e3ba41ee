/-! ===== a program of words: one instruction, and the run of a method ===== -/
abbrev dI : Type := Instr × Nat × Nat
/-- a method: how many locals, what it answers (0 nothing, 1 int, 2 boolean, 3 long), its instructions by their places -/
abbrev dK : Type := Nat × Nat × List (List (List (Option dI)))
abbrev dL : Type := List (Nat × dV)
abbrev dR : Type := Option (Option dV × dH)
noncomputable def dft (cd : List (List (List (Option dI)))) (pc : Nat) : Option dI := match nth cd (Nat.div pc 64) with
  | none => none
  | some l2 => match nth l2 (Nat.mod (Nat.div pc 8) 8) with
    | none => none
    | some l3 => match nth l3 (Nat.mod pc 8) with
      | none => none
      | some o => o
def disl : dV → Bool
  | .inl _ => false
  | .inr (.inl _) => true
  | .inr (.inr _) => false
noncomputable def dlk (L : dL) (i : Nat) : Option dV := List.rec (motive := fun _ => Option dV) none (fun a _ ih => cond (Nat.beq a.1 i) (some a.2) ih) L
noncomputable def fltc {α β : Type} (p : α → Bool) (L : List α) : (List α → β) → β := List.rec (motive := fun _ => (List α → β) → β) (fun k => k []) (fun a _ ih k => cond (p a) (ih (fun u => k (a :: u))) (ih k)) L
def dp1 (i : Nat) (q : Nat × dV) : Bool := cond (Nat.beq q.1 i) false (cond (Nat.beq (Nat.succ q.1) i) (cond (disl q.2) false true) true)
def dp2 (i : Nat) (q : Nat × dV) : Bool := cond (Nat.beq q.1 i) false (cond (Nat.beq q.1 (Nat.succ i)) false (cond (Nat.beq (Nat.succ q.1) i) (cond (disl q.2) false true) true))
def dcd (c : ClassFile.Cond) (a b : Nat) : Bool := match c with
  | .eq => dEq a b
  | .ne => cond (dEq a b) false true
  | .lt => dLt a b
  | .ge => cond (dLt a b) false true
  | .gt => dLt b a
  | .le => cond (dLt b a) false true
/-- a field's word, as its type has it -/
def fv (tc w : Nat) : dV := match tc with
  | 0 => .inl w
  | 1 => .inr (.inl w)
  | 2 => .inl w
  | _ => .inr (.inr w)
/-- .. and the word of a value, if the type may hold it -/
noncomputable def fe {β : Type} (tc : Nat) (v : dV) (k : Nat → β) (z : β) : β := match tc with
  | 0 => match v with
    | .inl n => fo (Nat.mod n 4294967296) k
    | _ => z
  | 1 => match v with
    | .inr (.inl n) => fo (Nat.mod n 18446744073709551616) k
    | _ => z
  | 2 => match v with
    | .inl n => cond (Nat.ble (Nat.mod n 4294967296) 1) (fo (Nat.mod n 4294967296) k) z
    | _ => z
  | 3 => match v with
    | .inr (.inr n) => cond (Nat.blt n 18446744073709551616) (k n) z
    | _ => z
  | _ => z
/-- arguments, from the last on the stack -/
noncomputable def dpop {β : Type} (n : Nat) : List dV → List dV → (List dV → List dV → β) → β → β := Nat.rec (motive := fun _ => List dV → List dV → (List dV → List dV → β) → β → β) (fun st acc k _ => k acc st) (fun _ ih st acc k z => match st with
  | [] => z
  | v :: st' => ih st' (v :: acc) k z) n
/-- locals of arguments -/
noncomputable def dargs {β : Type} (as : List dV) : Nat → (dL → Nat → β) → β := List.rec (motive := fun _ => Nat → (dL → Nat → β) → β) (fun i k => k [] i) (fun v _ ih i k => cond (disl v) (ih (Nat.succ (Nat.succ i)) (fun u n => k ((i, v) :: u) n)) (ih (Nat.succ i) (fun u n => k ((i, v) :: u) n))) as
noncomputable def dcat (st : List dV) : Nat := List.rec (motive := fun _ => Nat) 0 (fun v _ ih => Nat.add (cond (disl v) 2 1) ih) st
noncomputable def dmth (ks : List (List (Option dK))) (y : Nat) : Option dK := match nth ks (Nat.div y 23) with
  | none => none
  | some l => match nth l (Nat.mod y 23) with
    | none => none
    | some o => o
def dpush (r : Option dV) (st : List dV) : List dV := match r with
  | none => st
  | some v => v :: st
abbrev dRec : Type := Nat → dK → Nat → dL → List dV → dH → dR
/-- what goes on with two ints on the stack -/
def d2 (st : List dV) (k : Nat → Nat → List dV → dR) : dR := match st with
  | .inl b :: .inl a :: r => k a b r
  | _ => none
def d1 (st : List dV) (k : Nat → List dV → dR) : dR := match st with
  | .inl a :: r => k a r
  | _ => none
def d2l (st : List dV) (k : Nat → Nat → List dV → dR) : dR := match st with
  | .inr (.inl b) :: .inr (.inl a) :: r => k a b r
  | _ => none
def d1l (st : List dV) (k : Nat → List dV → dR) : dR := match st with
  | .inr (.inl a) :: r => k a r
  | _ => none
/-- an int, and a long under it -/
def dil (st : List dV) (k : Nat → Nat → List dV → dR) : dR := match st with
  | .inl b :: .inr (.inl a) :: r => k a b r
  | _ => none
/-- a cell that is no null -/
def d1a (st : List dV) (k : Nat → List dV → dR) : dR := match st with
  | .inr (.inr (Nat.succ a)) :: r => k a r
  | _ => none
/-- an int under nothing, a cell under it -/
def dia (st : List dV) (k : Nat → Nat → List dV → dR) : dR := match st with
  | .inl i :: .inr (.inr (Nat.succ a)) :: r => k a (Nat.mod i 4294967296) r
  | _ => none
def diia (st : List dV) (k : Nat → Nat → Nat → List dV → dR) : dR := match st with
  | .inl v :: .inl i :: .inr (.inr (Nat.succ a)) :: r => k a (Nat.mod i 4294967296) v r
  | _ => none
def dlia (st : List dV) (k : Nat → Nat → Nat → List dV → dR) : dR := match st with
  | .inr (.inl v) :: .inl i :: .inr (.inr (Nat.succ a)) :: r => k a (Nat.mod i 4294967296) v r
  | _ => none
/-- a place in a row of a kind -/
def din (i n : Nat) (x z : dR) : dR := cond (Nat.blt i n) (cond (Nat.blt i 2147483648) x z) z
noncomputable def dcall (ks : List (List (Option dK))) (rec : dRec) (d : Nat) (x : Nat) (as : List dV) (h : dH) (k : Option dV → dH → dR) : dR := match d with
  | 0 => none
  | Nat.succ d' => match dmth ks (Nat.div x 256) with
    | none => none
    | some cd => dargs as 0 fun L n => cond (Nat.ble n cd.1) (match rec d' cd 0 L [] h with
      | none => none
      | some (r, h') => k r h') none
noncomputable def dstep (ks : List (List (Option dK))) (rec : dRec) (d : Nat) (cd : dK) (pc : Nat) (L : dL) (st : List dV) (h : dH) (ins : Instr) (len x : Nat) : dR := match ins with
  | .iconst _ => rec d cd (Nat.add pc 1) L (.inl x :: st) h
  | .bipush _ => rec d cd (Nat.add pc 2) L (.inl x :: st) h
  | .sipush _ => rec d cd (Nat.add pc 3) L (.inl x :: st) h
  | .lconst _ => rec d cd (Nat.add pc 1) L (.inr (.inl x) :: st) h
  | .ldc _ => cond (Nat.blt x 4294967296) (rec d cd (Nat.add pc 2) L (.inl x :: st) h) none
  | .ldc_w _ => cond (Nat.blt x 4294967296) (rec d cd (Nat.add pc 3) L (.inl x :: st) h) none
  | .ldc2_w _ => rec d cd (Nat.add pc 3) L (.inr (.inl x) :: st) h
  | .iload_n _ => match dlk L x with
    | some (.inl v) => rec d cd (Nat.add pc 1) L (.inl v :: st) h
    | _ => none
  | .iload _ => match dlk L x with
    | some (.inl v) => rec d cd (Nat.add pc 2) L (.inl v :: st) h
    | _ => none
  | .lload_n _ => match dlk L x with
    | some (.inr (.inl v)) => rec d cd (Nat.add pc 1) L (.inr (.inl v) :: st) h
    | _ => none
  | .lload _ => match dlk L x with
    | some (.inr (.inl v)) => rec d cd (Nat.add pc 2) L (.inr (.inl v) :: st) h
    | _ => none
  | .aload_n _ => match dlk L x with
    | some (.inr (.inr (Nat.succ v))) => rec d cd (Nat.add pc 1) L (.inr (.inr (Nat.succ v)) :: st) h
    | _ => none
  | .aload _ => match dlk L x with
    | some (.inr (.inr (Nat.succ v))) => rec d cd (Nat.add pc 2) L (.inr (.inr (Nat.succ v)) :: st) h
    | _ => none
  | .istore_n _ => d1 st fun v r => fltc (dp1 x) L fun u => rec d cd (Nat.add pc 1) ((x, .inl v) :: u) r h
  | .istore _ => d1 st fun v r => fltc (dp1 x) L fun u => rec d cd (Nat.add pc 2) ((x, .inl v) :: u) r h
  | .lstore_n _ => d1l st fun v r => fltc (dp2 x) L fun u => rec d cd (Nat.add pc 1) ((x, .inr (.inl v)) :: u) r h
  | .lstore _ => d1l st fun v r => fltc (dp2 x) L fun u => rec d cd (Nat.add pc 2) ((x, .inr (.inl v)) :: u) r h
  | .astore_n _ => d1a st fun v r => fltc (dp1 x) L fun u => rec d cd (Nat.add pc 1) ((x, .inr (.inr (Nat.succ v))) :: u) r h
  | .astore _ => d1a st fun v r => fltc (dp1 x) L fun u => rec d cd (Nat.add pc 2) ((x, .inr (.inr (Nat.succ v))) :: u) r h
  | .iinc _ _ => match dlk L (Nat.div x 4294967296) with
    | some (.inl v) => fo (dAdd v (Nat.mod x 4294967296)) fun w => fltc (dp1 (Nat.div x 4294967296)) L fun u => rec d cd (Nat.add pc 3) ((Nat.div x 4294967296, .inl w) :: u) st h
    | _ => none
  | .iadd => d2 st fun a b r => fo (dAdd a b) fun v => rec d cd (Nat.add pc 1) L (.inl v :: r) h
  | .isub => d2 st fun a b r => fo (dSub a b) fun v => rec d cd (Nat.add pc 1) L (.inl v :: r) h
  | .imul => d2 st fun a b r => fo (dMul a b) fun v => rec d cd (Nat.add pc 1) L (.inl v :: r) h
  | .iand => d2 st fun a b r => fo (dAnd a b) fun v => rec d cd (Nat.add pc 1) L (.inl v :: r) h
  | .ior => d2 st fun a b r => fo (dOr a b) fun v => rec d cd (Nat.add pc 1) L (.inl v :: r) h
  | .ixor => d2 st fun a b r => fo (dXor a b) fun v => rec d cd (Nat.add pc 1) L (.inl v :: r) h
  | .ishl => d2 st fun a b r => fo (dShl a b) fun v => rec d cd (Nat.add pc 1) L (.inl v :: r) h
  | .ineg => d1 st fun a r => fo (dNeg a) fun v => rec d cd (Nat.add pc 1) L (.inl v :: r) h
  | .i2b => d1 st fun a r => fo (dI2b a) fun v => rec d cd (Nat.add pc 1) L (.inl v :: r) h
  | .i2l => d1 st fun a r => fo (dI2l a) fun v => rec d cd (Nat.add pc 1) L (.inr (.inl v) :: r) h
  | .l2i => d1l st fun a r => fo (dL2i a) fun v => rec d cd (Nat.add pc 1) L (.inl v :: r) h
  | .ladd => d2l st fun a b r => fo (dLAdd a b) fun v => rec d cd (Nat.add pc 1) L (.inr (.inl v) :: r) h
  | .lsub => d2l st fun a b r => fo (dLSub a b) fun v => rec d cd (Nat.add pc 1) L (.inr (.inl v) :: r) h
  | .lmul => d2l st fun a b r => fo (dLMul a b) fun v => rec d cd (Nat.add pc 1) L (.inr (.inl v) :: r) h
  | .land => d2l st fun a b r => fo (dLAnd a b) fun v => rec d cd (Nat.add pc 1) L (.inr (.inl v) :: r) h
  | .lor => d2l st fun a b r => fo (dLOr a b) fun v => rec d cd (Nat.add pc 1) L (.inr (.inl v) :: r) h
  | .lxor => d2l st fun a b r => fo (dLXor a b) fun v => rec d cd (Nat.add pc 1) L (.inr (.inl v) :: r) h
  | .lcmp => d2l st fun a b r => fo (dCmp a b) fun v => rec d cd (Nat.add pc 1) L (.inl v :: r) h
  | .lshl => dil st fun a b r => fo (dLShl a b) fun v => rec d cd (Nat.add pc 1) L (.inr (.inl v) :: r) h
  | .lushr => dil st fun a b r => fo (dLUshr a b) fun v => rec d cd (Nat.add pc 1) L (.inr (.inl v) :: r) h
  | .ifCond c _ => d1 st fun a r => cond (dcd c a 0) (rec d cd x L r h) (rec d cd (Nat.add pc 3) L r h)
  | .if_icmp c _ => d2 st fun a b r => cond (dcd c a b) (rec d cd x L r h) (rec d cd (Nat.add pc 3) L r h)
  | .goto _ => rec d cd x L st h
  | .tableswitch _ _ _ _ => d1 st fun a r => fo (dSub a (Nat.mod x 4294967296)) fun j => fo (Nat.shiftRight x 32) fun y => cond (Nat.blt j (wd 16 y 0)) (fo (wd 16 y (Nat.succ (Nat.succ j))) fun t => rec d cd t L r h) (fo (wd 16 y 1) fun t => rec d cd t L r h)
  | .dup => match st with
    | v :: r => cond (disl v) none (rec d cd (Nat.add pc 1) L (v :: v :: r) h)
    | _ => none
  | .pop => match st with
    | v :: r => cond (disl v) none (rec d cd (Nat.add pc 1) L r h)
    | _ => none
  | .dup2 => match st with
    | v :: r => cond (disl v) (rec d cd (Nat.add pc 1) L (v :: v :: r) h) (match r with
      | w :: r2 => cond (disl w) none (rec d cd (Nat.add pc 1) L (v :: w :: v :: w :: r2) h)
      | _ => none)
    | _ => none
  | .getfield _ => d1a st fun a r => match hat h a with
    | some (kd, _, ct) => cond (Nat.beq kd (Nat.add (Nat.div x 1024) 4)) (fo (wd 64 ct (Nat.mod (Nat.div x 4) 256)) fun w => rec d cd (Nat.add pc 3) L (fv (Nat.mod x 4) w :: r) h) none
    | none => none
  | .putfield _ => match st with
    | v :: st1 => d1a st1 fun a r => match hat h a with
      | some (kd, n, ct) => cond (Nat.beq kd (Nat.add (Nat.div x 1024) 4)) (fe (Nat.mod x 4) v (fun w => fo (wst 64 ct (Nat.mod (Nat.div x 4) 256) w) fun c' => hset h a (kd, n, c') (fun h' => rec d cd (Nat.add pc 3) L r h') none) none) none
      | none => none
    | [] => none
  | .new _ => match h with
    | (n, s, cs) => fo (Nat.add (Nat.div x 256) 4) fun kd => hpush (n, s, cs) (kd, Nat.mod x 256, 0) (Nat.mod x 256) (fun h' => rec d cd (Nat.add pc 3) L (.inr (.inr (Nat.succ n)) :: st) h') none
  | .newarray _ => d1 st fun a r => match h with
    | (n, s, cs) => fo (Nat.mod a 4294967296) fun k => cond (Nat.ble k 67108864) (hpush (n, s, cs) (x, k, 0) k (fun h' => rec d cd (Nat.add pc 2) L (.inr (.inr (Nat.succ n)) :: r) h') none) none
  | .arraylength => d1a st fun a r => match hat h a with
    | some (kd, n, _) => cond (Nat.blt kd 4) (rec d cd (Nat.add pc 1) L (.inl n :: r) h) none
    | none => none
  | .iaload => dia st fun a i r => match hat h a with
    | some (0, n, ct) => din i n (fo (wd 32 ct i) fun w => rec d cd (Nat.add pc 1) L (.inl w :: r) h) none
    | _ => none
  | .laload => dia st fun a i r => match hat h a with
    | some (1, n, ct) => din i n (fo (wd 64 ct i) fun w => rec d cd (Nat.add pc 1) L (.inr (.inl w) :: r) h) none
    | _ => none
  | .baload => dia st fun a i r => match hat h a with
    | some (2, n, ct) => din i n (fo (dI2b (wd 8 ct i)) fun w => rec d cd (Nat.add pc 1) L (.inl w :: r) h) none
    | some (3, n, ct) => din i n (fo (wd 8 ct i) fun w => rec d cd (Nat.add pc 1) L (.inl w :: r) h) none
    | _ => none
  | .iastore => diia st fun a i v r => match hat h a with
    | some (0, n, ct) => din i n (fo (wst 32 ct i (Nat.mod v 4294967296)) fun c' => hset h a (0, n, c') (fun h' => rec d cd (Nat.add pc 1) L r h') none) none
    | _ => none
  | .lastore => dlia st fun a i v r => match hat h a with
    | some (1, n, ct) => din i n (fo (wst 64 ct i (Nat.mod v 18446744073709551616)) fun c' => hset h a (1, n, c') (fun h' => rec d cd (Nat.add pc 1) L r h') none) none
    | _ => none
  | .bastore => diia st fun a i v r => match hat h a with
    | some (2, n, ct) => din i n (fo (wst 8 ct i (Nat.mod v 256)) fun c' => hset h a (2, n, c') (fun h' => rec d cd (Nat.add pc 1) L r h') none) none
    | some (3, n, ct) => din i n (fo (wst 8 ct i (Nat.mod v 2)) fun c' => hset h a (3, n, c') (fun h' => rec d cd (Nat.add pc 1) L r h') none) none
    | _ => none
  | .invokestatic _ => dpop (Nat.mod (Nat.div x 16) 16) st [] (fun as r => cond (Nat.ble (dcat r) 8) (dcall ks rec d x as h fun v h' => rec d cd (Nat.add pc 3) L (dpush v r) h') none) none
  | .invokevirtual _ => dpop (Nat.mod (Nat.div x 16) 16) st [] (fun as r1 => d1a r1 fun a r => match hat h a with
    | some (kd, _, _) => cond (Nat.beq kd (Nat.add (Nat.mod x 16) 4)) (cond (Nat.ble (dcat r) 8) (dcall ks rec d x (.inr (.inr (Nat.succ a)) :: as) h fun v h' => rec d cd (Nat.add pc 3) L (dpush v r) h') none) none
    | none => none) none
  | .invokespecial _ => cond (Nat.beq x 1099511627776) (match d with
    | 0 => none
    | Nat.succ _ => d1a st fun _ r => cond (Nat.ble (dcat r) 8) (rec d cd (Nat.add pc 3) L r h) none) (dpop (Nat.mod (Nat.div x 16) 16) st [] (fun as r1 => d1a r1 fun a r => cond (Nat.ble (dcat r) 8) (dcall ks rec d x (.inr (.inr (Nat.succ a)) :: as) h fun v h' => rec d cd (Nat.add pc 3) L (dpush v r) h') none) none)
  | .return_ => match st with
    | [] => match cd.2.1 with
      | 0 => some (none, h)
      | _ => none
    | _ => none
  | .ireturn => match st with
    | [.inl v] => match cd.2.1 with
      | 1 => some (some (.inl v), h)
      | 2 => cond (Nat.ble (Nat.mod v 4294967296) 1) (some (some (.inl v), h)) none
      | _ => none
    | _ => none
  | .lreturn => match st with
    | [.inr (.inl v)] => match cd.2.1 with
      | 3 => some (some (.inr (.inl v)), h)
      | _ => none
    | _ => none
  | _ => none
noncomputable def drun (ks : List (List (Option dK))) (f : Nat) : dRec := Nat.rec (motive := fun _ => dRec) (fun _ _ _ _ _ _ => none) (fun _ ih d cd pc L st h => match dft cd.2.2 pc with
  | none => none
  | some (ins, len, x) => dstep ks ih d cd pc L st h ins len x) f

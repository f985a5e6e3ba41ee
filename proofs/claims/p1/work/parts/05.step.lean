/-! ===== a program of words: what each instruction does, and the run of a method ===== -/
def dT0 : Nat := 281474976710656
def dT1 : Nat := 562949953421312
abbrev dI : Type := Instr × Nat × Nat
abbrev dL : Type := List (Nat × dV)
abbrev dR : Type := Option (Option dV × dH)
/-- on to a block: how deep, the method, the place, locals, stack, heap -/
abbrev dRec : Type := Nat → Nat → Nat → dL → List dV → dH → dR
abbrev dCode : Type := dRec → Nat → dL → List dV → dH → dR
/-- the method, what is resolved of the instruction, what comes behind -/
abbrev dOp : Type := Nat → Nat → dCode → dCode
noncomputable def disl (v : dV) : Bool := Sum.rec (motive := fun _ => Bool) (fun _ => false) (fun w => Sum.rec (motive := fun _ => Bool) (fun _ => true) (fun _ => false) w) v
noncomputable def dlk (L : dL) (i : Nat) : Option dV := List.rec (motive := fun _ => Option dV) none (fun a _ ih => cond (Nat.beq a.1 i) (some a.2) ih) L
noncomputable def fltc {α β : Type} (p : α → Bool) (L : List α) : (List α → β) → β := List.rec (motive := fun _ => (List α → β) → β) (fun k => k []) (fun a _ ih k => cond (p a) (ih (fun u => k (a :: u))) (ih k)) L
noncomputable def dp1 (i : Nat) (q : Nat × dV) : Bool := cond (Nat.beq q.1 i) false (cond (Nat.beq (Nat.succ q.1) i) (cond (disl q.2) false true) true)
noncomputable def dp2 (i : Nat) (q : Nat × dV) : Bool := cond (Nat.beq q.1 i) false (cond (Nat.beq q.1 (Nat.succ i)) false (cond (Nat.beq (Nat.succ q.1) i) (cond (disl q.2) false true) true))
def dcd (c : ClassFile.Cond) (a b : Nat) : Bool := match c with
  | .eq => dEq a b
  | .ne => cond (dEq a b) false true
  | .lt => dLt a b
  | .ge => cond (dLt a b) false true
  | .gt => dLt b a
  | .le => cond (dLt b a) false true
/-- a field's word, as its type has it -/
def fv (tc w : Nat) : dV := match tc with
  | 0 => .inl w
  | 1 => .inr (.inl w)
  | 2 => .inl w
  | _ => .inr (.inr w)
-- what a value must be to go on
noncomputable def vI (v : dV) (k : Nat → dR) : dR := Sum.rec (motive := fun _ => dR) k (fun _ => none) v
noncomputable def vL (v : dV) (k : Nat → dR) : dR := Sum.rec (motive := fun _ => dR) (fun _ => none) (fun w => Sum.rec (motive := fun _ => dR) k (fun _ => none) w) v
noncomputable def vR (v : dV) (k : Nat → dR) : dR := Sum.rec (motive := fun _ => dR) (fun _ => none) (fun w => Sum.rec (motive := fun _ => dR) (fun _ => none) k w) v
noncomputable def vA (v : dV) (k : Nat → dR) : dR := vR v fun n => Nat.rec (motive := fun _ => dR) none (fun m _ => k m) n
noncomputable def pop (st : List dV) (k : dV → List dV → dR) : dR := List.rec (motive := fun _ => dR) none (fun v r _ => k v r) st
noncomputable def emp (st : List dV) (x : dR) : dR := List.rec (motive := fun _ => dR) x (fun _ _ _ => none) st
noncomputable def opt {α : Type} (o : Option α) (k : α → dR) : dR := Option.rec (motive := fun _ => dR) none k o
noncomputable def cel (o : Option dC) (k : Nat → Nat → Nat → dR) : dR := Option.rec (motive := fun _ => dR) none (fun c => Prod.rec (motive := fun _ => dR) (fun kd p => Prod.rec (motive := fun _ => dR) (fun n ct => k kd n ct) p) c) o
noncomputable def trip (h : dH) (k : Nat → Nat → List (List dC) → dR) : dR := Prod.rec (motive := fun _ => dR) (fun n p => Prod.rec (motive := fun _ => dR) (fun s cs => k n s cs) p) h
noncomputable def d1 (st : List dV) (k : Nat → List dV → dR) : dR := pop st fun v r => vI v fun a => k a r
noncomputable def d2 (st : List dV) (k : Nat → Nat → List dV → dR) : dR := pop st fun v r => vI v fun b => pop r fun w r => vI w fun a => k a b r
noncomputable def d1l (st : List dV) (k : Nat → List dV → dR) : dR := pop st fun v r => vL v fun a => k a r
noncomputable def d2l (st : List dV) (k : Nat → Nat → List dV → dR) : dR := pop st fun v r => vL v fun b => pop r fun w r => vL w fun a => k a b r
noncomputable def dil (st : List dV) (k : Nat → Nat → List dV → dR) : dR := pop st fun v r => vI v fun b => pop r fun w r => vL w fun a => k a b r
noncomputable def d1a (st : List dV) (k : Nat → List dV → dR) : dR := pop st fun v r => vA v fun a => k a r
noncomputable def dia (st : List dV) (k : Nat → Nat → List dV → dR) : dR := pop st fun v r => vI v fun i => pop r fun w r => vA w fun a => fo (Nat.mod i 4294967296) fun j => k a j r
noncomputable def diia (st : List dV) (k : Nat → Nat → Nat → List dV → dR) : dR := pop st fun v r => vI v fun x => dia r fun a i r => k a i x r
noncomputable def dlia (st : List dV) (k : Nat → Nat → Nat → List dV → dR) : dR := pop st fun v r => vL v fun x => dia r fun a i r => k a i x r
/-- the word of a value, if the type may hold it -/
noncomputable def fe (tc : Nat) (v : dV) (k : Nat → dR) : dR := match tc with
  | 0 => vI v fun n => fo (Nat.mod n 4294967296) k
  | 1 => vL v fun n => fo (Nat.mod n 18446744073709551616) k
  | 2 => vI v fun n => cond (Nat.ble (Nat.mod n 4294967296) 1) (fo (Nat.mod n 4294967296) k) none
  | 3 => vR v fun n => cond (Nat.blt n 18446744073709551616) (k n) none
  | _ => none
/-- arguments, from the last on the stack -/
noncomputable def dpop (n : Nat) : List dV → List dV → (List dV → List dV → dR) → dR := Nat.rec (motive := fun _ => List dV → List dV → (List dV → List dV → dR) → dR) (fun st acc k => k acc st) (fun _ ih st acc k => pop st fun v r => ih r (v :: acc) k) n
/-- locals of arguments -/
noncomputable def dargs {β : Type} (as : List dV) : Nat → (dL → Nat → β) → β := List.rec (motive := fun _ => Nat → (dL → Nat → β) → β) (fun i k => k [] i) (fun v _ ih i k => cond (disl v) (ih (Nat.succ (Nat.succ i)) (fun u n => k ((i, v) :: u) n)) (ih (Nat.succ i) (fun u n => k ((i, v) :: u) n))) as
noncomputable def dcat (st : List dV) : Nat := List.rec (motive := fun _ => Nat) 0 (fun v _ ih => Nat.add (cond (disl v) 2 1) ih) st
/-- a place in a row -/
def din (i n : Nat) (x : dR) : dR := cond (Nat.blt i n) (cond (Nat.blt i 2147483648) x none) none
/-- a call: x has the method, its locals, how many arguments, its class -/
noncomputable def dcall (rec : dRec) (d : Nat) (x : Nat) (as : List dV) (h : dH) (k : Option dV → dH → dR) : dR := Nat.rec (motive := fun _ => dR) none (fun d' _ => dargs as 0 fun L n => cond (Nat.ble n (Nat.mod (Nat.div x 256) 64)) (opt (rec d' (Nat.div x 16384) 0 L [] h) fun z => Prod.rec (motive := fun _ => dR) (fun r h' => k r h') z) none) d
/-- thrown: no method answers a reference, so such an answer says that it threw -/
noncomputable def dthr (v : Option dV) : Bool := Option.rec (motive := fun _ => Bool) false (fun w => Sum.rec (motive := fun _ => Bool) (fun _ => false) (fun z => Sum.rec (motive := fun _ => Bool) (fun _ => false) (fun _ => true) z) w) v
noncomputable def dgo (nxt : dCode) (rec : dRec) (d : Nat) (L : dL) (r : List dV) (v : Option dV) (h : dH) : dR := Option.rec (motive := fun _ => dR) (nxt rec d L r h) (fun w => nxt rec d L (w :: r) h) v
/-- the text of a constant: how long, and its bytes -/
noncomputable def dstr (a : Nat) (k : Nat → Nat → dR) : dR := cond (Nat.beq (dT0 + a % 1048576) a) (opt (nth dStr (a % 1048576)) fun z => Prod.rec (motive := fun _ => dR) (fun n ct => k n ct) z) none
-- the instructions
noncomputable def o_int (y x : Nat) (nxt : dCode) : dCode := fun rec d L st h => nxt rec d L (.inl x :: st) h
noncomputable def o_long (y x : Nat) (nxt : dCode) : dCode := fun rec d L st h => nxt rec d L (.inr (.inl x) :: st) h
noncomputable def o_ldc (y x : Nat) (nxt : dCode) : dCode := fun rec d L st h => cond (Nat.blt x 4294967296) (nxt rec d L (.inl x :: st) h) none
/-- a text -/
noncomputable def o_ldt (y x : Nat) (nxt : dCode) : dCode := fun rec d L st h => cond (Nat.blt x 4294967296) none (nxt rec d L (.inr (.inr (Nat.succ (dT0 + x % 1048576))) :: st) h)
noncomputable def o_iload (y x : Nat) (nxt : dCode) : dCode := fun rec d L st h => opt (dlk L x) fun v => vI v fun n => nxt rec d L (.inl n :: st) h
noncomputable def o_lload (y x : Nat) (nxt : dCode) : dCode := fun rec d L st h => opt (dlk L x) fun v => vL v fun n => nxt rec d L (.inr (.inl n) :: st) h
noncomputable def o_aload (y x : Nat) (nxt : dCode) : dCode := fun rec d L st h => opt (dlk L x) fun v => vA v fun n => nxt rec d L (.inr (.inr (Nat.succ n)) :: st) h
noncomputable def o_istore (y x : Nat) (nxt : dCode) : dCode := fun rec d L st h => d1 st fun v r => fltc (dp1 x) L fun u => nxt rec d ((x, .inl v) :: u) r h
noncomputable def o_lstore (y x : Nat) (nxt : dCode) : dCode := fun rec d L st h => d1l st fun v r => fltc (dp2 x) L fun u => nxt rec d ((x, .inr (.inl v)) :: u) r h
noncomputable def o_astore (y x : Nat) (nxt : dCode) : dCode := fun rec d L st h => d1a st fun v r => fltc (dp1 x) L fun u => nxt rec d ((x, .inr (.inr (Nat.succ v))) :: u) r h
noncomputable def o_iinc (y x : Nat) (nxt : dCode) : dCode := fun rec d L st h => opt (dlk L (Nat.div x 4294967296)) fun v => vI v fun n => fo (dAdd n (Nat.mod x 4294967296)) fun w => fltc (dp1 (Nat.div x 4294967296)) L fun u => nxt rec d ((Nat.div x 4294967296, .inl w) :: u) st h
noncomputable def o_bin (f : Nat → Nat → Nat) (y x : Nat) (nxt : dCode) : dCode := fun rec d L st h => d2 st fun a b r => fo (f a b) fun v => nxt rec d L (.inl v :: r) h
noncomputable def o_div (f : Nat → Nat → Nat) (y x : Nat) (nxt : dCode) : dCode := fun rec d L st h => d2 st fun a b r => cond (dZ b) none (fo (f a b) fun v => nxt rec d L (.inl v :: r) h)
noncomputable def o_binl (f : Nat → Nat → Nat) (y x : Nat) (nxt : dCode) : dCode := fun rec d L st h => d2l st fun a b r => fo (f a b) fun v => nxt rec d L (.inr (.inl v) :: r) h
noncomputable def o_ldv (y x : Nat) (nxt : dCode) : dCode := fun rec d L st h => d2l st fun a b r => cond (dLZ b) none (fo (dLDiv a b) fun v => nxt rec d L (.inr (.inl v) :: r) h)
noncomputable def o_shl (f : Nat → Nat → Nat) (y x : Nat) (nxt : dCode) : dCode := fun rec d L st h => dil st fun a b r => fo (f a b) fun v => nxt rec d L (.inr (.inl v) :: r) h
noncomputable def o_lcmp (y x : Nat) (nxt : dCode) : dCode := fun rec d L st h => d2l st fun a b r => fo (dCmp a b) fun v => nxt rec d L (.inl v :: r) h
noncomputable def o_un (f : Nat → Nat) (y x : Nat) (nxt : dCode) : dCode := fun rec d L st h => d1 st fun a r => fo (f a) fun v => nxt rec d L (.inl v :: r) h
noncomputable def o_i2l (y x : Nat) (nxt : dCode) : dCode := fun rec d L st h => d1 st fun a r => fo (dI2l a) fun v => nxt rec d L (.inr (.inl v) :: r) h
noncomputable def o_l2i (y x : Nat) (nxt : dCode) : dCode := fun rec d L st h => d1l st fun a r => fo (dL2i a) fun v => nxt rec d L (.inl v :: r) h
noncomputable def o_if (c : ClassFile.Cond) (y x : Nat) (nxt : dCode) : dCode := fun rec d L st h => d1 st fun a r => cond (dcd c a 0) (rec d y x L r h) (nxt rec d L r h)
noncomputable def o_icmp (c : ClassFile.Cond) (y x : Nat) (nxt : dCode) : dCode := fun rec d L st h => d2 st fun a b r => cond (dcd c a b) (rec d y x L r h) (nxt rec d L r h)
noncomputable def o_goto (y x : Nat) (nxt : dCode) : dCode := fun rec d L st h => rec d y x L st h
noncomputable def o_tsw (y x : Nat) (nxt : dCode) : dCode := fun rec d L st h => d1 st fun a r => fo (dSub a (Nat.mod x 4294967296)) fun j => fo (Nat.shiftRight x 32) fun w => cond (Nat.blt j (wq 16 w 0)) (fo (wq 16 w (Nat.succ (Nat.succ j))) fun t => rec d y t L r h) (fo (wq 16 w 1) fun t => rec d y t L r h)
/-- the target of a value among pairs, from the j-th on -/
noncomputable def dlsw (w a t n : Nat) : Nat → Nat := Nat.rec (motive := fun _ => Nat → Nat) (fun _ => t) (fun _ ih j => cond (Nat.beq (wq 48 w (Nat.mul 2 j)) a) (wq 48 w (Nat.succ (Nat.mul 2 j))) (ih (Nat.succ j))) n
noncomputable def o_lsw (y x : Nat) (nxt : dCode) : dCode := fun rec d L st h => d1 st fun a r => fo (Nat.mod a 4294967296) fun a => fo (Nat.shiftRight x 32) fun w => fo (dlsw w a (wq 16 x 1) (wq 16 x 0) 0) fun t => rec d y t L r h
noncomputable def o_dup (y x : Nat) (nxt : dCode) : dCode := fun rec d L st h => pop st fun v r => cond (disl v) none (nxt rec d L (v :: v :: r) h)
noncomputable def o_pop (y x : Nat) (nxt : dCode) : dCode := fun rec d L st h => pop st fun v r => cond (disl v) none (nxt rec d L r h)
noncomputable def o_dup2 (y x : Nat) (nxt : dCode) : dCode := fun rec d L st h => pop st fun v r => cond (disl v) (nxt rec d L (v :: v :: r) h) (pop r fun w r2 => cond (disl w) none (nxt rec d L (v :: w :: v :: w :: r2) h))
noncomputable def o_getfield (y x : Nat) (nxt : dCode) : dCode := fun rec d L st h => d1a st fun a r => cel (hat h a) fun kd n ct => cond (Nat.beq kd (Nat.add (Nat.div x 1024) 4)) (fo (wd 64 ct (Nat.mod (Nat.div x 4) 256)) fun w => nxt rec d L (fv (Nat.mod x 4) w :: r) h) none
noncomputable def o_putfield (y x : Nat) (nxt : dCode) : dCode := fun rec d L st h => pop st fun v st1 => d1a st1 fun a r => cel (hat h a) fun kd n ct => cond (Nat.beq kd (Nat.add (Nat.div x 1024) 4)) (fe (Nat.mod x 4) v fun w => fo (wst 64 ct (Nat.mod (Nat.div x 4) 256) w) fun c' => hset h a (kd, n, c') (fun h' => nxt rec d L r h') none) none
noncomputable def o_new (y x : Nat) (nxt : dCode) : dCode := fun rec d L st h => trip h fun n s cs => cond (Nat.blt n 1073741824) (fo (Nat.add (Nat.div x 256) 4) fun kd => hpush (n, s, cs) (kd, Nat.mod x 256, 0) (Nat.mod x 256) (fun h' => nxt rec d L (.inr (.inr (Nat.succ n)) :: st) h') none) none
noncomputable def o_newarray (y x : Nat) (nxt : dCode) : dCode := fun rec d L st h => d1 st fun a r => trip h fun n s cs => cond (Nat.blt n 1073741824) (fo (Nat.mod a 4294967296) fun k => cond (Nat.ble k 67108864) (hpush (n, s, cs) (x, k, 0) k (fun h' => nxt rec d L (.inr (.inr (Nat.succ n)) :: r) h') none) none) none
noncomputable def o_alen (y x : Nat) (nxt : dCode) : dCode := fun rec d L st h => d1a st fun a r => cel (hat h a) fun kd n _ => cond (Nat.blt kd 4) (nxt rec d L (.inl n :: r) h) none
noncomputable def o_iaload (y x : Nat) (nxt : dCode) : dCode := fun rec d L st h => dia st fun a i r => cel (hat h a) fun kd n ct => cond (Nat.beq kd 0) (din i n (fo (wd 32 ct i) fun w => nxt rec d L (.inl w :: r) h)) none
noncomputable def o_laload (y x : Nat) (nxt : dCode) : dCode := fun rec d L st h => dia st fun a i r => cel (hat h a) fun kd n ct => cond (Nat.beq kd 1) (din i n (fo (wd 64 ct i) fun w => nxt rec d L (.inr (.inl w) :: r) h)) none
noncomputable def o_baload (y x : Nat) (nxt : dCode) : dCode := fun rec d L st h => dia st fun a i r => cel (hat h a) fun kd n ct => cond (Nat.beq kd 2) (din i n (fo (dI2b (wd 8 ct i)) fun w => nxt rec d L (.inl w :: r) h)) (cond (Nat.beq kd 3) (din i n (fo (wd 8 ct i) fun w => nxt rec d L (.inl w :: r) h)) none)
noncomputable def o_iastore (y x : Nat) (nxt : dCode) : dCode := fun rec d L st h => diia st fun a i v r => cel (hat h a) fun kd n ct => cond (Nat.beq kd 0) (din i n (fo (wst 32 ct i (Nat.mod v 4294967296)) fun c' => hset h a (0, n, c') (fun h' => nxt rec d L r h') none)) none
noncomputable def o_lastore (y x : Nat) (nxt : dCode) : dCode := fun rec d L st h => dlia st fun a i v r => cel (hat h a) fun kd n ct => cond (Nat.beq kd 1) (din i n (fo (wst 64 ct i (Nat.mod v 18446744073709551616)) fun c' => hset h a (1, n, c') (fun h' => nxt rec d L r h') none)) none
noncomputable def o_bastore (y x : Nat) (nxt : dCode) : dCode := fun rec d L st h => diia st fun a i v r => cel (hat h a) fun kd n ct => cond (Nat.beq kd 2) (din i n (fo (wst 8 ct i (Nat.mod v 256)) fun c' => hset h a (2, n, c') (fun h' => nxt rec d L r h') none)) (cond (Nat.beq kd 3) (din i n (fo (wst 8 ct i (Nat.mod v 2)) fun c' => hset h a (3, n, c') (fun h' => nxt rec d L r h') none)) none)
noncomputable def o_static (y x : Nat) (nxt : dCode) : dCode := fun rec d L st h => dpop (Nat.mod (Nat.div x 16) 16) st [] fun as r => cond (Nat.ble (dcat r) 8) (dcall rec d x as h fun v h' => cond (dthr v) none (dgo nxt rec d L r v h')) none
noncomputable def o_virtual (y x : Nat) (nxt : dCode) : dCode := fun rec d L st h => dpop (Nat.mod (Nat.div x 16) 16) st [] fun as r1 => d1a r1 fun a r => cel (hat h a) fun kd _ _ => cond (Nat.beq kd (Nat.add (Nat.mod x 16) 4)) (cond (Nat.ble (dcat r) 8) (dcall rec d x (.inr (.inr (Nat.succ a)) :: as) h fun v h' => cond (dthr v) (some (v, h')) (dgo nxt rec d L r v h')) none) none
/-- a call where a handler stands: x has the place behind the handler's store, and where it stores -/
noncomputable def o_vtry (y x : Nat) (nxt : dCode) : dCode := fun rec d L st h => dpop (Nat.mod (Nat.div x 16) 16) st [] fun as r1 => d1a r1 fun a r => cel (hat h a) fun kd _ _ => cond (Nat.beq kd (Nat.add (Nat.mod x 16) 4)) (cond (Nat.ble (dcat r) 8) (dcall rec d (Nat.mod x 1099511627776) (.inr (.inr (Nat.succ a)) :: as) h fun v h' => cond (dthr v) (fltc (dp1 (Nat.mod (Nat.div x 2199023255552) 64)) L fun u => rec d y (Nat.div x 140737488355328) u [] h') (dgo nxt rec d L r v h')) none) none
/-- a throw of an exception that is kept -/
noncomputable def o_athrow (y x : Nat) (nxt : dCode) : dCode := fun rec d L st h => d1a st fun a r => cel (hat h a) fun kd _ _ => cond (Nat.beq kd 18) (some (some (.inr (.inr 1)), h)) none
/-- an exception with a text: new, dup, ldc, <init>, and on behind these -/
noncomputable def o_xnew (y x : Nat) (nxt : dCode) : dCode := fun rec d L st h => trip h fun n s cs => cond (Nat.blt n 1073741824) (cond (Nat.ble 10 d) (cond (Nat.ble (dcat st) 8) (hpush (n, s, cs) (18, 6, 0) 6 (fun h' => rec d y (Nat.mod x 1099511627776) L (.inr (.inr (Nat.succ n)) :: st) h') none) none) none) none
noncomputable def o_special (y x : Nat) (nxt : dCode) : dCode := fun rec d L st h => dpop (Nat.mod (Nat.div x 16) 16) st [] fun as r1 => d1a r1 fun a r => cond (Nat.ble (dcat r) 8) (dcall rec d x (.inr (.inr (Nat.succ a)) :: as) h fun v h' => cond (dthr v) none (dgo nxt rec d L r v h')) none
noncomputable def o_objinit (y x : Nat) (nxt : dCode) : dCode := fun rec d L st h => Nat.rec (motive := fun _ => dR) none (fun _ _ => d1a st fun _ r => cond (Nat.ble (dcat r) 8) (nxt rec d L r h) none) d
noncomputable def o_return (y x : Nat) (nxt : dCode) : dCode := fun rec d L st h => emp st (some (none, h))
noncomputable def o_ireturn (y x : Nat) (nxt : dCode) : dCode := fun rec d L st h => d1 st fun v r => emp r (cond (Nat.beq x 1) (some (some (.inl v), h)) (cond (Nat.ble (Nat.mod v 4294967296) 1) (some (some (.inl v), h)) none))
noncomputable def o_lreturn (y x : Nat) (nxt : dCode) : dCode := fun rec d L st h => d1l st fun v r => emp r (some (some (.inr (.inl v)), h))
noncomputable def o_strlen (y x : Nat) (nxt : dCode) : dCode := fun rec d L st h => d1a st fun a r => dstr a fun n _ => cond (Nat.ble 4 d) (cond (Nat.ble (dcat r) 8) (nxt rec d L (.inl n :: r) h) none) none
noncomputable def o_charAt (y x : Nat) (nxt : dCode) : dCode := fun rec d L st h => dia st fun a i r => dstr a fun n ct => cond (Nat.blt i n) (cond (Nat.ble 4 d) (cond (Nat.ble (dcat r) 8) (fo (wd 8 ct i) fun w => nxt rec d L (.inl w :: r) h) none) none) none
/-- the place of the first byte t, from i on, n places -/
noncomputable def dix9 (ct t n : Nat) : Nat → Nat := Nat.rec (motive := fun _ => Nat → Nat) (fun _ => 4294967295) (fun _ ih i => cond (Nat.beq (wd 8 ct i) t) i (ih (Nat.succ i))) n
noncomputable def o_indexOf (y x : Nat) (nxt : dCode) : dCode := fun rec d L st h => dia st fun a i r => dstr a fun n ct => cond (Nat.ble 5 d) (cond (Nat.ble (dcat r) 8) (fo (cond (Nat.blt i 256) (dix9 ct (dI2b i) n 0) 4294967295) fun w => nxt rec d L (.inl w :: r) h) none) none
noncomputable def o_mm (f : Nat → Nat → Nat) (y x : Nat) (nxt : dCode) : dCode := fun rec d L st h => d2 st fun a b r => cond (Nat.ble 1 d) (cond (Nat.ble (dcat r) 8) (fo (f a b) fun v => nxt rec d L (.inl v :: r) h) none) none
noncomputable def o_mml (f : Nat → Nat → Nat) (y x : Nat) (nxt : dCode) : dCode := fun rec d L st h => d2l st fun a b r => cond (Nat.ble 1 d) (cond (Nat.ble (dcat r) 8) (fo (f a b) fun v => nxt rec d L (.inr (.inl v) :: r) h) none) none
noncomputable def o_acopy (y x : Nat) (nxt : dCode) : dCode := fun rec d L st h => pop st fun v r0 => vI v fun xn => dia r0 fun a2 xd r1 => dia r1 fun a1 xs r => cel (hat h a1) fun kd1 n1 ct1 => cel (hat h a2) fun kd2 n2 ct2 => cond (Nat.beq kd1 2 && (Nat.beq kd2 2 && (Nat.blt (Nat.mod xn 4294967296) 2147483648 && (Nat.blt xs 2147483648 && (Nat.blt xd 2147483648 && (Nat.ble (Nat.add xs (Nat.mod xn 4294967296)) n1 && (Nat.ble (Nat.add xd (Nat.mod xn 4294967296)) n2 && (Nat.ble 1 d && Nat.ble (dcat r) 8)))))))) (fo (dcp ct1 ct2 xs xd (Nat.mod xn 4294967296)) fun c' => hset h a2 (2, n2, c') (fun h' => nxt rec d L r h') none) none
noncomputable def o_bitc (y x : Nat) (nxt : dCode) : dCode := fun rec d L st h => pop st fun v r => vI v fun n => cond (Nat.ble 1 d && Nat.ble (dcat r) 8) (fo (dBit n) fun w => nxt rec d L (.inl w :: r) h) none
noncomputable def dopM (x : Nat) : Option dOp := cond (Nat.beq x 1099511627777) (some (o_mm dMax)) (cond (Nat.beq x 1099511627778) (some (o_mm dMin)) (cond (Nat.beq x 1099511627779) (some (o_mml dLMax)) (cond (Nat.beq x 1099511627780) (some (o_mml dLMin)) (cond (Nat.beq x 1099511627782) (some o_acopy) (cond (Nat.beq x 1099511627781) (some o_bitc) none)))))
/-- what an instruction does; none: no instruction of this program of words -/
noncomputable def dop (ins : Instr) (x : Nat) : Option dOp := match ins with
  | .iconst _ => some o_int
  | .bipush _ => some o_int
  | .sipush _ => some o_int
  | .lconst _ => some o_long
  | .ldc _ => cond (Nat.blt x 4294967296) (some o_ldc) (some o_ldt)
  | .ldc_w _ => cond (Nat.blt x 4294967296) (some o_ldc) (some o_ldt)
  | .ldc2_w _ => some o_long
  | .iload_n _ => some o_iload
  | .iload _ => some o_iload
  | .lload_n _ => some o_lload
  | .lload _ => some o_lload
  | .aload_n _ => some o_aload
  | .aload _ => some o_aload
  | .istore_n _ => some o_istore
  | .istore _ => some o_istore
  | .lstore_n _ => some o_lstore
  | .lstore _ => some o_lstore
  | .astore_n _ => some o_astore
  | .astore _ => some o_astore
  | .iinc _ _ => some o_iinc
  | .iadd => some (o_bin dAdd)
  | .isub => some (o_bin dSub)
  | .imul => some (o_bin dMul)
  | .iand => some (o_bin dAnd)
  | .ior => some (o_bin dOr)
  | .ixor => some (o_bin dXor)
  | .ishl => some (o_bin dShl)
  | .ishr => some (o_bin dShr)
  | .idiv => some (o_div dDiv)
  | .irem => some (o_div dRem)
  | .ldiv => some o_ldv
  | .lookupswitch _ _ => some o_lsw
  | .ineg => some (o_un dNeg)
  | .i2b => some (o_un dI2b)
  | .i2l => some o_i2l
  | .l2i => some o_l2i
  | .ladd => some (o_binl dLAdd)
  | .lsub => some (o_binl dLSub)
  | .lmul => some (o_binl dLMul)
  | .land => some (o_binl dLAnd)
  | .lor => some (o_binl dLOr)
  | .lxor => some (o_binl dLXor)
  | .lcmp => some o_lcmp
  | .lshl => some (o_shl dLShl)
  | .lushr => some (o_shl dLUshr)
  | .ifCond c _ => some (o_if c)
  | .if_icmp c _ => some (o_icmp c)
  | .goto _ => some o_goto
  | .tableswitch _ _ _ _ => some o_tsw
  | .dup => some o_dup
  | .pop => some o_pop
  | .dup2 => some o_dup2
  | .getfield _ => some o_getfield
  | .putfield _ => some o_putfield
  | .new _ => cond (Nat.beq x 0) none (cond (Nat.ble 1099511627776 x) (some o_xnew) (some o_new))
  | .athrow => some o_athrow
  | .newarray _ => some o_newarray
  | .arraylength => some o_alen
  | .iaload => some o_iaload
  | .laload => some o_laload
  | .baload => some o_baload
  | .iastore => some o_iastore
  | .lastore => some o_lastore
  | .bastore => some o_bastore
  | .invokestatic _ => cond (Nat.ble 1099511627776 x) (dopM x) (some o_static)
  | .invokevirtual _ => cond (Nat.ble 2199023255552 x) (some o_vtry) (cond (Nat.ble 1099511627776 x) (cond (Nat.beq x 1099511627777) (some o_strlen) (cond (Nat.beq x 1099511627778) (some o_charAt) (cond (Nat.beq x 1099511627779) (some o_indexOf) none))) (some o_virtual))
  | .invokespecial _ => cond (Nat.ble 1099511627776 x) (cond (Nat.beq x 1099511627776) (some o_objinit) none) (some o_special)
  | .return_ => some o_return
  | .ireturn => some o_ireturn
  | .lreturn => some o_lreturn
  | _ => none
/-- a block: what it does, and on to the block behind it -/
noncomputable def djmp (y pc : Nat) : dCode := fun rec d L st h => rec d y pc L st h
noncomputable def dnone : dCode := fun _ _ _ _ _ => none
noncomputable def dcomp (y : Nat) (is : List dI) : Nat → dCode := List.rec (motive := fun _ => Nat → dCode) (fun pc => djmp y pc) (fun i _ ih pc => match dop i.1 i.2.2 with
  | none => dnone
  | some o => o y i.2.2 (ih (pc + i.2.1))) is
noncomputable def drun (P : Nat → Nat → Option dCode) (f : Nat) : dRec := Nat.rec (motive := fun _ => dRec) (fun _ _ _ _ _ _ => none) (fun _ ih d y pc L st h => opt (P y pc) fun c => c ih d L st h) f

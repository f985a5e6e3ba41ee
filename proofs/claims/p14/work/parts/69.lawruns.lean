/-! ===== the law's loops, step by step: runs ===== -/
def BL : List (Nat × Nat) := [(0, 0), (1, 42), (0, 20), (0, 19), (0, 60), (0, 4294967295), (0, 4294967295), (0, 4294967295), (0, 4294967295), (0, 4294967295), (0, 4294967295), (0, 4294967295)]
def kdL : List (Nat × Nat) := [(0, 16)]
def opL (a : Nat) : Bool := Nat.blt a 127
/-- the law stops before calls, and at the heads of its loops -/
def stL (heads : List Nat) (y pc : Nat) (_ : sL) (_ : sH) (_ : List sFr) : Bool := (Nat.beq y 274 && heads.contains pc) || (Nat.beq pc 0 && Nat.ble 255 y)
noncomputable def runH (heads : List Nat) (pc : Nat) (L : sL) (S : sH) : sR := sexL BL fx0 (fun a => dalk kdL a) pghm (stL heads) orc0 2000 20 100000 10000 61 274 pc (pc, 0) ((pghm 274 pc).getD []) L [] S [] []
noncomputable def goH (heads : List Nat) (S : sH) (K : List sFr) (v : Option sV) : sR := sretL pghm (sexL BL fx0 (fun a => dalk kdL a) pghm (stL heads) orc0 2000 20 100000) S K [] v
def restL (n : sN) : sL := [(1, .inr (.inr 1)), (2, .inr (.inr 127)), (3, .inl n), (4, .inr (.inr 128)), (5, .inr (.inr 129))]
/-- the law stands at a head with these locals -/
def chkH (pc : Nat) (Lx : sL) (x : sLf) : Bool := match x with
  | .inl (f, d, y, pc2, L, st, _, K) => Nat.ble 5000 f && (Nat.beq d 61 && (Nat.beq y 274 && (Nat.beq pc2 pc && (st.isEmpty && (K.isEmpty && @decide (L = Lx) (dqL _ _))))))
  | .inr _ => false
/-- kind and value of one cell -/
def mS (k v : sN) : sH := [(127, 0, 21, .inr [((0, [3]), k)]), (128, 0, 21, .inr [((0, [3]), v)])]
def lwS0 : sH := [(127, 0, 21, .inr []), (128, 0, 21, .inr [])]
def cN' (n : Nat) : sN := (n, [])
/-- how many arrays there are -/
def l2L (k inn n : sN) : sL := (7, .inl k) :: (6, .inl inn) :: restL n
noncomputable def itC (k : Nat) : Bool := chn 5000 (mS (k, []) (0, [5])) (chkH 237 (l2L (1, [3]) (b2n (Nat.beq k 4), [4]) (1, [2, 3]))) (goH [237]) [] (runH [237] 237 (l2L (0, [3]) (0, [4]) (1, [2, 3])) (mS (k, []) (0, [5])))
set_option maxRecDepth 1000000 in
theorem itC_ok : (itC 0 && (itC 1 && (itC 2 && (itC 3 && itC 4)))) = true := by decide +kernel
/-- each cell by its rules -/
def jX : sL := [(16, .inl (0, [5])), (15, .inl (0, [6])), (14, .inl (0, [7])), (13, .inl (0, [8])), (12, .inl (0, [9])), (11, .inl (0, [10]))]
def jN (k v : Nat) : sL := [(16, .inl (b2n (someB k v), [])), (15, .inl (b2n (inB k v), [])), (14, .inl (b2n (yesB k v), [])), (13, .inl (b2n (fewB k v), [])), (12, .inl (b2n (lowB k v), [])), (11, .inl (cond (Nat.beq k 1) (dSub 4294967295 v) v, []))]
def lM (X : sL) (k a e n : sN) : sL := (10, .inl k) :: (9, .inl a) :: (8, .inl e) :: (7, .inl (1, [])) :: (X ++ ((6, .inl (0, [4])) :: restL n))
def jL (r : Nat) : sL := [(0, .inr (.inr 1)), (1, .inl (r, [])), (2, .inl (0, [1]))]
def jcL (k v : Nat) : List tC := [(60, 261, jL 0, some (.inl (ansJ 0 k v, []))), (60, 261, jL 1, some (.inl (ansJ 1 k v, []))), (60, 261, jL 2, some (.inl (ansJ 2 k v, []))), (60, 261, jL 3, some (.inl (ansJ 3 k v, []))), (60, 261, jL 4, some (.inl (ansJ 4 k v, []))), (60, 261, jL 5, some (.inl (ansJ 5 k v, []))), (60, 260, [(0, .inr (.inr 1)), (1, .inl (0, [1])), (2, .inl (5, []))], some (.inr (.inl (0, []))))]
noncomputable def itM (X : sL) (e k v : Nat) : Bool := chn 5000 (mS (k, []) (v, [])) (chkH 491 (lM (jN k v) (1, [3]) (cCn k, [1]) (Nat.mul e (b2n (someB k v)), []) (1, [2, 3]))) (goH [491]) (jcL k v) (runH [491] 491 (lM X (0, [3]) (0, [1]) (e, []) (1, [2, 3])) (mS (k, []) (v, [])))
noncomputable def itMs (k v : Nat) : Bool := itM [] 0 k v && (itM [] 1 k v && (itM jX 0 k v && itM jX 1 k v))
set_option maxRecDepth 1000000 in
theorem itM_0 : ((List.range 16).all fun v => itMs 0 v) = true := by decide +kernel
set_option maxRecDepth 1000000 in
theorem itM_1 : ((List.range 16).all fun v => itMs 1 v) = true := by decide +kernel
set_option maxRecDepth 1000000 in
theorem itM_2 : ((List.range 16).all fun v => itMs 2 v) = true := by decide +kernel
set_option maxRecDepth 1000000 in
theorem itM_3 : ((List.range 16).all fun v => itMs 3 v) = true := by decide +kernel
set_option maxRecDepth 1000000 in
theorem itM_4 : ((List.range 16).all fun v => itMs 4 v) = true := by decide +kernel
theorem itM_ok {k v : Nat} (hk : k < 5) (hv : v < 16) : itMs k v = true := by
  have h : ((List.range 16).all fun v => itMs k v) = true := by
    match k, hk with
    | 0, _ => exact itM_0
    | 1, _ => exact itM_1
    | 2, _ => exact itM_2
    | 3, _ => exact itM_3
    | 4, _ => exact itM_4
  exact List.all_eq_true.mp h v (List.mem_range.mpr hv)

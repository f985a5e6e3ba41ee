/-! ===== the words of the tables that the program's links stand on; what is checked of each instruction ===== -/
/-- the handlers of a method -/
def dHH (q : dMI) : List (Nat × Nat × Nat × Nat) := match dHT.find? (fun e => decide (e.1 = q.2.1)) with
  | some e => e.2
  | none => []
def dWCh (q : dMI) (hh : List (Nat × Nat × Nat × Nat)) : Cond := match hh with
  | [] => .code q.2.1 q.2.2.1 q.2.2.2.1 q.2.2.2.2
  | e :: t => .codeWith q.2.1 q.2.2.1 q.2.2.2.1 q.2.2.2.2 (e :: t)
def dWC (q : dMI) : Cond := dWCh q (dHH q)
def xE : String := "java/lang/IllegalStateException"
def xU : List String := ["java/lang/RuntimeException", "java/lang/Exception"]
/-- what the making, the throwing and the catching of an exception need -/
def dXA : List Cond := [.castable xE xE, .classLink (cR 13) 13 xE] ++ (dXN.flatMap fun e => Cond.classLink (cR e.1) e.2.1 xE :: Cond.initialized xE :: vx_atS (cR e.1) e.2.2.2.2 xE xU)
def dXW : List Cond := dXA.filter goodWord
def dXB : List Cond := dXA.filter fun w => !goodWord w
def dXt (w : Cond) : Bool := match w with
  | .castable _ _ => true
  | .declares _ => true
  | _ => false
theorem dXB_ok : dXB.all dXt = true := by decide +kernel
theorem dXA_ot : dXA.all (fun w => vx_ot w || dXt w) = true := by decide +kernel
def dWF (o : Nat) (e : Nat × Nat × Nat) : Cond := .fieldLink (cR o) e.1 (cT e.2.1 e.2.2).1 (cT e.2.1 e.2.2).2.1 (cT e.2.1 e.2.2).2.2.1
def dWM (o : Nat) (e : Nat × Nat × Nat) : List Cond := match dMis[e.2.1]? with
  | none => []
  | some q => match e.2.2 with
    | 0 => [.methodLink (cR o) e.1 q.2.1, .static q.2.1, .initialized q.2.1.cls]
    | 1 => [.methodLink (cR o) e.1 q.2.1, .instanceMethod q.2.1, .selects q.2.1.cls q.2.1 q.2.1, .initialized q.2.1.cls]
    | 2 => [.methodLink (cR o) e.1 q.2.1, .instanceMethod q.2.1, .initialized q.2.1.cls]
    | _ => [.static q.2.1, .initialized q.2.1.cls]
def dWL (o : Nat) : List Cond := (dCT o).map (fun e => .classLink (cR o) e.1 (cR e.2)) ++ ((dKT o).map (fun e => .constant (cR o) e.1 (Int32.ofNat e.2)) ++ (dJT o).map (fun e => .constantLong (cR o) e.1 (Int64.ofNat e.2)))
def dWo (o : Nat) : List Cond := u_ws (cR o) (cT o) (cN o) ++ ([.initialized (cR o), .instantiable (cR o) (cN o)] ++ ((dFT o).map (dWF o) ++ ((dMT o).flatMap (dWM o) ++ ((dOT o).map (fun i => .methodLink (cR o) i objectInit) ++ dWL o))))
def dWS (e : Nat × Nat × Nat) : Cond := .methodLink (cR e.1) e.2.1 (match e.2.2 with | 1 => yJ0_length_8abf5 | 2 => yJ0_charAt_5068e | _ => yJ0_indexOf_0f7a4)
def dWMM (e : Nat × Nat × Nat) : Cond := .methodLink (cR e.1) e.2.1 (match e.2.2 with | 1 => Lib.Math.max.name | 2 => Lib.Math.min.name | 3 => Lib.MathLoose.max_long.x | _ => Lib.MathLoose.min_long.x)
def dTM : List Cond := [.static Lib.MathLoose.max_long.x, .code Lib.MathLoose.max_long.x Lib.MathLoose.max_long.code 4 (some .long), .static Lib.MathLoose.min_long.x, .code Lib.MathLoose.min_long.x Lib.MathLoose.min_long.code 4 (some .long)]
/-- methods that no handler stands in -/
def dMs : List dMI := (dMis.zipIdx.filter fun q => !(dWith.contains q.2)).map (·.1)
def dWA (e : Nat × Nat) : Cond := .methodLink (cR e.1) e.2 arraycopyName
def dWB (e : Nat × Nat) : List Cond := .methodLink (cR e.1) e.2 dBitY :: dWB0
def dTB : List Cond := [.instanceMethod objectInit, .code objectInit ⟨#[0xb1]⟩ 1 none, .arrayClass .int, .arrayClass .long, .arrayClass .byte, .arrayClass .boolean] ++ ((List.range 14).flatMap dWo ++ (dMis.map dWC ++ (dTI ++ (dSM.map dWS ++ (dMM.map dWMM ++ (dTM ++ (dXW ++ (dWC9 ++ (dAC.map dWA ++ dBC.flatMap dWB)))))))))
theorem dMs_mem {y : Nat} {t : dMI} (h : dMis[y]? = some t) (hn : dWith.contains y = false) : t ∈ dMs :=
  List.mem_map.mpr ⟨(t, y), List.mem_filter.mpr ⟨List.mem_zipIdx_iff_getElem?.mpr h, by show (!(dWith.contains y)) = true; rw [hn]; rfl⟩, rfl⟩
theorem dMs_sub {t : dMI} (h : t ∈ dMs) : t ∈ dMis := by
  obtain ⟨q, hq, rfl⟩ := List.mem_map.mp h
  obtain ⟨y, n⟩ := q
  exact List.mem_of_getElem? (List.mem_zipIdx_iff_getElem?.mp (List.mem_filter.mp hq).1)
set_option maxRecDepth 100000 in
theorem dMs_plain : dMs.all (fun t => (dHH t).isEmpty) = true := by decide +kernel
theorem dMs_p {t : dMI} (h : t ∈ dMs) : dHH t = [] := List.isEmpty_iff.mp (List.all_eq_true.mp dMs_plain t h)
theorem dMs_c {t : dMI} (h : t ∈ dMs) : dWC t = .code t.2.1 t.2.2.1 t.2.2.2.1 t.2.2.2.2 := by
  unfold dWC
  rw [dMs_p h]
  rfl
set_option maxRecDepth 100000 in
theorem dTB_good : dTB.all goodWord = true := by decide +kernel
abbrev dTs (q : dMI) : List Cond := dWC q :: dTB
theorem dTB_o {o : Nat} (ho : o < 14) {w : Cond} (h : w ∈ dWo o) : w ∈ dTB :=
  List.mem_append.mpr (Or.inr (List.mem_append.mpr (Or.inl (List.mem_flatMap.mpr ⟨o, List.mem_range.mpr ho, h⟩))))
theorem dTB_f {o : Nat} (ho : o < 14) {e : Nat × Nat × Nat} (h : e ∈ dFT o) : dWF o e ∈ dTB := dTB_o ho (by
  unfold dWo; simp only [List.mem_append]; exact Or.inr (Or.inr (Or.inl (List.mem_map.mpr ⟨e, h, rfl⟩))))
theorem dTB_m {o : Nat} (ho : o < 14) {e : Nat × Nat × Nat} (h : e ∈ dMT o) {w : Cond} (hw : w ∈ dWM o e) : w ∈ dTB := dTB_o ho (by
  unfold dWo; simp only [List.mem_append]; exact Or.inr (Or.inr (Or.inr (Or.inl (List.mem_flatMap.mpr ⟨e, h, hw⟩)))))
theorem dTB_i {o i : Nat} (ho : o < 14) (h : i ∈ dOT o) : Cond.methodLink (cR o) i objectInit ∈ dTB := dTB_o ho (by
  unfold dWo; simp only [List.mem_append]; exact Or.inr (Or.inr (Or.inr (Or.inr (Or.inl (List.mem_map.mpr ⟨i, h, rfl⟩))))))
theorem dTB_l {o : Nat} (ho : o < 14) {w : Cond} (h : w ∈ dWL o) : w ∈ dTB := dTB_o ho (by
  unfold dWo; simp only [List.mem_append]; exact Or.inr (Or.inr (Or.inr (Or.inr (Or.inr h)))))
theorem dTB_u {o : Nat} (ho : o < 14) {w : Cond} (h : w ∈ u_ws (cR o) (cT o) (cN o)) : w ∈ dTB := dTB_o ho (by
  unfold dWo; simp only [List.mem_append]; exact Or.inl h)
theorem dTB_n {o : Nat} (ho : o < 14) {w : Cond} (h : w ∈ ([.initialized (cR o), .instantiable (cR o) (cN o)] : List Cond)) : w ∈ dTB := dTB_o ho (by
  unfold dWo; simp only [List.mem_append]; exact Or.inr (Or.inl h))
theorem dTB_c {q : dMI} (h : q ∈ dMis) : dWC q ∈ dTB := List.mem_append.mpr (Or.inr (List.mem_append.mpr (Or.inr (List.mem_append.mpr (Or.inl (List.mem_map.mpr ⟨q, h, rfl⟩))))))
theorem dTB_x {w : Cond} (h : w ∈ dTI) : w ∈ dTB := List.mem_append.mpr (Or.inr (List.mem_append.mpr (Or.inr (List.mem_append.mpr (Or.inr (List.mem_append.mpr (Or.inl h)))))))
theorem dTB_j {w : Cond} (h : w ∈ dTJ) : w ∈ dTB := dTB_x (dTI_j h)
theorem dTB_s {e : Nat × Nat × Nat} (h : e ∈ dSM) : dWS e ∈ dTB := List.mem_append.mpr (Or.inr (List.mem_append.mpr (Or.inr (List.mem_append.mpr (Or.inr (List.mem_append.mpr (Or.inr (List.mem_append.mpr (Or.inl (List.mem_map.mpr ⟨e, h, rfl⟩))))))))))
theorem dTB_mm {e : Nat × Nat × Nat} (h : e ∈ dMM) : dWMM e ∈ dTB := List.mem_append.mpr (Or.inr (List.mem_append.mpr (Or.inr (List.mem_append.mpr (Or.inr (List.mem_append.mpr (Or.inr (List.mem_append.mpr (Or.inr (List.mem_append.mpr (Or.inl (List.mem_map.mpr ⟨e, h, rfl⟩))))))))))))
theorem dTB_tm {w : Cond} (h : w ∈ dTM) : w ∈ dTB := List.mem_append.mpr (Or.inr (List.mem_append.mpr (Or.inr (List.mem_append.mpr (Or.inr (List.mem_append.mpr (Or.inr (List.mem_append.mpr (Or.inr (List.mem_append.mpr (Or.inr (List.mem_append.mpr (Or.inl h)))))))))))))
theorem dTB_xw {w : Cond} (h : w ∈ dXW) : w ∈ dTB := List.mem_append.mpr (Or.inr (List.mem_append.mpr (Or.inr (List.mem_append.mpr (Or.inr (List.mem_append.mpr (Or.inr (List.mem_append.mpr (Or.inr (List.mem_append.mpr (Or.inr (List.mem_append.mpr (Or.inr (List.mem_append.mpr (Or.inl h)))))))))))))))
theorem dTB_xc {w : Cond} (h : w ∈ dWC9) : w ∈ dTB := List.mem_append.mpr (Or.inr (List.mem_append.mpr (Or.inr (List.mem_append.mpr (Or.inr (List.mem_append.mpr (Or.inr (List.mem_append.mpr (Or.inr (List.mem_append.mpr (Or.inr (List.mem_append.mpr (Or.inr (List.mem_append.mpr (Or.inr (List.mem_append.mpr (Or.inl h)))))))))))))))))
theorem dTB_ac {o i : Nat} (h : (o, i) ∈ dAC) : Cond.methodLink (cR o) i arraycopyName ∈ dTB := List.mem_append.mpr (Or.inr (List.mem_append.mpr (Or.inr (List.mem_append.mpr (Or.inr (List.mem_append.mpr (Or.inr (List.mem_append.mpr (Or.inr (List.mem_append.mpr (Or.inr (List.mem_append.mpr (Or.inr (List.mem_append.mpr (Or.inr (List.mem_append.mpr (Or.inr (List.mem_append.mpr (Or.inl (List.mem_map.mpr ⟨(o, i), h, rfl⟩))))))))))))))))))))
theorem dTB_bc {o i : Nat} (h : (o, i) ∈ dBC) : Cond.methodLink (cR o) i dBitY ∈ dTB := List.mem_append.mpr (Or.inr (List.mem_append.mpr (Or.inr (List.mem_append.mpr (Or.inr (List.mem_append.mpr (Or.inr (List.mem_append.mpr (Or.inr (List.mem_append.mpr (Or.inr (List.mem_append.mpr (Or.inr (List.mem_append.mpr (Or.inr (List.mem_append.mpr (Or.inr (List.mem_append.mpr (Or.inr (List.mem_flatMap.mpr ⟨(o, i), h, List.mem_cons_self⟩))))))))))))))))))))
theorem dTB_b0 {o i : Nat} (h : (o, i) ∈ dBC) {w : Cond} (hw : w ∈ dWB0) : w ∈ dTB := List.mem_append.mpr (Or.inr (List.mem_append.mpr (Or.inr (List.mem_append.mpr (Or.inr (List.mem_append.mpr (Or.inr (List.mem_append.mpr (Or.inr (List.mem_append.mpr (Or.inr (List.mem_append.mpr (Or.inr (List.mem_append.mpr (Or.inr (List.mem_append.mpr (Or.inr (List.mem_append.mpr (Or.inr (List.mem_flatMap.mpr ⟨(o, i), h, List.mem_cons_of_mem _ hw⟩))))))))))))))))))))
theorem dTB_gd {w : Cond} (h : w ∈ dTB) : (w.onTables && w.keeps) = true ∨ ∃ ty, w = .arrayClass ty := good_of_word (List.all_eq_true.mp dTB_good w h)
theorem dGI {Ts ws : List Cond} (h1 : ∀ w ∈ dTB, w ∈ Ts) (h : ∀ w ∈ ws, w ∈ dTB) : GoodIn Ts ws := fun w hw => ⟨h1 w (h w hw), dTB_gd (h w hw)⟩
-- what is checked of an instruction
def dcallB (q : dMI) (i x : Nat) (ks : List Nat) : Bool := (dMT q.1).any (fun e => Nat.beq e.1 i && (Nat.beq e.2.1 (x / 16384) && ks.contains e.2.2)) && (match dMis[x / 16384]? with
  | none => false
  | some t => Nat.blt (x % 16) 14 && (!(dWith.contains (x / 16384)) && (decide (t.2.1.cls = cR (x % 16)) && (decide ((parseMethodDescriptor t.2.1.desc).map (fun d => d.parameters.length) = some (x / 16 % 16)) && Nat.beq (x / 256 % 64) t.2.2.2.1))))
/-- a call of a method with handlers -/
def dcallW (q : dMI) (i x : Nat) : Bool := (dMT q.1).any (fun e => Nat.beq e.1 i && (Nat.beq e.2.1 (x / 16384) && Nat.beq e.2.2 1)) && (match dMis[x / 16384]? with
  | none => false
  | some t => Nat.blt (x % 16) 14 && (dWith.contains (x / 16384) && (decide (t.2.1.cls = cR (x % 16)) && (decide ((parseMethodDescriptor t.2.1.desc).map (fun d => d.parameters.length) = some (x / 16 % 16)) && Nat.beq (x / 256 % 64) t.2.2.2.1))))
/-- no handler stands at a place -/
def dfree (q : dMI) (pc : Nat) : Bool := (dHH q).all fun z => !(Nat.ble z.1 pc && Nat.blt pc z.2.1)
/-- the handler that stands at a place: its store, and the place behind it -/
def dhook (q : dMI) (pc n t : Nat) : Bool := match dHH q with
  | [z] => Nat.ble z.1 pc && (Nat.blt pc z.2.1 && (decide (z.2.2.2 = 13 ∧ q.1 = 13) && (Nat.blt n q.2.2.2.1 && ((decide (decode q.2.2.1 z.2.2.1 = .ok (.astore n, 2)) && Nat.beq t (z.2.2.1 + 2)) || (if h : n < 4 then decide (decode q.2.2.1 z.2.2.1 = .ok (.astore_n ⟨n, h⟩, 1)) && Nat.beq t (z.2.2.1 + 1) else false)))))
  | _ => false
/-- new, dup, ldc, <init> of an exception -/
def dxnew (q : dMI) (pc i x : Nat) : Bool := dXN.any fun e => Nat.beq e.1 q.1 && (Nat.beq e.2.1 i && (decide (decode q.2.2.1 (pc + 3) = .ok (.dup, 1)) && (decide (decode q.2.2.1 (pc + 4) = .ok (.ldc e.2.2.1, 2)) && (decide (decode q.2.2.1 (pc + 6) = .ok (.invokespecial e.2.2.2.2, 3)) && (Nat.beq (x % 1099511627776) (pc + 9) && decide ((q.1, e.2.2.1, e.2.2.2.1) ∈ dSR))))))
def dtsB (pc x : Nat) : List Int → Nat → Bool
  | [], _ => true
  | o :: t, j => decide ((pc : Int) + o = ((wq 16 (x >>> 32) (j + 2) : Nat) : Int)) && dtsB pc x t (j + 1)
def dlsB (pc x : Nat) : List (Int × Int) → Nat → Bool
  | [], _ => true
  | a :: t, j => decide ((Int32.ofNat (wq 48 (x >>> 32) (2 * j))).toInt = a.1) && (Nat.blt (wq 48 (x >>> 32) (2 * j)) 4294967296 && (decide ((pc : Int) + a.2 = ((wq 48 (x >>> 32) (2 * j + 1) : Nat) : Int)) && dlsB pc x t (j + 1)))
def dxB (q : dMI) (pc : Nat) (ins : Instr) (len x : Nat) : Bool := match ins with
  | .iconst n => decide (Int32.ofInt n = Int32.ofNat x) && Nat.beq len 1
  | .bipush n => decide ((Int8.ofInt n).toInt32 = Int32.ofNat x) && Nat.beq len 2
  | .sipush n => decide ((Int16.ofInt n).toInt32 = Int32.ofNat x) && Nat.beq len 3
  | .lconst n => decide (Int64.ofNat (n : Nat) = Int64.ofNat x) && Nat.beq len 1
  | .ldc i => Nat.beq len 2 && ((Nat.ble 4294967296 x && decide ((q.1, i, x % 1048576) ∈ dSR)) || decide ((i, x) ∈ dKT q.1))
  | .ldc_w i => Nat.beq len 3 && ((Nat.ble 4294967296 x && decide ((q.1, i, x % 1048576) ∈ dSR)) || decide ((i, x) ∈ dKT q.1))
  | .ldc2_w i => Nat.beq len 3 && decide ((i, x) ∈ dJT q.1)
  | .iload_n n => Nat.beq len 1 && Nat.beq n.val x
  | .lload_n n => Nat.beq len 1 && Nat.beq n.val x
  | .aload_n n => Nat.beq len 1 && Nat.beq n.val x
  | .iload n => Nat.beq len 2 && Nat.beq n x
  | .lload n => Nat.beq len 2 && Nat.beq n x
  | .aload n => Nat.beq len 2 && Nat.beq n x
  | .istore_n n => Nat.beq len 1 && (Nat.beq n.val x && Nat.blt x q.2.2.2.1)
  | .astore_n n => Nat.beq len 1 && (Nat.beq n.val x && Nat.blt x q.2.2.2.1)
  | .lstore_n n => Nat.beq len 1 && (Nat.beq n.val x && Nat.blt (x + 1) q.2.2.2.1)
  | .istore n => Nat.beq len 2 && (Nat.beq n x && Nat.blt x q.2.2.2.1)
  | .astore n => Nat.beq len 2 && (Nat.beq n x && Nat.blt x q.2.2.2.1)
  | .lstore n => Nat.beq len 2 && (Nat.beq n x && Nat.blt (x + 1) q.2.2.2.1)
  | .iinc i n => Nat.beq len 3 && (Nat.beq (x / 4294967296) i && (decide (Int32.ofInt n = Int32.ofNat (x % 4294967296)) && Nat.blt i q.2.2.2.1))
  | .ifCond _ o => Nat.beq len 3 && decide ((pc : Int) + o = (x : Int))
  | .if_icmp _ o => Nat.beq len 3 && decide ((pc : Int) + o = (x : Int))
  | .goto o => Nat.beq len 3 && decide ((pc : Int) + o = (x : Int))
  | .tableswitch d lo hi os => decide ((Int32.ofNat (x % 4294967296)).toInt = lo) && (decide (-2147483648 ≤ lo ∧ lo ≤ hi ∧ hi < 2147483648) && (decide (((os.toList.length : Nat) : Int) = hi - lo + 1) && (Nat.beq (wq 16 (x >>> 32) 0) os.toList.length && (decide ((pc : Int) + d = ((wq 16 (x >>> 32) 1 : Nat) : Int)) && dtsB pc x os.toList 0))))
  | .getfield i => Nat.beq len 3 && (decide ((i, x / 1024, x / 4 % 256) ∈ dFT q.1) && (Nat.blt (x / 1024) 14 && (Nat.blt (x / 4 % 256) (cN (x / 1024)) && Nat.beq (tcode (cY (x / 1024) (x / 4 % 256))) (x % 4))))
  | .putfield i => Nat.beq len 3 && (decide ((i, x / 1024, x / 4 % 256) ∈ dFT q.1) && (Nat.blt (x / 1024) 14 && (Nat.blt (x / 4 % 256) (cN (x / 1024)) && (Nat.beq (tcode (cY (x / 1024) (x / 4 % 256))) (x % 4) && (!(cT (x / 1024) (x / 4 % 256)).2.2.2 || (decide (q.2.1.name = "<init>") && decide ((cT (x / 1024) (x / 4 % 256)).1 = cR q.1)))))))
  | .new i => Nat.beq len 3 && (Nat.beq x 0 || (Nat.ble 1099511627776 x && dxnew q pc i x) || (decide ((i, x / 256) ∈ dCT q.1) && (Nat.blt (x / 256) 14 && Nat.beq (x % 256) (cN (x / 256)))))
  | .newarray t => Nat.beq len 2 && (match t with
    | .int => Nat.beq x 0
    | .long => Nat.beq x 1
    | .byte => Nat.beq x 2
    | .boolean => Nat.beq x 3
    | _ => false)
  | .invokestatic i => Nat.beq len 3 && ((Nat.ble 1099511627776 x && ((Nat.ble 1099511627781 x && ((!(Nat.beq x 1099511627782) || decide ((q.1, i) ∈ dAC)) && (!(Nat.beq x 1099511627781) || decide ((q.1, i) ∈ dBC)))) || decide ((q.1, i, x % 1099511627776) ∈ dMM))) || (dcallB q i x [0] || (dcallB q i x [3] && decide ((q.1, i, x / 16384) ∈ dNT))))
  | .invokevirtual i => Nat.beq len 3 && ((Nat.beq x 1099511627777 && decide ((q.1, i, 1) ∈ dSM)) || ((Nat.beq x 1099511627778 && decide ((q.1, i, 2) ∈ dSM)) || ((Nat.beq x 1099511627779 && decide ((q.1, i, 3) ∈ dSM)) || ((Nat.ble 1099511627780 x && Nat.blt x 2199023255552) || (Nat.blt x 1099511627776 && dfree q pc && (dcallB q i x [1] || dcallW q i x)) || (Nat.ble 2199023255552 x && dcallB q i (x % 1099511627776) [1] && dhook q pc (x / 2199023255552 % 64) (x / 140737488355328))))))
  | .invokespecial i => Nat.beq len 3 && ((Nat.beq x 1099511627776 && decide (i ∈ dOT q.1)) || (!(Nat.beq x 1099511627776) && (Nat.ble 1099511627776 x || (dcallB q i x [2] && (match dMis[x / 16384]? with
    | none => false
    | some t => decide (t.2.1.name = "<init>") && t.2.2.2.2.isNone)))))
  | .athrow => Nat.beq len 1 && dfree q pc
  | .lookupswitch d ps => ((ps.toList.zip (ps.toList.drop 1)).all (fun (a, next) => a.1 < next.1)) && (Nat.beq (wq 16 x 0) ps.toList.length && (decide ((pc : Int) + d = ((wq 16 x 1 : Nat) : Int)) && dlsB pc x ps.toList 0))
  | .return_ => Nat.beq len 1 && q.2.2.2.2.isNone
  | .ireturn => Nat.beq len 1 && (match q.2.2.2.2 with
    | some .int => Nat.beq x 1
    | some .boolean => !(Nat.beq x 1)
    | _ => false)
  | .lreturn => Nat.beq len 1 && (match q.2.2.2.2 with
    | some .long => true
    | _ => false)
  | _ => Nat.beq len 1
def diB (q : dMI) (pc : Nat) (i : dI) : Bool := decide (decode q.2.2.1 pc = .ok (i.1, i.2.1)) && dxB q pc i.1 i.2.1 i.2.2
/-- a block from a place on -/
def ckb (q : dMI) : List dI → Nat → Bool
  | [], _ => true
  | i :: t, pc => diB q pc i && ckb q t (pc + i.2.1)
def dmB (q : dMI) : Bool := Nat.blt q.1 14 && (Nat.ble q.2.2.2.1 40 && (decide (q.2.1.cls = cR q.1) && plainName q.2.1.cls))
set_option maxRecDepth 100000 in
theorem dMs_all : dMis.all dmB = true := by decide +kernel
theorem dM_f {y : Nat} {q : dMI} (h : dMis[y]? = some q) : q.1 < 14 ∧ q.2.2.2.1 ≤ 40 ∧ q.2.1.cls = cR q.1 ∧ plainName q.2.1.cls = true := by
  have h1 := List.all_eq_true.mp dMs_all q (List.mem_of_getElem? h)
  simp only [dmB, Bool.and_eq_true, decide_eq_true_eq, Nat.blt_eq, Nat.ble_eq] at h1
  exact h1

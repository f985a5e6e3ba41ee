/-! ===== the words of the tables that the program's links stand on; what is checked of each instruction ===== -/
def dWC (q : dMI) : Cond := .code q.2.1 q.2.2.1 q.2.2.2.1 q.2.2.2.2
def dWF (o : Nat) (e : Nat × Nat × Nat) : Cond := .fieldLink (cR o) e.1 (cT e.2.1 e.2.2).1 (cT e.2.1 e.2.2).2.1 (cT e.2.1 e.2.2).2.2.1
def dWM (o : Nat) (e : Nat × Nat × Nat) : List Cond := match dMis[e.2.1]? with
  | none => []
  | some q => match e.2.2 with
    | 0 => [.methodLink (cR o) e.1 q.2.1, .static q.2.1, .initialized q.2.1.cls]
    | 1 => [.methodLink (cR o) e.1 q.2.1, .instanceMethod q.2.1, .selects q.2.1.cls q.2.1 q.2.1, .initialized q.2.1.cls]
    | 2 => [.methodLink (cR o) e.1 q.2.1, .instanceMethod q.2.1, .initialized q.2.1.cls]
    | _ => [.static q.2.1, .initialized q.2.1.cls]
def dWL (o : Nat) : List Cond := (dCT o).map (fun e => .classLink (cR o) e.1 (cR e.2)) ++ ((dKT o).map (fun e => .constant (cR o) e.1 (Int32.ofNat e.2)) ++ (dJT o).map (fun e => .constantLong (cR o) e.1 (Int64.ofNat e.2)))
def dWo (o : Nat) : List Cond := u_ws (cR o) (cT o) (cN o) ++ ([.initialized (cR o), .instantiable (cR o) (cN o)] ++ ((dFT o).map (dWF o) ++ ((dMT o).flatMap (dWM o) ++ ((dOT o).map (fun i => .methodLink (cR o) i objectInit) ++ dWL o))))
/-- where texts are loaded: class, place, number of the text -/
def dSR : List (Nat × Nat × Nat) := [(7, 161, 0), (7, 167, 1), (7, 169, 2), (7, 171, 3), (7, 173, 4), (7, 175, 5), (7, 177, 6), (7, 179, 7), (7, 181, 8), (7, 183, 9), (7, 185, 10), (7, 187, 11), (7, 189, 12), (9, 35, 13), (9, 41, 14), (9, 43, 15), (9, 45, 16), (9, 47, 17), (9, 49, 18), (11, 126, 19), (11, 132, 20), (11, 134, 21), (11, 136, 22), (11, 143, 23), (11, 147, 24), (11, 151, 25), (11, 155, 26), (11, 157, 27), (11, 159, 28), (11, 164, 29), (11, 166, 30), (11, 181, 31), (11, 186, 32), (11, 188, 33), (11, 196, 34), (13, 15, 35), (13, 444, 36), (13, 603, 37), (13, 1055, 38), (13, 1107, 32), (13, 1109, 33), (13, 1117, 34), (13, 1119, 31), (13, 1121, 30), (13, 1126, 28), (13, 1128, 29), (13, 1133, 19), (13, 1144, 20), (13, 1146, 21), (13, 1148, 22), (13, 1150, 23), (13, 1152, 24), (13, 1154, 25), (13, 1156, 26), (13, 1158, 27)]
def dTn : List String := ["size", "bits", "cbor", "cborseq", "within", "and", "lt", "le", "gt", "ge", "eq", "ne", "default", "any = # uint = #0 nint = #1 int = uint / nint bstr = #2 bytes = #2 tstr = #3 text = #3 tdate = #6.0(tstr) time = #6.1(number) number = int / float ", "biguint = #6.2(bstr) bignint = #6.3(bstr) bigint = biguint / bignint integer = int / bigint unsigned = uint / biguint decfrac = #6.4([e10: int, m: integer]) ", "bigfloat = #6.5([e2: int, m: integer]) eb64url = #6.21(any) eb64legacy = #6.22(any) eb16 = #6.23(any) encoded-cbor = #6.24(bstr) uri = #6.32(tstr) ", "b64url = #6.33(tstr) b64legacy = #6.34(tstr) regexp = #6.35(tstr) mime-message = #6.36(tstr) cbor-any = #6.55799(any) float16 = #7.25 float32 = #7.26 ", "float64 = #7.27 float16-32 = float16 / float32 float32-64 = float32 / float64 float = float16-32 / float64 ", "false = #7.20 true = #7.21 bool = false / true nil = #7.22 null = #7.22 undefined = #7.23 ", "18446744073709551616", "float16(0x", "float32(0x", "float64(0x", "false", "true", "null", "undefined", "simple(", "_ ", ": ", ", ", "(_ ", "h'", "\"", "\\x", "stop", "(){}[]<>,:^~&", "size bits cbor cborseq within and lt le gt ge eq ne default ", "any=# uint=#0 nint=#1 int=uint/nint bstr=#2 bytes=#2 tstr=#3 text=#3 tdate=#6.0(tstr) time=#6.1(number) number=int/float biguint=#6.2(bstr) bignint=#6.3(bstr) bigint=biguint/bignint integer=int/bigint unsigned=uint/biguint decfrac=#6.4([e10:int,m:integer]) bigfloat=#6.5([e2:int,m:integer]) eb64url=#6.21(any) eb64legacy=#6.22(any) eb16=#6.23(any) encoded-cbor=#6.24(bstr) uri=#6.32(tstr) b64url=#6.33(tstr) b64legacy=#6.34(tstr) regexp=#6.35(tstr) mime-message=#6.36(tstr) cbor-any=#6.55799(any) float16=#7.25 float32=#7.26 float64=#7.27 float16-32=float16/float32 float32-64=float32/float64 float=float16-32/float64 false=#7.20 true=#7.21 bool=false/true nil=#7.22 null=#7.22 undefined=#7.23"]
/-- where length() and charAt() are called -/
def dSM : List (Nat × Nat × Nat) := [(9, 74, 1), (9, 80, 2), (11, 64, 1), (11, 69, 2), (13, 605, 1), (13, 608, 2), (13, 446, 3)]
def dWS (e : Nat × Nat × Nat) : Cond := .methodLink (cR e.1) e.2.1 (match e.2.2 with | 1 => yJ0_length_8abf5 | 2 => yJ0_charAt_5068e | _ => yJ0_indexOf_0f7a4)
/-- methods that no handler stands in -/
def dMs : List dMI := (dMis.zipIdx.filter fun q => !(dWith.contains q.2)).map (·.1)
def dTB : List Cond := [.instanceMethod objectInit, .code objectInit ⟨#[0xb1]⟩ 1 none, .arrayClass .int, .arrayClass .long, .arrayClass .byte, .arrayClass .boolean] ++ ((List.range 14).flatMap dWo ++ (dMs.map dWC ++ (dTI ++ dSM.map dWS)))
theorem dMs_mem {y : Nat} {t : dMI} (h : dMis[y]? = some t) (hn : dWith.contains y = false) : t ∈ dMs :=
  List.mem_map.mpr ⟨(t, y), List.mem_filter.mpr ⟨List.mem_zipIdx_iff_getElem?.mpr h, by show (!(dWith.contains y)) = true; rw [hn]; rfl⟩, rfl⟩
set_option maxRecDepth 100000 in
theorem dTB_good : dTB.all goodWord = true := by decide +kernel
abbrev dTs (q : dMI) : List Cond := dWC q :: dTB
theorem dTB_o {o : Nat} (ho : o < 14) {w : Cond} (h : w ∈ dWo o) : w ∈ dTB :=
  List.mem_append.mpr (Or.inr (List.mem_append.mpr (Or.inl (List.mem_flatMap.mpr ⟨o, List.mem_range.mpr ho, h⟩))))
theorem dTB_f {o : Nat} (ho : o < 14) {e : Nat × Nat × Nat} (h : e ∈ dFT o) : dWF o e ∈ dTB := dTB_o ho (by
  unfold dWo; simp only [List.mem_append]; exact Or.inr (Or.inr (Or.inl (List.mem_map.mpr ⟨e, h, rfl⟩))))
theorem dTB_m {o : Nat} (ho : o < 14) {e : Nat × Nat × Nat} (h : e ∈ dMT o) {w : Cond} (hw : w ∈ dWM o e) : w ∈ dTB := dTB_o ho (by
  unfold dWo; simp only [List.mem_append]; exact Or.inr (Or.inr (Or.inr (Or.inl (List.mem_flatMap.mpr ⟨e, h, hw⟩)))))
theorem dTB_i {o i : Nat} (ho : o < 14) (h : i ∈ dOT o) : Cond.methodLink (cR o) i objectInit ∈ dTB := dTB_o ho (by
  unfold dWo; simp only [List.mem_append]; exact Or.inr (Or.inr (Or.inr (Or.inr (Or.inl (List.mem_map.mpr ⟨i, h, rfl⟩))))))
theorem dTB_l {o : Nat} (ho : o < 14) {w : Cond} (h : w ∈ dWL o) : w ∈ dTB := dTB_o ho (by
  unfold dWo; simp only [List.mem_append]; exact Or.inr (Or.inr (Or.inr (Or.inr (Or.inr h)))))
theorem dTB_u {o : Nat} (ho : o < 14) {w : Cond} (h : w ∈ u_ws (cR o) (cT o) (cN o)) : w ∈ dTB := dTB_o ho (by
  unfold dWo; simp only [List.mem_append]; exact Or.inl h)
theorem dTB_n {o : Nat} (ho : o < 14) {w : Cond} (h : w ∈ ([.initialized (cR o), .instantiable (cR o) (cN o)] : List Cond)) : w ∈ dTB := dTB_o ho (by
  unfold dWo; simp only [List.mem_append]; exact Or.inr (Or.inl h))
theorem dTB_c {q : dMI} (h : q ∈ dMs) : dWC q ∈ dTB := List.mem_append.mpr (Or.inr (List.mem_append.mpr (Or.inr (List.mem_append.mpr (Or.inl (List.mem_map.mpr ⟨q, h, rfl⟩))))))
theorem dTB_x {w : Cond} (h : w ∈ dTI) : w ∈ dTB := List.mem_append.mpr (Or.inr (List.mem_append.mpr (Or.inr (List.mem_append.mpr (Or.inr (List.mem_append.mpr (Or.inl h)))))))
theorem dTB_j {w : Cond} (h : w ∈ dTJ) : w ∈ dTB := dTB_x (dTI_j h)
theorem dTB_s {e : Nat × Nat × Nat} (h : e ∈ dSM) : dWS e ∈ dTB := List.mem_append.mpr (Or.inr (List.mem_append.mpr (Or.inr (List.mem_append.mpr (Or.inr (List.mem_append.mpr (Or.inr (List.mem_map.mpr ⟨e, h, rfl⟩))))))))
theorem dTB_gd {w : Cond} (h : w ∈ dTB) : (w.onTables && w.keeps) = true ∨ ∃ ty, w = .arrayClass ty := good_of_word (List.all_eq_true.mp dTB_good w h)
theorem dGI {Ts ws : List Cond} (h1 : ∀ w ∈ dTB, w ∈ Ts) (h : ∀ w ∈ ws, w ∈ dTB) : GoodIn Ts ws := fun w hw => ⟨h1 w (h w hw), dTB_gd (h w hw)⟩
-- what is checked of an instruction
def dcallB (q : dMI) (i x : Nat) (ks : List Nat) : Bool := (dMT q.1).any (fun e => Nat.beq e.1 i && (Nat.beq e.2.1 (x / 16384) && ks.contains e.2.2)) && (match dMis[x / 16384]? with
  | none => false
  | some t => Nat.blt (x % 16) 14 && (!(dWith.contains (x / 16384)) && (decide (t.2.1.cls = cR (x % 16)) && (decide ((parseMethodDescriptor t.2.1.desc).map (fun d => d.parameters.length) = some (x / 16 % 16)) && Nat.beq (x / 256 % 64) t.2.2.2.1))))
def dtsB (pc x : Nat) : List Int → Nat → Bool
  | [], _ => true
  | o :: t, j => decide ((pc : Int) + o = ((wq 16 (x >>> 32) (j + 2) : Nat) : Int)) && dtsB pc x t (j + 1)
def dlsB (pc x : Nat) : List (Int × Int) → Nat → Bool
  | [], _ => true
  | a :: t, j => decide ((Int32.ofNat (wq 48 (x >>> 32) (2 * j))).toInt = a.1) && (Nat.blt (wq 48 (x >>> 32) (2 * j)) 4294967296 && (decide ((pc : Int) + a.2 = ((wq 48 (x >>> 32) (2 * j + 1) : Nat) : Int)) && dlsB pc x t (j + 1)))
def dxB (q : dMI) (pc : Nat) (ins : Instr) (len x : Nat) : Bool := match ins with
  | .iconst n => decide (Int32.ofInt n = Int32.ofNat x) && Nat.beq len 1
  | .bipush n => decide ((Int8.ofInt n).toInt32 = Int32.ofNat x) && Nat.beq len 2
  | .sipush n => decide ((Int16.ofInt n).toInt32 = Int32.ofNat x) && Nat.beq len 3
  | .lconst n => decide (Int64.ofNat (n : Nat) = Int64.ofNat x) && Nat.beq len 1
  | .ldc i => Nat.beq len 2 && ((Nat.ble 4294967296 x && decide ((q.1, i, x % 1048576) ∈ dSR)) || decide ((i, x) ∈ dKT q.1))
  | .ldc_w i => Nat.beq len 3 && ((Nat.ble 4294967296 x && decide ((q.1, i, x % 1048576) ∈ dSR)) || decide ((i, x) ∈ dKT q.1))
  | .ldc2_w i => Nat.beq len 3 && decide ((i, x) ∈ dJT q.1)
  | .iload_n n => Nat.beq len 1 && Nat.beq n.val x
  | .lload_n n => Nat.beq len 1 && Nat.beq n.val x
  | .aload_n n => Nat.beq len 1 && Nat.beq n.val x
  | .iload n => Nat.beq len 2 && Nat.beq n x
  | .lload n => Nat.beq len 2 && Nat.beq n x
  | .aload n => Nat.beq len 2 && Nat.beq n x
  | .istore_n n => Nat.beq len 1 && (Nat.beq n.val x && Nat.blt x q.2.2.2.1)
  | .astore_n n => Nat.beq len 1 && (Nat.beq n.val x && Nat.blt x q.2.2.2.1)
  | .lstore_n n => Nat.beq len 1 && (Nat.beq n.val x && Nat.blt (x + 1) q.2.2.2.1)
  | .istore n => Nat.beq len 2 && (Nat.beq n x && Nat.blt x q.2.2.2.1)
  | .astore n => Nat.beq len 2 && (Nat.beq n x && Nat.blt x q.2.2.2.1)
  | .lstore n => Nat.beq len 2 && (Nat.beq n x && Nat.blt (x + 1) q.2.2.2.1)
  | .iinc i n => Nat.beq len 3 && (Nat.beq (x / 4294967296) i && (decide (Int32.ofInt n = Int32.ofNat (x % 4294967296)) && Nat.blt i q.2.2.2.1))
  | .ifCond _ o => Nat.beq len 3 && decide ((pc : Int) + o = (x : Int))
  | .if_icmp _ o => Nat.beq len 3 && decide ((pc : Int) + o = (x : Int))
  | .goto o => Nat.beq len 3 && decide ((pc : Int) + o = (x : Int))
  | .tableswitch d lo hi os => decide ((Int32.ofNat (x % 4294967296)).toInt = lo) && (decide (-2147483648 ≤ lo ∧ lo ≤ hi ∧ hi < 2147483648) && (decide (((os.toList.length : Nat) : Int) = hi - lo + 1) && (Nat.beq (wq 16 (x >>> 32) 0) os.toList.length && (decide ((pc : Int) + d = ((wq 16 (x >>> 32) 1 : Nat) : Int)) && dtsB pc x os.toList 0))))
  | .getfield i => Nat.beq len 3 && (decide ((i, x / 1024, x / 4 % 256) ∈ dFT q.1) && (Nat.blt (x / 1024) 14 && (Nat.blt (x / 4 % 256) (cN (x / 1024)) && Nat.beq (tcode (cY (x / 1024) (x / 4 % 256))) (x % 4))))
  | .putfield i => Nat.beq len 3 && (decide ((i, x / 1024, x / 4 % 256) ∈ dFT q.1) && (Nat.blt (x / 1024) 14 && (Nat.blt (x / 4 % 256) (cN (x / 1024)) && (Nat.beq (tcode (cY (x / 1024) (x / 4 % 256))) (x % 4) && (!(cT (x / 1024) (x / 4 % 256)).2.2.2 || (decide (q.2.1.name = "<init>") && decide ((cT (x / 1024) (x / 4 % 256)).1 = cR q.1)))))))
  | .new i => Nat.beq len 3 && (Nat.beq x 0 || (decide ((i, x / 256) ∈ dCT q.1) && (Nat.blt (x / 256) 14 && Nat.beq (x % 256) (cN (x / 256)))))
  | .newarray t => Nat.beq len 2 && (match t with
    | .int => Nat.beq x 0
    | .long => Nat.beq x 1
    | .byte => Nat.beq x 2
    | .boolean => Nat.beq x 3
    | _ => false)
  | .invokestatic i => Nat.beq len 3 && (Nat.ble 1099511627776 x || (dcallB q i x [0] || (dcallB q i x [3] && decide ((q.1, i, x / 16384) ∈ dNT))))
  | .invokevirtual i => Nat.beq len 3 && ((Nat.beq x 1099511627777 && decide ((q.1, i, 1) ∈ dSM)) || ((Nat.beq x 1099511627778 && decide ((q.1, i, 2) ∈ dSM)) || ((Nat.beq x 1099511627779 && decide ((q.1, i, 3) ∈ dSM)) || (Nat.ble 1099511627780 x || dcallB q i x [1]))))
  | .invokespecial i => Nat.beq len 3 && ((Nat.beq x 1099511627776 && decide (i ∈ dOT q.1)) || (!(Nat.beq x 1099511627776) && (Nat.ble 1099511627776 x || (dcallB q i x [2] && (match dMis[x / 16384]? with
    | none => false
    | some t => decide (t.2.1.name = "<init>") && t.2.2.2.2.isNone)))))
  | .athrow => true
  | .lookupswitch d ps => ((ps.toList.zip (ps.toList.drop 1)).all (fun (a, next) => a.1 < next.1)) && (Nat.beq (wq 16 x 0) ps.toList.length && (decide ((pc : Int) + d = ((wq 16 x 1 : Nat) : Int)) && dlsB pc x ps.toList 0))
  | .return_ => Nat.beq len 1 && q.2.2.2.2.isNone
  | .ireturn => Nat.beq len 1 && (match q.2.2.2.2 with
    | some .int => Nat.beq x 1
    | some .boolean => !(Nat.beq x 1)
    | _ => false)
  | .lreturn => Nat.beq len 1 && (match q.2.2.2.2 with
    | some .long => true
    | _ => false)
  | _ => Nat.beq len 1
def diB (q : dMI) (pc : Nat) (i : dI) : Bool := decide (decode q.2.2.1 pc = .ok (i.1, i.2.1)) && dxB q pc i.1 i.2.1 i.2.2
/-- a block from a place on -/
def ckb (q : dMI) : List dI → Nat → Bool
  | [], _ => true
  | i :: t, pc => diB q pc i && ckb q t (pc + i.2.1)
def dmB (q : dMI) : Bool := Nat.blt q.1 14 && (Nat.ble q.2.2.2.1 40 && (decide (q.2.1.cls = cR q.1) && plainName q.2.1.cls))
set_option maxRecDepth 100000 in
theorem dMs_all : dMis.all dmB = true := by decide +kernel
theorem dM_f {y : Nat} {q : dMI} (h : dMis[y]? = some q) : q.1 < 14 ∧ q.2.2.2.1 ≤ 40 ∧ q.2.1.cls = cR q.1 ∧ plainName q.2.1.cls = true := by
  have h1 := List.all_eq_true.mp dMs_all q (List.mem_of_getElem? h)
  simp only [dmB, Bool.and_eq_true, decide_eq_true_eq, Nat.blt_eq, Nat.ble_eq] at h1
  exact h1

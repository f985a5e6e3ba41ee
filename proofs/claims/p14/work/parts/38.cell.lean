/-! ===== a cell's bytes become an item ===== -/
def cBy (k v : Nat) : List Nat := match k with
  | 0 => [v]
  | 1 => [32 + v]
  | 2 => (96 + v % 4) :: List.replicate (v % 4) 97
  | 3 => [244 + v % 2]
  | _ => [129, v]
def cMa (k : Nat) : Nat := match k with
  | 0 => 0
  | 1 => 1
  | 2 => 3
  | 3 => 7
  | _ => 4
def cNu (k v : Nat) : Nat := match k with
  | 0 => v
  | 1 => v
  | 2 => v % 4
  | 3 => 20 + v % 2
  | _ => 1
def cCn (k : Nat) : Nat := match k with
  | 0 => 1
  | 1 => 1
  | 2 => 1
  | 3 => 1
  | _ => 2
def bsOv (pl : Nat) : List Nat → Nat → List (sN × sN)
  | [], _ => []
  | b :: t, i => ((pl + i, [1]), (b, [])) :: bsOv pl t (i + 1)
def nN : sN := (4294967295, [])
def itL (top cnt lim reg sp joi fau : sN) : List (sN × sN) := [((0, []), (95, [])), ((1, []), (96, [])), ((2, []), (97, [])), ((3, []), (98, [])), ((4, []), (99, [])), ((5, []), (100, [])), ((6, []), (101, [])), ((7, []), (102, [])), ((8, []), (103, [])), ((9, []), (104, [])), ((10, []), (105, [])), ((11, []), (106, [])), ((12, []), top), ((13, []), (3000, [])), ((14, []), cnt), ((15, []), lim), ((16, []), reg), ((17, []), sp), ((18, []), joi), ((19, []), fau)]
def itO (top cnt lim reg sp joi fau : sN) : sX := .inr (itL top cnt lim reg sp joi fau)
def cIt (pl cn0 cnt len : Nat) : sX := itO (0, []) (cnt, [2]) (cn0 + 200, []) (pl, []) (pl + len, [1, 3]) (3000, []) nN
/-- what stands in the rows for a cell: row, place, number, whether it counts from the place -/
def cFa (cn0 k v a : Nat) : List (sN × sN) := match k, a with
  | 4, 95 => [((cn0, [2]), (4, [])), ((cn0 + 1, [2]), (0, []))]
  | 4, 96 => [((cn0, [2]), (0, [])), ((cn0 + 1, [2]), (0, []))]
  | 4, 99 => [((cn0, [2]), (cn0, [])), ((cn0 + 1, [2]), (cn0, [2]))]
  | 4, 100 => [((cn0 + 1, [2]), (cn0 + 2, [2])), ((cn0, [2]), (cn0 + 2, [2]))]
  | 4, 105 => [((cn0, [2]), (1, [])), ((cn0 + 1, [2]), (v, []))]
  | _, 95 => [((cn0, [2]), (cMa k, []))]
  | _, 96 => [((cn0, [2]), (0, []))]
  | _, 99 => [((cn0, [2]), (cn0, []))]
  | _, 100 => [((cn0, [2]), (cn0 + 1, [2]))]
  | _, 105 => [((cn0, [2]), (cNu k v, []))]
  | _, _ => []
def cS (pl cn0 cnt : Nat) (bs : List Nat) (A : Nat → List (sN × sN)) : sH := [(93, 6, 20, cIt pl cn0 cnt bs.length), (94, 2, 18000, .inr (bsOv pl bs 0)), (95, 0, 6257, .inr (A 95)), (96, 0, 6257, .inr (A 96)), (97, 0, 457, .inr []), (98, 0, 457, .inr []), (99, 0, 457, .inr (A 99)), (100, 0, 6257, .inr (A 100)), (101, 0, 6257, .inr []), (102, 0, 6257, .inr [((cn0, []), (0, []))]), (103, 0, 6257, .inr []), (104, 0, 6257, .inr []), (105, 1, 6257, .inr (A 105))]
def B1 : List (Nat × Nat) := [(0, 0), (1, 90), (1, 60), (1, 200)]
noncomputable def kd1 (a : Nat) : Option Nat := dalk [(93, 6), (0, 16), (106, 10)] a
noncomputable def orc0 (_ : Nat) (_ : List sV) : Option (List (Option sV)) := none
/-- how many bytes are left, held against a text's length -/
def fx1 (i : Nat) (a b : sN) : Option sN := match a.2, b.2 with
  | [3], [] => cond (Nat.beq i 9 && (Nat.beq b.1 9223372036854775808 && Nat.blt a.1 1000)) (some (Nat.add a.1 9223372036854775808, [3])) (cond (Nat.beq i 19 && (Nat.beq a.1 b.1 && (Nat.ble 9223372036854775808 a.1 && Nat.blt a.1 9223372036854776808))) (some (1, [])) none)
  | _, _ => none
noncomputable def cRun (pl cn0 k v : Nat) : sR := sex B1 fx1 kd1 pghm st0 orc0 2000 20 5000 400 55 53 0 (0, 0) [] [(0, .inr (.inr 94)), (1, .inl (pl, [1])), (2, .inl (cn0, [])), (3, .inl (2, []))] [] (cS pl cn0 cn0 (cBy k v) fun _ => []) [] []
def cChk (pl cn0 k v : Nat) (v2 : Option sV) (S2 : sH) : Bool := @decide (v2 = some (.inl (pl + (cBy k v).length, [1]))) (dqO _ _) && (swk S2 (cS pl cn0 (cn0 + cCn k) (cBy k v) (cFa cn0 k v)) && sqOn [93, 94, 95, 96, 99, 100, 105] S2 (cS pl cn0 (cn0 + cCn k) (cBy k v) (cFa cn0 k v)))
def cells : List (Nat × Nat) := (List.range 80).map fun i => (i / 16, i % 16)
set_option maxRecDepth 1000000 in
theorem c_runs1 : (cells.all fun e => sAll (cRun 15000 256 e.1 e.2) (cChk 15000 256 e.1 e.2)) = true := by decide +kernel
set_option maxRecDepth 1000000 in
theorem c_runs0 : (cells.all fun e => sAll (cRun 0 0 e.1 e.2) (cChk 0 0 e.1 e.2)) = true := by decide +kernel

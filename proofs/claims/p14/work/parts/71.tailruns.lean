/-! ===== the law behind its loop over the cells: runs ===== -/
def rE (e : Nat) : List tC := [(60, 261, [(0, .inr (.inr 1)), (1, .inl (5, [])), (2, .inl (0, []))], some (.inl (e, []))), (60, 260, [(0, .inr (.inr 1)), (1, .inl (0, [])), (2, .inl (1, []))], some (.inr (.inl (0, [2]))))]
def jX5 : sL := [(16, .inl (0, [5])), (15, .inl (0, [6])), (14, .inl (0, [7])), (13, .inl (0, [8])), (12, .inl (0, [9]))]
def rB (X : sL) (a e i n : sN) : sL := (7, .inl (1, [])) :: (9, .inl a) :: (8, .inl e) :: (X ++ ((6, .inl i) :: restL n))
/-- from the cells' loop on -/
noncomputable def sgB (X X5 : sL) (e : Nat) : Bool := chn 5000 lwS0 (chkH 914 ((11, .inl (1, [])) :: (10, .inl (0, [])) :: rB X5 (1, [2, 4]) (e, []) (0, [4]) (0, [2]))) (goH [914]) (rE e) (runH [914] 491 (lM X (0, [2]) (1, [2, 4]) (e, []) (0, [2])) lwS0)
set_option maxRecDepth 1000000 in
theorem sgB_ok : (sgB [] [] 0 && (sgB [] [] 1 && (sgB jX jX5 0 && sgB jX jX5 1))) = true := by decide +kernel
/-- can the row be gone through -/
def yA (k g : sN) : sL := [(11, .inl g), (10, .inl k)]
def yB (k g : sN) : sL := [(10, .inl k), (11, .inl g)]
def wS (O : List (sN × sN)) : sH := [(127, 0, 21, .inr O), (128, 0, 21, .inr [])]
def r4 (n : sN) : sL := rB jX5 (0, [1]) (0, [10]) (0, [4]) n
noncomputable def itG (Y : sL) (n : sN) (O : List (sN × sN)) (Y2 : sL) : Bool := chn 5000 (wS O) (chkH 914 (Y2 ++ r4 n)) (goH [914]) [] (runH [914] 914 (Y ++ r4 n) (wS O))
def y4 (b : Bool) : sL := cond b (yA (0, [3]) (1, [])) (yB (0, [3]) (1, []))
noncomputable def it4i (b : Bool) (k : Nat) : Bool := itG (y4 b) (1, [2, 3]) [((0, [3]), (k, []))] (yB (1, [3]) (1, []))
noncomputable def it4e (b : Bool) (k : Nat) : Bool := itG (y4 b) (1, [3]) [((0, [3]), (k, []))] (yA (0, [3]) (0, []))
noncomputable def it4t (b : Bool) (k : Nat) : Bool := itG (y4 b) (2, [2, 3]) [((0, [3]), (k, [])), ((1, [3]), (2, []))] (yB (2, [3]) (1, []))
noncomputable def it4n (b : Bool) (k m : Nat) : Bool := itG (y4 b) (2, [2, 3]) [((0, [3]), (k, [])), ((1, [3]), (m, []))] (yA (0, [3]) (0, []))
noncomputable def it4k (b : Bool) (k : Nat) : Bool := it4e b k && (it4t b k && (it4n b k 0 && (it4n b k 1 && (it4n b k 3 && it4n b k 4))))
set_option maxRecDepth 1000000 in
theorem it4_ok : ([true, false].all fun b => it4i b 0 && (it4i b 1 && (it4k b 2 && (it4k b 3 && it4k b 4)))) = true := by decide +kernel
/-- behind it -/
def rC (X : sL) (a e i n : sN) : sL := rB X a e i n
def jX3 : sL := [(16, .inl (0, [5])), (15, .inl (0, [6])), (14, .inl (0, [7]))]
noncomputable def sgC (Y X5 X3 : sL) (a e i n : sN) : Bool := chn 5000 lwS0 (chkH 980 ((13, .inl (0, [])) :: (12, .inl (1, [])) :: (Y ++ rC X3 a e i n))) (goH [980]) [] (runH [980] 914 (Y ++ rB X5 a e i n) lwS0)
set_option maxRecDepth 1000000 in
theorem sgC_ok : (sgC (yA (0, []) (1, [])) [] [] (1, [2, 4]) (0, [10]) (0, [4]) (0, []) && (sgC (yA (0, [3]) (0, [])) jX5 jX3 (1, [2, 4]) (0, [10]) (0, [4]) (0, [2]) && sgC (yB (0, [2]) (1, [])) jX5 jX3 (1, [2, 4]) (0, [10]) (0, [4]) (0, [2]))) = true := by decide +kernel
/-- has each array a number up to five -/
def y5 (b : Bool) : sL := cond b (yA (0, [11]) (0, [8])) (yB (0, [11]) (0, [8]))
def r5 (n : sN) : sL := rB jX3 (0, [9]) (0, [10]) (0, [4]) n
noncomputable def itF (b : Bool) (o k v : Nat) : Bool := chn 5000 (mS (k, []) (v, [])) (chkH 980 ((13, .inl (1, [3])) :: (12, .inl (Nat.mul o (b2n (onlyB k v)), [])) :: (y5 b ++ r5 (1, [2, 3])))) (goH [980]) [] (runH [980] 980 ((13, .inl (0, [3])) :: (12, .inl (o, [])) :: (y5 b ++ r5 (1, [2, 3]))) (mS (k, []) (v, [])))
noncomputable def it5s (k v : Nat) : Bool := itF true 0 k v && (itF true 1 k v && (itF false 0 k v && itF false 1 k v))
set_option maxRecDepth 1000000 in
theorem it5_0 : ((List.range 16).all fun v => it5s 0 v) = true := by decide +kernel
set_option maxRecDepth 1000000 in
theorem it5_1 : ((List.range 16).all fun v => it5s 1 v) = true := by decide +kernel
set_option maxRecDepth 1000000 in
theorem it5_2 : ((List.range 16).all fun v => it5s 2 v) = true := by decide +kernel
set_option maxRecDepth 1000000 in
theorem it5_3 : ((List.range 16).all fun v => it5s 3 v) = true := by decide +kernel
set_option maxRecDepth 1000000 in
theorem it5_4 : ((List.range 16).all fun v => it5s 4 v) = true := by decide +kernel
/-- the end -/
def chkR (x : sLf) : Bool := match x with
  | .inl _ => false
  | .inr (v, _) => @decide (v = some (.inl (1, []))) (dqO _ _)
def rD (a b : Nat) : List tC := [(60, 261, [(0, .inr (.inr 1)), (1, .inl (6, [])), (2, .inl (0, []))], some (.inl (a, []))), (60, 261, [(0, .inr (.inr 1)), (1, .inl (7, [])), (2, .inl (0, []))], some (.inl (b, [])))]
noncomputable def sgD (Y X3 : sL) (a o : Nat) (n : sN) : Bool := chn 5000 lwS0 chkR (goH []) (rD a o) (runH [] 980 ((13, .inl n) :: (12, .inl (o, [])) :: (Y ++ rB X3 (0, [9]) (0, [10]) (0, [4]) n)) lwS0)
set_option maxRecDepth 1000000 in
theorem sgD_ok : (sgD (yA (0, []) (1, [])) [] 1 1 (0, []) && ((sgD (yA (0, [3]) (0, [])) jX3 0 0 (1, [2, 3]) && sgD (yA (0, [3]) (0, [])) jX3 0 1 (1, [2, 3])) && (sgD (yB (0, [2]) (1, [])) jX3 1 0 (0, [2]) && sgD (yB (0, [2]) (1, [])) jX3 1 1 (0, [2])))) = true := by decide +kernel

/-! ===== item(): the bytes on the tape become items ===== -/
set_option maxRecDepth 100000 in
theorem lat {a n ct i f d : Nat} {u : dH} (ha : hat u a = some (0, n, ct)) (hi : i < n) (hn : n ≤ 1073741824) : drun dProg (f + 2) d 264 0 [(0, .inr (.inr (Nat.succ a))), (1, .inl i)] [] u = some (some (.inl (wd 32 ct i)), u) := by
  refine gof (G := fun z => z = some (some (.inl (wd 32 ct i)), u)) ?_
  refine grun (c := o_iload 264 1 (o_if .lt 264 16 (o_iload 264 1 (o_aload 264 0 (o_alen 264 0 (o_icmp .ge 264 16 (o_aload 264 0 (o_iload 264 1 (o_iaload 264 0 (o_goto 264 17 (djmp 264 16))))))))))) (by rfl) ?_
  refine gst (s_iload rfl) ?_
  refine gst (s_if_f (zlt_f (by omega))) ?_
  refine gst (s_iload rfl) ?_
  refine gst (s_aload rfl) ?_
  refine gst (s_alen ha rfl) ?_
  refine gst (s_icmp_f (zge_f hi (by omega))) ?_
  refine gst (s_aload rfl) ?_
  refine gst (s_iload rfl) ?_
  refine gst (s_iaload ha (Nat.mod_eq_of_lt (by omega)) hi (by omega) rfl) ?_
  refine gst s_goto ?_
  refine grun (c := o_ireturn 264 1 (djmp 264 18)) (by rfl) ?_
  exact gst (s_ireturn rfl) rfl
set_option maxRecDepth 100000 in
theorem llist0 {G : dR → Prop} {ks : List (Option dV → dH → dR)} {i p cw F d : Nat} {u : dH} (hu : ∃ c, hat u 93 = some (6, 20, c) ∧ wd 64 c 2 = 97) (hcw : hat u 96 = some (0, 6257, cw)) (hil : i < 6257) (hi : wd 32 cw i = 31)
    (g : dGoal G ks (drun dProg F (Nat.succ d) 59 47 ((8, .inl 0) :: (7, .inl p) :: lR i p) [] u)) : dGoal G ks (drun dProg (F + 3) (Nat.succ d) 59 0 [(0, .inr (.inr 94)), (1, .inl i), (2, .inl p), (3, .inl 1), (4, .inl 1)] [] u) := by
  obtain ⟨c, n1, n2⟩ := hu
  refine grun (c := o_aload 59 0 (o_getfield 59 2059 (o_iload 59 1 (o_static 59 4325932 (o_int 59 31 (o_icmp .ne 59 17 (o_int 59 1 (o_goto 59 18 (djmp 59 17))))))))) (by rfl) ?_
  refine gst (s_aload rfl) ?_
  refine gst (s_getfield (w := .inr (.inr 97)) n1 rfl (congrArg (fun z => (.inr (.inr z) : dV)) n2)) ?_
  refine gst (s_iload rfl) ?_
  refine gstatic (as := [.inr (.inr 97), .inl i]) (fun _ => rfl) rfl rfl ?_
  refine gst (lat (f := F) (d := d) hcw (by omega) (by decide)) ?_
  refine gbacks1 rfl ?_
  rw [hi]
  refine gst (s_int) ?_
  refine gst (s_icmp_f rfl) ?_
  refine gst (s_int) ?_
  refine gst s_goto ?_
  refine grun (c := o_istore 59 5 (o_iload 59 5 (o_if .eq 59 30 (o_int 59 100 (o_goto 59 39 (djmp 59 30)))))) (by rfl) ?_
  refine gst (s_istore (u := [(0, .inr (.inr 94)), (1, .inl i), (2, .inl p), (3, .inl 1), (4, .inl 1)]) rfl) ?_
  refine gst (s_iload rfl) ?_
  refine gst (s_if_f rfl) ?_
  refine gst (s_int) ?_
  refine gst s_goto ?_
  refine grun (c := o_istore 59 6 (o_iload 59 2 (o_istore 59 7 (o_int 59 0 (o_istore 59 8 (djmp 59 47)))))) (by rfl) ?_
  refine gst (s_istore (u := [(5, .inl 1), (0, .inr (.inr 94)), (1, .inl i), (2, .inl p), (3, .inl 1), (4, .inl 1)]) rfl) ?_
  refine gst (s_iload rfl) ?_
  refine gst (s_istore (u := lR i p) rfl) ?_
  refine gst (s_int) ?_
  refine gst (s_istore (u := (7, .inl p) :: lR i p) rfl) ?_
  refine gst s_jmp ?_
  exact g
theorem sfit_same {ρ : Nat → Nat} {Op : Nat → Bool} {S : sH} {u u2 : dH} (h : sfit ρ Op S u) (hw : hwf u2) (he : ∀ e ∈ S, hat u2 e.1 = hat u e.1) : sfit ρ Op S u2 :=
  sfit_mk hw h.2.2.2.1 h.2.2.2.2.1 fun a kd n X hm => by
    obtain ⟨ct, h1, h2⟩ := sfit_cell h hm
    exact ⟨ct, (he _ hm).trans h1, h2⟩
def B2 : List (Nat × Nat) := [(0, 0), (2, 100), (1, 60), (0, 20)]
def rI (n t m v : Nat) : Nat := match v with
  | 0 => 0
  | 1 => n
  | 2 => t
  | 3 => m
  | _ => 0
theorem rI_ok {n t m : Nat} (h1 : 2 ≤ n ∧ n ≤ 100) (h2 : 1 ≤ t ∧ t ≤ 60) (h3 : m ≤ 20) : sok (rI n t m) B2 := by
  intro v lo hi h
  match v, h with
  | 0, h => cases h; exact ⟨Nat.le_refl _, Nat.le_refl _⟩
  | 1, h => cases h; exact h1
  | 2, h => cases h; exact h2
  | 3, h => cases h; exact ⟨Nat.zero_le _, h3⟩
  | n + 4, h => cases h
theorem W2_of {ρ : Nat → Nat} {g : dH} (hB : sok ρ B2) (hk : kdG kdI g) : sFor B2 fx0 kd1 pgm pghm orc0 2000 20 dProg ρ opN g IT :=
  ⟨hB, fun _ _ _ _ h => (nomatch (show (none : Option sN) = some _ from h)), pgm_ok, pghm_ok, fun _ _ _ _ _ => trivial, fun a kd h S u hS _ => kd_keep hS rfl (hk _ (dalk_mem h)), fun _ _ _ h => (nomatch (show (none : Option (List (Option sV))) = some _ from h))⟩
def iS (taped stamp : sN) (it : sX) (a95 a96 a99 a100 a105 a102 : List (sN × sN)) : sH := [(0, 16, 12, .inr [((0, []), (2, [])), ((1, []), taped), ((8, []), (94, [])), ((9, []), (107, []))]), (106, 10, 3, .inr [((0, []), (108, [])), ((1, []), (0, [])), ((2, []), stamp)]), (93, 6, 20, it), (95, 0, 6257, .inr a95), (96, 0, 6257, .inr a96), (97, 0, 457, .inr []), (98, 0, 457, .inr []), (99, 0, 457, .inr a99), (100, 0, 6257, .inr a100), (101, 0, 6257, .inr []), (102, 0, 6257, .inr a102), (103, 0, 6257, .inr []), (104, 0, 6257, .inr []), (105, 1, 6257, .inr a105)]
def iE (it : sX) : sH := iS (0, []) (2, []) it [] [] [] [] [] []
def it0 : sX := itO (0, []) (0, []) (0, []) (0, []) (0, []) (0, []) (0, [])
def it1 : sX := itO (0, []) (0, []) (0, []) (0, []) (0, []) (3000, []) (0, [])
def it2 : sX := itO (0, []) (256, []) (456, []) (15000, []) (15000, [1]) (3000, []) nN
def it4 : sX := itO (0, []) (257, []) (456, []) (15000, []) (15000, [1]) (3000, []) nN
def it5 : sX := itO (0, []) (256, [2]) (456, []) (15000, []) (15000, [1]) (3000, []) nN
def it6 : sX := itO (0, []) (0, []) (200, []) (0, []) (0, [1]) (3000, []) nN
def it8 : sX := itO (0, []) (1, []) (200, []) (0, []) (0, [1]) (3000, []) nN
def it9 : sX := itO (0, []) (0, [2]) (200, []) (0, []) (0, [1]) (3000, []) nN
def itE : sX := itO (0, [2]) (256, []) (200, []) (0, []) (0, [1]) (3000, []) nN
def iT4 : sH := iS (0, []) (2, []) it4 [] [((256, []), (31, []))] [] [] [] [((256, []), (0, []))]
def iT8 : sH := iS (0, []) (2, []) it8 [((0, []), (4, []))] [((0, []), (31, []))] [((0, []), nN)] [] [((0, []), (0, []))] [((0, []), (0, []))]
def iT9 : sH := iS (0, []) (2, []) it9 [((0, []), (4, []))] [((0, []), (31, []))] [((0, []), nN)] [] [((0, []), (0, [3]))] []
def iTE : sH := iS (0, []) (2, []) itE [((0, []), (4, []))] [((0, []), (31, []))] [((0, []), nN)] [((0, []), (0, [2]))] [((0, []), (0, [3]))] []
def iCp (p : Nat) : sL := [(0, .inr (.inr 2)), (1, .inl (0, [])), (2, .inr (.inr 95)), (3, .inl (p, [])), (4, .inl (0, [1]))]
def iBy (p : Nat) : sL := [(0, .inr (.inr 95)), (1, .inl (p, []))]
def iLi (i p : Nat) : sL := [(0, .inr (.inr 94)), (1, .inl (i, [])), (2, .inl (p, [])), (3, .inl (1, [])), (4, .inl (1, []))]
def iCs : List tCall := [(57, 270, iCp 15000, iE it1, none, iE it1), (55, 268, iBy 15000, iE it2, some (.inl (159, [])), iE it2), (55, 268, iBy 15000, iE it2, some (.inl (159, [])), iE it2), (56, 59, iLi 256 15001, iT4, some (.inl (15000, [1])), iE it5),
  (57, 270, iCp 0, iE it5, none, iE it5), (55, 268, iBy 0, iE it6, some (.inl (159, [])), iE it6), (55, 268, iBy 0, iE it6, some (.inl (159, [])), iE it6), (56, 59, iLi 0 1, iT8, some (.inl (0, [1])), iT9)]
noncomputable def stI (y pc : Nat) (_ : List sFr) : Bool := Nat.beq pc 0 && (Nat.beq y 270 || (Nat.beq y 268 || Nat.beq y 59))
def KsT (a : Nat) : Bool := Nat.beq a 0 || (Nat.beq a 106 || KsI a)
def KQT (a : Nat) : Bool := Nat.beq a 1 || Nat.beq a 94
set_option maxRecDepth 1000000 in
theorem item_run : topc KsT KQT [95, 96, 99, 100, 105] 1000 (fun S K v => sret pghm (sex B2 fx0 kd1 pghm stI orc0 2000 20 20000) S K [] v) (some (.inl (0, [2]))) iTE iCs (sex B2 fx0 kd1 pghm stI orc0 2000 20 20000 3000 60 259 0 (0, 0) [] [(0, .inr (.inr 1))] [] (iS (0, [1]) (1, []) it0 [] [] [] [] [] []) [] []) = true := by decide +kernel

/-! ===== item(), with all fields of the object ===== -/
def iS_f (taped stamp : sN) (it : sX) (a95 a96 a99 a100 a105 a102 : List (sN × sN)) : sH := [(0, 16, 12, .inr [((0, []), (2, [])), ((1, []), taped), ((2, []), (4294967295, [])), ((3, []), (3, [])), ((4, []), (44, [])), ((5, []), (85, [])), ((6, []), (87, [])), ((7, []), (88, [])), ((8, []), (94, [])), ((9, []), (107, [])), ((10, []), (109, [])), ((11, []), (119, []))]), (106, 10, 3, .inr [((0, []), (108, [])), ((1, []), (0, [])), ((2, []), stamp)]), (93, 6, 20, it), (95, 0, 6257, .inr a95), (96, 0, 6257, .inr a96), (97, 0, 457, .inr []), (98, 0, 457, .inr []), (99, 0, 457, .inr a99), (100, 0, 6257, .inr a100), (101, 0, 6257, .inr []), (102, 0, 6257, .inr a102), (103, 0, 6257, .inr []), (104, 0, 6257, .inr []), (105, 1, 6257, .inr a105)]
def iE_f (it : sX) : sH := iS_f (0, []) (2, []) it [] [] [] [] [] []
def iT4_f : sH := iS_f (0, []) (2, []) it4 [] [((256, []), (31, []))] [] [] [] [((256, []), (0, []))]
def iT8_f : sH := iS_f (0, []) (2, []) it8 [((0, []), (4, []))] [((0, []), (31, []))] [((0, []), nN)] [] [((0, []), (0, []))] [((0, []), (0, []))]
def iT9_f : sH := iS_f (0, []) (2, []) it9 [((0, []), (4, []))] [((0, []), (31, []))] [((0, []), nN)] [] [((0, []), (0, [3]))] []
def iTE_f : sH := iS_f (0, []) (2, []) itE [((0, []), (4, []))] [((0, []), (31, []))] [((0, []), nN)] [((0, []), (0, [2]))] [((0, []), (0, [3]))] []
def iCs_f : List tCall := [(57, 270, iCp 15000, iE_f it1, none, iE_f it1), (55, 268, iBy 15000, iE_f it2, some (.inl (159, [])), iE_f it2), (55, 268, iBy 15000, iE_f it2, some (.inl (159, [])), iE_f it2), (56, 59, iLi 256 15001, iT4_f, some (.inl (15000, [1])), iE_f it5),
  (57, 270, iCp 0, iE_f it5, none, iE_f it5), (55, 268, iBy 0, iE_f it6, some (.inl (159, [])), iE_f it6), (55, 268, iBy 0, iE_f it6, some (.inl (159, [])), iE_f it6), (56, 59, iLi 0 1, iT8_f, some (.inl (0, [1])), iT9_f)]
set_option maxRecDepth 1000000 in
theorem item_run_f : topc KsT KQT [95, 96, 99, 100, 105] 1000 (fun S K v => sret pghm (sex B2 fx0 kd1 pghm stI orc0 2000 20 20000) S K [] v) (some (.inl (0, [2]))) iTE_f iCs_f (sex B2 fx0 kd1 pghm stI orc0 2000 20 20000 3000 60 259 0 (0, 0) [] [(0, .inr (.inr 1))] [] (iS_f (0, [1]) (1, []) it0 [] [] [] [] [] []) [] []) = true := by decide +kernel
theorem iS_not_f {t s : sN} {it : sX} {a b c d e h9 : List (sN × sN)} : ∀ q ∈ iS_f t s it a b c d e h9, q.1 ≠ 94 ∧ q.1 ≠ 1 := by
  intro q hq
  simp only [iS_f, List.mem_cons, List.not_mem_nil, or_false] at hq
  rcases hq with rfl | rfl | rfl | rfl | rfl | rfl | rfl | rfl | rfl | rfl | rfl | rfl | rfl | rfl <;> (constructor <;> (dsimp only; decide))
theorem ic_copy_f {ρ : Nat → Nat} {u0 : dH} {e pl n tc : Nat} {it : sX} {Q Q2 : dH → Prop} (hn : ρ 1 = n) (h1 : 1 ≤ n) (h2 : n ≤ 100) (hpl : pl ≤ 15000) (hq : ∀ u, Q u → hat u 1 = some (2, 3000, tc) ∧ ∃ dc, hat u 94 = some (2, 18000, dc))
    (hq2 : ∀ u u2 dc, Q u → hat u 94 = some (2, 18000, dc) → (∀ k, hat u2 k = if k = 94 then some (2, 18000, dcp tc dc 0 pl n) else hat u k) → Q2 u2) : tOKc dProg ρ opN KsT IT u0 1000 e Q Q2 (57, 270, iCp pl, iE_f it, none, iE_f it) := by
  intro f u hF hS _ hfr hQ
  have hF : 1000 ≤ f := hF
  obtain ⟨t1, dc, d1⟩ := hq u hQ
  obtain ⟨u2, e1, z1, z2, w2, a2⟩ := lcopy (p1 := 0) (p2 := pl) (n := n) (f := f + e - 2) (d := 56) hS.1 t1 d1 (by omega) (by omega) (by decide) (by decide) (by omega)
  refine ⟨u2, ?_, sfit_same hS w2 fun q hm => by rw [a2, if_neg (iS_not_f q hm).1], trivial, fr_tr hfr ⟨z1, z2, fun a ha => by rw [a2, if_neg (fun w => by rw [w] at ha; exact absurd ha (by decide))]⟩, hq2 u u2 dc hQ d1 a2⟩
  have e2 : slD ρ (iCp pl) = [(0, .inr (.inr 2)), (1, .inl 0), (2, .inr (.inr 95)), (3, .inl pl), (4, .inl n)] := by
    show [(0, _), (1, _), (2, _), (3, _), (4, Sum.inl (0 + (ρ 1 + 0)))] = [(0, _), (1, _), (2, _), (3, _), (4, Sum.inl n)]
    rw [hn, Nat.zero_add, Nat.add_zero]
    rfl
  show drun dProg (f + e) 57 270 0 (slD ρ (iCp pl)) [] u = some (none, u2)
  rw [e2, show f + e = f + e - 2 + 2 by omega]
  exact e1
theorem ic_byte_f {ρ : Nat → Nat} {u0 : dH} {e pl b : Nat} {it : sX} {Q : dH → Prop} (hpl : pl ≤ 15000) (hq : ∀ u, Q u → ∃ dc, hat u 94 = some (2, 18000, dc) ∧ wd 8 dc pl = b) {Q2 : dH → Prop} (hq2 : ∀ u, Q u → Q2 u) : tOKc dProg ρ opN KsT IT u0 1000 e Q Q2 (55, 268, iBy pl, iE_f it, some (.inl (b, [])), iE_f it) := by
  intro f u hF hS _ hfr hQ
  have hF : 1000 ≤ f := hF
  obtain ⟨dc, d1, d2⟩ := hq u hQ
  refine ⟨u, ?_, hS, trivial, hfr, hq2 u hQ⟩
  show drun dProg (f + e) 55 268 0 [(0, .inr (.inr 95)), (1, .inl pl)] [] u = some (some (.inl b), u)
  rw [show f + e = f + e - 2 + 2 by omega, lbyteAt (f := f + e - 2) (d := 55) d1 (by omega) (by decide), d2]
/-- what is known of the object behind a list's call -/
theorem iS_cells_f {ρ : Nat → Nat} {t s : sN} {it : sX} {a b c d e h9 : List (sN × sN)} {u : dH} (h : sfit ρ opN (iS_f t s it a b c d e h9) u) : kdG kdI u ∧ iSz u := by
  have g : ∀ (n : Nat) (q : Nat × sC), (iS_f t s it a b c d e h9)[n]? = some q → ∃ ct, hat u q.1 = some (q.2.1, q.2.2.1, ct) := fun n q hq => by
    obtain ⟨ct, h1, -⟩ := sfit_cell h (List.mem_of_getElem? (l := iS_f t s it a b c d e h9) (i := n) hq)
    exact ⟨ct, h1⟩
  refine ⟨fun q hq => ?_, fun q hq => ?_⟩
  · simp only [kdI, List.mem_cons, List.not_mem_nil, or_false] at hq
    rcases hq with rfl | rfl | rfl
    · obtain ⟨ct, h⟩ := g 2 _ rfl; exact ⟨_, ct, h⟩
    · obtain ⟨ct, h⟩ := g 0 _ rfl; exact ⟨_, ct, h⟩
    · obtain ⟨ct, h⟩ := g 1 _ rfl; exact ⟨_, ct, h⟩
  · simp only [iRows, List.mem_cons, List.not_mem_nil, or_false] at hq
    rcases hq with rfl | rfl | rfl | rfl | rfl | rfl | rfl | rfl | rfl | rfl | rfl
    · exact g 3 _ rfl
    · exact g 4 _ rfl
    · exact g 5 _ rfl
    · exact g 6 _ rfl
    · exact g 7 _ rfl
    · exact g 8 _ rfl
    · exact g 9 _ rfl
    · exact g 10 _ rfl
    · exact g 11 _ rfl
    · exact g 12 _ rfl
    · exact g 13 _ rfl
set_option maxHeartbeats 4000000 in
theorem iS_mk_f {ρ : Nat → Nat} {a b c d e h9 a2 b2 c2 d2 e2 : List (sN × sN)} {it : sX} {u u2 : dH} {cnt lim reg sp : sN} (h : sfit ρ opN (iS_f (0, []) (2, []) it a b c d e h9) u) (hw : hwf u2) (hf : fr KsI u u2) (hsz : iSz u2)
    (h93 : ∃ c9, hat u2 93 = some (6, 20, c9) ∧ (∀ i, i < 12 → wd 64 c9 i = 95 + i) ∧ (wd 64 c9 12 = 0 ∧ wd 64 c9 13 = 3000 ∧ wd 64 c9 18 = 3000) ∧ wd 64 c9 14 = sden ρ cnt ∧ wd 64 c9 15 = sden ρ lim ∧ wd 64 c9 16 = sden ρ reg ∧ wd 64 c9 17 = sden ρ sp ∧ wd 64 c9 19 = 4294967295)
    (hrow : ∀ q ∈ [(95, a2), (96, b2), (99, c2), (100, d2), (105, e2)], q.2 = [] ∨ ∃ i v, q.2 = [(i, v)] ∧ aw u2 q.1 (sden ρ i) = sden ρ v) : sfit ρ opN (iS_f (0, []) (2, []) (itO (0, []) cnt lim reg sp (3000, []) nN) a2 b2 c2 d2 e2 []) u2 := by
  obtain ⟨c9, k1, k2⟩ := h93
  refine sfit_mk hw (by exact (by decide : ([0, 106, 93, 95, 96, 97, 98, 99, 100, 101, 102, 103, 104, 105] : List Nat).Nodup)) (fun _ _ => rfl) fun q kd n X hm => ?_
  have hz : ∀ q : Nat × Nat × Nat, q ∈ iRows → ∃ ct, hat u2 q.1 = some (q.2.1, q.2.2, ct) ∧ sct ρ (kw q.2.1) ct (.inr []) ct := fun q hq => by
    obtain ⟨ct, hct⟩ := hsz q hq
    exact ⟨ct, hct, sct_nil⟩
  have hr : ∀ (q : Nat × Nat × Nat) (l : List (sN × sN)), q ∈ iRows → (q.1, l) ∈ [(95, a2), (96, b2), (99, c2), (100, d2), (105, e2)] → ∃ ct, hat u2 q.1 = some (q.2.1, q.2.2, ct) ∧ sct ρ (kw q.2.1) ct (.inr l) ct := fun q l hq hl => by
    obtain ⟨ct, hct⟩ := hsz q hq
    rcases hrow _ hl with h0 | ⟨i, v, h0, h1⟩
    · have h0 : l = [] := h0
      rw [h0]
      exact ⟨ct, hct, sct_nil⟩
    · have h0 : l = [(i, v)] := h0
      rw [h0]
      rw [aw_of hct] at h1
      exact ⟨ct, hct, sct_1 h1⟩
  have h0 : ∀ (m : Nat) (q : Nat × sC), (iS_f (0, []) (2, []) it a b c d e h9)[m]? = some q → KsI q.1 = false → ∃ ct, hat u2 q.1 = some (q.2.1, q.2.2.1, ct) ∧ sct ρ (kw q.2.1) ct q.2.2.2 ct := fun m q hq hk => by
    obtain ⟨ct, g1, g2⟩ := sfit_cell h (List.mem_of_getElem? (l := iS_f (0, []) (2, []) it a b c d e h9) (i := m) hq)
    exact ⟨ct, (hf.2.2 _ hk).trans g1, g2⟩
  simp only [iS_f, List.mem_cons, List.not_mem_nil, or_false] at hm
  rcases hm with hm | hm | hm | hm | hm | hm | hm | hm | hm | hm | hm | hm | hm | hm <;> cases hm
  · exact h0 0 _ rfl rfl
  · exact h0 1 _ rfl rfl
  · exact ⟨c9, k1, itO_of k2⟩
  · exact hr (95, 0, 6257) a2 (by decide) (by simp)
  · exact hr (96, 0, 6257) b2 (by decide) (by simp)
  · exact hz (97, 0, 457) (by decide)
  · exact hz (98, 0, 457) (by decide)
  · exact hr (99, 0, 457) c2 (by decide) (by simp)
  · exact hr (100, 0, 6257) d2 (by decide) (by simp)
  · exact hz (101, 0, 6257) (by decide)
  · exact hz (102, 0, 6257) (by decide)
  · exact hz (103, 0, 6257) (by decide)
  · exact hz (104, 0, 6257) (by decide)
  · exact hr (105, 1, 6257) e2 (by decide) (by simp)
set_option maxHeartbeats 4000000 in
theorem ic_list_f {cs : List (Nat × Nat)} {u0 : dH} {e pl cn0 tc : Nat} {it : sX} {a b c d e9 h9 : List (sN × sN)} {Q : dH → Prop} (hr : (cells.all fun e => sAll (cRun pl cn0 e.1 e.2) (cChk pl cn0 e.1 e.2)) = true) (hpl : pl ≤ 15000) (hcn : cn0 ≤ 256) (hcs : ∀ c ∈ cs, c.1 < 5 ∧ c.2 < 16) (h20 : cs.length ≤ 20) (h90 : (bOf cs).length ≤ 80) (h60 : nOf cs ≤ 40)
    (hq : ∀ u, Q u → ∃ dc, hat u 94 = some (2, 18000, dc) ∧ ∀ i, i < (iBs cs).length → wd 8 dc (pl + i) = (iBs cs).getD i 0) (f : Nat) (u : dH) (hF : 1000 ≤ f + e) (hS : sfit (rI (iBs cs).length (1 + nOf cs) cs.length) opN (iS_f (0, []) (2, []) (itO (0, []) (cn0 + 1, []) (cn0 + 200, []) (pl, []) (pl, [1]) (3000, []) nN) a b c d e9 h9) u) (hQ : Q u) (h31 : aw u 96 cn0 = 31) (h102 : aw u 102 cn0 = 0) :
    ∃ u2, drun dProg (f + e) 56 59 0 [(0, .inr (.inr 94)), (1, .inl cn0), (2, .inl (pl + 1)), (3, .inl 1), (4, .inl 1)] [] u = some (some (.inl (pl + (iBs cs).length)), u2) ∧ hwf u2 ∧ fr KsI u u2 ∧ iSz u2 ∧ (∃ c9, hat u2 93 = some (6, 20, c9) ∧ (∀ i, i < 12 → wd 64 c9 i = 95 + i) ∧ (wd 64 c9 12 = 0 ∧ wd 64 c9 13 = 3000 ∧ wd 64 c9 18 = 3000) ∧ wd 64 c9 14 = cn0 + 1 + nOf cs ∧ wd 64 c9 15 = cn0 + 200 ∧ wd 64 c9 16 = pl ∧ wd 64 c9 17 = pl + (iBs cs).length ∧ wd 64 c9 19 = 4294967295) ∧
      (∀ dc, hat u 94 = some (2, 18000, dc) → ∃ dc2, hat u2 94 = some (2, 18000, dc2) ∧ ∀ j, wd 8 dc2 j = wd 8 dc j) ∧ PF cn0 u2 1 cs ∧ aw u2 105 cn0 = cs.length ∧ ∀ a ∈ aRows, ∀ j, j < cn0 + 1 → (a = 105 → j ≠ cn0) → aw u2 a j = aw u a j := by
  obtain ⟨hkd, hsz⟩ := iS_cells_f hS
  obtain ⟨dc, d1, d2⟩ := hq u hQ
  obtain ⟨cw, w1⟩ := hsz (96, 0, 6257) (by decide)
  obtain ⟨c9, q1, q2⟩ := sfit_cell hS (a := 93) (kd := 6) (n := 20) (X := itO (0, []) (cn0 + 1, []) (cn0 + 200, []) (pl, []) (pl, [1]) (3000, []) nN) (List.mem_of_getElem? (i := 2) rfl)
  have q3 := itO_sct q2
  have hlen := iBs_len cs
  have hst : sden (rI (iBs cs).length (1 + nOf cs) cs.length) (pl, [1]) = pl + (iBs cs).length := by
    show pl + ((iBs cs).length + 0) = _
    omega
  have hiF : iF c9 pl cn0 (cn0 + 1) (pl + 1 + (bOf cs).length + 1) := by
    obtain ⟨r1, r2, r3, r4, r5, r6, r7⟩ := q3
    refine ⟨r1, r2, r3, r4, r5, ?_, r7⟩
    rw [r6, hst]
    omega
  obtain ⟨u2, p1, p2, p3, p4, ⟨c10, p5, p6⟩, ⟨dc2, p7, p8⟩, p9, p10, p11⟩ := pass (D := fun j => wd 8 dc j) (F := f + e - 3 - (9 * cs.length + 410)) (p := pl + 1) hr hpl hcn cs 0 1 1 u ((7, .inl (pl + 1)) :: lR cn0 (pl + 1)) hcs (by omega) (by decide) (by omega) (by decide) (by omega) (Or.inl rfl) hS.1 hkd hsz h102 ⟨c9, q1, hiF⟩ ⟨dc, d1, fun _ => rfl⟩
    (fun j hj => by
      have := d2 (1 + j) (by omega)
      show wd 8 dc (pl + 1 + j) = _
      rw [show pl + 1 + j = pl + (1 + j) by omega, this]
      show (159 :: (bOf cs ++ [255])).getD (1 + j) 0 = _
      rw [show 1 + j = j + 1 by omega, List.getD_cons_succ]
      exact getD_l hj) (by
      have := d2 (1 + (bOf cs).length) (by omega)
      show wd 8 dc (pl + 1 + (bOf cs).length) = 255
      rw [show pl + 1 + (bOf cs).length = pl + (1 + (bOf cs).length) by omega, this]
      show (159 :: (bOf cs ++ [255])).getD (1 + (bOf cs).length) 0 = _
      rw [show 1 + (bOf cs).length = (bOf cs).length + 0 + 1 by omega, List.getD_cons_succ]
      exact getD_r (l := bOf cs) (r := [255]) (j := 0))
  refine ⟨u2, ?_, p2, p3, p4, ⟨c10, p5, ?_⟩, fun dc9 h9 => ?_, p9, by omega, p11⟩
  · have hres := llist0 (G := fun z => z = some (some (.inl (pl + (iBs cs).length)), u2)) (ks := []) (i := cn0) (p := pl + 1) (F := f + e - 3) (d := 55) ⟨c9, q1, q3.1 2 (by decide)⟩ w1 (by omega) (by rw [aw_of w1] at h31; exact h31) (by
      show drun dProg (f + e - 3) 56 59 47 _ [] u = _
      rw [show f + e - 3 - (9 * cs.length + 410) + 9 * cs.length + 410 = f + e - 3 by omega] at p1
      rw [p1, show pl + 1 + (bOf cs).length + 1 = pl + (iBs cs).length by omega])
    rw [show f + e - 3 + 3 = f + e by omega] at hres
    exact hres
  · obtain ⟨r1, r2, r3, r4, r5, r6, r7⟩ := p6
    exact ⟨r1, r2, r3, r4, r5, by rw [r6]; omega, r7⟩
  · rw [d1] at h9
    cases h9
    exact ⟨dc2, p7, p8⟩
set_option maxHeartbeats 4000000 in
theorem item_ok_f {cs : List (Nat × Nat)} {u0 : dH} {tc : Nat} (hcs : ∀ c ∈ cs, c.1 < 5 ∧ c.2 < 16) (h20 : cs.length ≤ 20) (hS : sfit (rI (iBs cs).length (1 + nOf cs) cs.length) opN (iS_f (0, [1]) (1, []) it0 [] [] [] [] [] []) u0) (ht : hat u0 1 = some (2, 3000, tc)) (hd : ∃ dc, hat u0 94 = some (2, 18000, dc)) (hb : ∀ i, i < (iBs cs).length → wd 8 tc i = (iBs cs).getD i 0) (e : Nat) :
    tFin (rI (iBs cs).length (1 + nOf cs) cs.length) opN KsT [95, 96, 99, 100, 105] IT u0 (iQ cs tc 8) (some (.inl (0, [2]))) iTE_f (drun dProg (3000 + e) 60 259 0 [(0, .inr (.inr 1))] [] u0) := by
  obtain ⟨hl1, hl2⟩ := bOf_len hcs
  have hlen := iBs_len cs
  have hbyte : ∀ u k, 1 ≤ k → iQ cs tc k u → ∃ dc, hat u 94 = some (2, 18000, dc) ∧ wd 8 dc 15000 = 159 := by
    intro u k hk ⟨_, _, ⟨dc, h1, h2, _⟩, _⟩
    exact ⟨dc, h1, h2 hk 0 (by omega)⟩
  have hbyte0 : ∀ u k, 5 ≤ k → iQ cs tc k u → ∃ dc, hat u 94 = some (2, 18000, dc) ∧ wd 8 dc 0 = 159 := by
    intro u k hk ⟨_, _, ⟨dc, h1, _, h2⟩, _⟩
    exact ⟨dc, h1, h2 hk 0 (by omega)⟩
  have hstep : ∀ u k, iQ cs tc k u → k ≠ 0 → k ≠ 4 → k < 7 → iQ cs tc (k + 1) u := by
    intro u k ⟨h0, h1, ⟨dc, h2, h3, h4⟩, _⟩ k0 k4 k7
    exact ⟨h0, h1, ⟨dc, h2, fun _ => h3 (by omega), fun h => h4 (by omega)⟩, fun h => by omega⟩
  have hkd2 : ∀ (u u2 : dH) (c94 : Nat), kdG kdI u → (∀ k, hat u2 k = if k = 94 then some (2, 18000, c94) else hat u k) → kdG kdI u2 := by
    intro u u2 c94 h0 a2 q hq
    simp only [kdI, List.mem_cons, List.not_mem_nil, or_false] at hq
    rcases hq with rfl | rfl | rfl
    · rw [a2 93, if_neg (by decide)]; exact h0 (93, 6) (by decide)
    · rw [a2 0, if_neg (by decide)]; exact h0 (0, 16) (by decide)
    · rw [a2 106, if_neg (by decide)]; exact h0 (106, 10) (by decide)
  have hq0 : iQ cs tc 0 u0 := by
    obtain ⟨dc, hd⟩ := hd
    exact ⟨(iS_cells_f hS).1, ht, ⟨dc, hd, fun h => by omega, fun h => by omega⟩, fun h => by omega⟩
  refine top_go (cs := iCs_f) (e := e) (Qs := iQ cs tc) (fun a h => (nomatch (show false = true from h))) (fun k g u hk hq he hn => iQ_keep (show k < 8 from hk) hq he hn) (fun k g _ _ _ hq => W2_of (rI_ok ⟨by omega, by omega⟩ ⟨by omega, by omega⟩ h20) hq.1) (fun i c hi => ?_) item_run_f hS trivial hq0
  match i, hi with
  | 0, hi =>
    cases hi
    exact ic_copy_f (n := (iBs cs).length) (tc := tc) rfl (by omega) (by omega) (by decide) (fun u ⟨_, h1, ⟨dc, h2, _⟩, _⟩ => ⟨h1, dc, h2⟩) fun u u2 dc ⟨h0, h1, _⟩ h2 a2 => ⟨hkd2 u u2 _ h0 a2, by rw [a2 1, if_neg (by decide)]; exact h1, ⟨_, by rw [a2 94, if_pos rfl], fun _ i hi => by rw [wd_cp hi]; exact hb i hi, fun h => by omega⟩, fun h => by omega⟩
  | 1, hi =>
    cases hi
    exact ic_byte_f (Nat.le_refl _) (fun u h => hbyte u 1 (by decide) h) fun u h => hstep u 1 h (by decide) (by decide) (by decide)
  | 2, hi =>
    cases hi
    exact ic_byte_f (Nat.le_refl _) (fun u h => hbyte u 2 (by decide) h) fun u h => hstep u 2 h (by decide) (by decide) (by decide)
  | 3, hi =>
    cases hi
    intro f u hF hS3 _ hfr hQ
    have hF : 1000 ≤ f := hF
    have hS3 : sfit (rI (iBs cs).length (1 + nOf cs) cs.length) opN iT4_f u := hS3
    obtain ⟨cw, w1, w2⟩ := sfit_cell hS3 (a := 96) (kd := 0) (n := 6257) (X := .inr [((256, []), (31, []))]) (List.mem_of_getElem? (i := 4) rfl)
    obtain ⟨u2, p1, p2, p3, p4, p5, p6, p7, p8, p9⟩ := ic_list_f (tc := tc) (u0 := u0) (it := it4) (cs := cs) (e := e) (pl := 15000) (cn0 := 256) c_runs1 (by decide) (by decide) hcs h20 (by omega) (by omega) (Q := iQ cs tc 3) (fun u ⟨_, _, ⟨dc, h1, h2, _⟩, _⟩ => ⟨dc, h1, h2 (by decide)⟩) f u (by omega) hS3 hQ (by rw [aw_of w1]; exact sct_get w2 0 ((256, []), (31, [])) rfl rfl rfl) (by
      obtain ⟨cv, v1, v2⟩ := sfit_cell hS3 (a := 102) (kd := 0) (n := 6257) (X := .inr [((256, []), (0, []))]) (List.mem_of_getElem? (i := 10) rfl)
      rw [aw_of v1]
      exact sct_get v2 0 ((256, []), (0, [])) rfl rfl rfl)
    obtain ⟨c9, k1, k2⟩ := p5
    have hfit : sfit (rI (iBs cs).length (1 + nOf cs) cs.length) opN (iE_f it5) u2 := iS_mk_f (cnt := (256, [2])) (lim := (456, [])) (reg := (15000, [])) (sp := (15000, [1])) hS3 p2 p3 p4 ⟨c9, k1, k2.1, k2.2.1, by
      rw [k2.2.2.1]
      show 256 + 1 + nOf cs = 256 + (1 + nOf cs + 0)
      omega, k2.2.2.2.1, k2.2.2.2.2.1, by
      rw [k2.2.2.2.2.2.1]
      rfl, k2.2.2.2.2.2.2⟩ (fun q hq => Or.inl (by
        simp only [List.mem_cons, List.not_mem_nil, or_false] at hq
        rcases hq with rfl | rfl | rfl | rfl | rfl <;> rfl))
    refine ⟨u2, p1, hfit, trivial, fr_tr hfr ⟨p3.1, p3.2.1, fun a ha => p3.2.2 a ?_⟩, (iS_cells_f hfit).1, ?_, ?_, fun h => by omega⟩
    · cases hk : KsI a with
      | false => rfl
      | true => simp [KsT, hk] at ha
    · rw [p3.2.2 1 rfl]; exact hQ.2.1
    · obtain ⟨dc, h1, h2, -⟩ := hQ.2.2.1
      obtain ⟨dc2, h3, h4⟩ := p6 dc h1
      exact ⟨dc2, h3, fun _ i hi => (h4 _).trans (h2 (by decide) i hi), fun h => by omega⟩
  | 4, hi =>
    cases hi
    refine ic_copy_f (n := (iBs cs).length) (tc := tc) rfl (by omega) (by omega) (by decide) (fun u ⟨_, h1, ⟨dc, h2, _⟩, _⟩ => ⟨h1, dc, h2⟩) fun u u2 dc ⟨h0, h1, ⟨dc9, h3, h4, _⟩, _⟩ h2 a2 => ?_
    refine ⟨hkd2 u u2 _ h0 a2, by rw [a2 1, if_neg (by decide)]; exact h1, ⟨_, by rw [a2 94, if_pos rfl], fun _ i hi => ?_, fun _ i hi => ?_⟩, fun h => by omega⟩
    · rw [wd_dcp, if_neg (by omega)]
      rw [h2] at h3
      cases h3
      exact h4 (by decide) i hi
    · have := wd_cp (tc := tc) (dc := dc) (pl := 0) hi
      rw [Nat.zero_add] at this
      rw [this]
      exact hb i hi
  | 5, hi =>
    cases hi
    exact ic_byte_f (by decide) (fun u h => hbyte0 u 5 (by decide) h) fun u h => hstep u 5 h (by decide) (by decide) (by decide)
  | 6, hi =>
    cases hi
    exact ic_byte_f (by decide) (fun u h => hbyte0 u 6 (by decide) h) fun u h => hstep u 6 h (by decide) (by decide) (by decide)
  | 7, hi =>
    cases hi
    intro f u hF hS3 _ hfr hQ
    have hF : 1000 ≤ f := hF
    have hS3 : sfit (rI (iBs cs).length (1 + nOf cs) cs.length) opN iT8_f u := hS3
    have hrow : ∀ (m a kd n : Nat) (i v : sN), iT8_f[m]? = some (a, kd, n, .inr [(i, v)]) → aw u a (sden (rI (iBs cs).length (1 + nOf cs) cs.length) i) = sden (rI (iBs cs).length (1 + nOf cs) cs.length) v := by
      intro m a kd n i v hm
      obtain ⟨ct, w1, w2⟩ := sfit_cell hS3 (List.mem_of_getElem? hm)
      rw [aw_of w1]
      exact sct_get w2 0 (i, v) rfl rfl rfl
    obtain ⟨u2, p1, p2, p3, p4, p5, p6, p7, p8, p9⟩ := ic_list_f (tc := tc) (u0 := u0) (it := it8) (cs := cs) (e := e) (pl := 0) (cn0 := 0) c_runs0 (by decide) (by decide) hcs h20 (by omega) (by omega) (Q := iQ cs tc 7) (fun u ⟨_, _, ⟨dc, h1, _, h2⟩, _⟩ => ⟨dc, h1, fun i hi => by rw [Nat.zero_add]; exact h2 (by decide) i hi⟩) f u (by omega) hS3 hQ (hrow 4 96 0 6257 (0, []) (31, []) rfl) (hrow 10 102 0 6257 (0, []) (0, []) rfl)
    obtain ⟨c9, k1, k2⟩ := p5
    have hfit : sfit (rI (iBs cs).length (1 + nOf cs) cs.length) opN iT9_f u2 := iS_mk_f (cnt := (0, [2])) (lim := (200, [])) (reg := (0, [])) (sp := (0, [1])) hS3 p2 p3 p4 ⟨c9, k1, k2.1, k2.2.1, by
      rw [k2.2.2.1]
      show 0 + 1 + nOf cs = 0 + (1 + nOf cs + 0)
      omega, k2.2.2.2.1, k2.2.2.2.2.1, by
      rw [k2.2.2.2.2.2.1]
      rfl, k2.2.2.2.2.2.2⟩ (fun q hq => by
        simp only [List.mem_cons, List.not_mem_nil, or_false] at hq
        rcases hq with rfl | rfl | rfl | rfl | rfl
        · exact Or.inr ⟨_, _, rfl, (p9 95 (by decide) 0 (by decide) (fun h => absurd h (by decide))).trans (hrow 3 95 0 6257 (0, []) (4, []) rfl)⟩
        · exact Or.inr ⟨_, _, rfl, (p9 96 (by decide) 0 (by decide) (fun h => absurd h (by decide))).trans (hrow 4 96 0 6257 (0, []) (31, []) rfl)⟩
        · exact Or.inr ⟨_, _, rfl, (p9 99 (by decide) 0 (by decide) (fun h => absurd h (by decide))).trans (hrow 7 99 0 457 (0, []) nN rfl)⟩
        · exact Or.inl rfl
        · refine Or.inr ⟨_, _, rfl, ?_⟩
          show aw u2 105 0 = 0 + (cs.length + 0)
          rw [p8]
          omega)
    refine ⟨u2, ?_, hfit, trivial, fr_tr hfr ⟨p3.1, p3.2.1, fun a ha => p3.2.2 a ?_⟩, (iS_cells_f hfit).1, ?_, ?_, fun _ => p7⟩
    · exact p1
    · cases hk : KsI a with
      | false => rfl
      | true => simp [KsT, hk] at ha
    · rw [p3.2.2 1 rfl]; exact hQ.2.1
    · obtain ⟨dc, h1, h2, h5⟩ := hQ.2.2.1
      obtain ⟨dc2, h3, h4⟩ := p6 dc h1
      exact ⟨dc2, h3, fun _ i hi => (h4 _).trans (h2 (by decide) i hi), fun _ i hi => (h4 _).trans (h5 (by decide) i hi)⟩
  | n + 8, hi => cases hi


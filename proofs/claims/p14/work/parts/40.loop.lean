/-! ===== the loop over the cells ===== -/
def bOf : List (Nat × Nat) → List Nat
  | [] => []
  | c :: t => cBy c.1 c.2 ++ bOf t
def nOf : List (Nat × Nat) → Nat
  | [] => 0
  | c :: t => cCn c.1 + nOf t
def aRows : List Nat := [95, 96, 99, 100, 105]
/-- what stands in the rows for the cell at a place -/
def CF (cn0 : Nat) (u : dH) (pos k v : Nat) : Prop := ∀ a ∈ aRows, ∀ e ∈ cFa cn0 k v a, aw u a (sden (rc 0 pos 0) e.1) = sden (rc 0 pos 0) e.2
def PF (cn0 : Nat) (u : dH) : Nat → List (Nat × Nat) → Prop
  | _, [] => True
  | pos, c :: t => CF cn0 u pos c.1 c.2 ∧ PF cn0 u (pos + cCn c.1) t
theorem cCn_pos (k : Nat) : 1 ≤ cCn k ∧ cCn k ≤ 2 := by
  unfold cCn
  split <;> decide
theorem cCn_4 {k : Nat} (h : k < 5) (h4 : cCn k = 1) : k ≠ 4 := by
  intro w
  subst w
  cases h4
theorem cFa_at {cn0 k v a off pos rem : Nat} {e : sN × sN} (he : e ∈ cFa cn0 k v a) : sden (rc off pos rem) e.1 = sden (rc 0 pos 0) e.1 ∧ sden (rc off pos rem) e.2 = sden (rc 0 pos 0) e.2 ∧ cn0 + pos ≤ sden (rc 0 pos 0) e.1 ∧ sden (rc 0 pos 0) e.1 < cn0 + pos + cCn k := by
  have h0 : ∀ x c, x ≤ c → sden (rc 0 pos 0) (cn0 + x, [2]) < cn0 + pos + (c + 1) := by
    intro x c h
    show cn0 + x + (pos + 0) < _
    omega
  have h1 : ∀ x, cn0 + pos ≤ sden (rc 0 pos 0) (cn0 + x, [2]) := by
    intro x
    show _ ≤ cn0 + x + (pos + 0)
    omega
  have hc := cCn_pos k
  have h2 : sden (rc 0 pos 0) (cn0 + 0, [2]) < cn0 + pos + cCn k := by
    show cn0 + 0 + (pos + 0) < _
    omega
  unfold cFa at he
  split at he
  all_goals simp only [List.mem_cons, List.not_mem_nil, or_false] at he
  all_goals first
    | exact he.elim
    | (rcases he with rfl | rfl
       · first | exact ⟨rfl, rfl, h1 0, h0 0 1 (by decide)⟩ | exact ⟨rfl, rfl, h1 1, h0 1 1 (by decide)⟩
       · first | exact ⟨rfl, rfl, h1 1, h0 1 1 (by decide)⟩ | exact ⟨rfl, rfl, h1 0, h0 0 1 (by decide)⟩)
    | (subst he
       exact ⟨rfl, rfl, h1 0, h2⟩)
theorem cBy_1 {k v : Nat} (hk : k < 5) (hv : v < 16) : 1 ≤ (cBy k v).length ∧ (cBy k v).length ≤ 4 ∧ (cBy k v).getD 0 0 ≠ 255 := by
  rcases (show k = 0 ∨ k = 1 ∨ k = 2 ∨ k = 3 ∨ k = 4 by omega) with rfl | rfl | rfl | rfl | rfl
  · exact ⟨Nat.le_refl 1, (by decide : 1 ≤ 4), (by show v ≠ 255; omega)⟩
  · exact ⟨Nat.le_refl 1, (by decide : 1 ≤ 4), (by show 32 + v ≠ 255; omega)⟩
  · refine ⟨Nat.succ_le_succ (Nat.zero_le _), ?_, (by show 96 + v % 4 ≠ 255; omega)⟩
    show (List.replicate (v % 4) 97).length + 1 ≤ 4
    rw [List.length_replicate]
    omega
  · exact ⟨Nat.le_refl 1, (by decide : 1 ≤ 4), (by show 244 + v % 2 ≠ 255; omega)⟩
  · exact ⟨(by decide : 1 ≤ 2), (by decide : 2 ≤ 4), (by show 129 ≠ 255; decide)⟩
theorem getD_l {l r : List Nat} {j : Nat} (h : j < l.length) : (l ++ r).getD j 0 = l.getD j 0 := by
  rw [List.getD_eq_getElem?_getD, List.getElem?_append_left h, ← List.getD_eq_getElem?_getD]
theorem getD_r {l r : List Nat} {j : Nat} : (l ++ r).getD (l.length + j) 0 = r.getD j 0 := by
  rw [List.getD_eq_getElem?_getD, List.getElem?_append_right (by omega), ← List.getD_eq_getElem?_getD, show l.length + j - l.length = j by omega]
def kdI : List (Nat × Nat) := [(93, 6), (0, 16), (106, 10)]
set_option maxHeartbeats 4000000 in
theorem pass {pl cn0 : Nat} (hr : (cells.all fun e => sAll (cRun pl cn0 e.1 e.2) (cChk pl cn0 e.1 e.2)) = true) (hpl : pl ≤ 15000) (hcn : cn0 ≤ 256) {D : Nat → Nat} {F p : Nat} (cs : List (Nat × Nat)) :
    ∀ (k off pos : Nat) (u : dH) (T : dL), (∀ c ∈ cs, c.1 < 5 ∧ c.2 < 16) → k + cs.length ≤ 20 → 1 ≤ off → off + (bOf cs).length ≤ 90 → 1 ≤ pos → pos + nOf cs ≤ 60 → (T = (7, .inl (pl + off)) :: lR cn0 p ∨ ∃ e, T = (9, .inl e) :: (7, .inl (pl + off)) :: lR cn0 p) →
    hwf u → kdG kdI u → iSz u → aw u 102 cn0 = 0 → (∃ c, hat u 93 = some (6, 20, c) ∧ iF c pl cn0 (cn0 + pos) (pl + off + (bOf cs).length + 1)) → (∃ dc, hat u 94 = some (2, 18000, dc) ∧ ∀ j, wd 8 dc j = D j) → (∀ j, j < (bOf cs).length → D (pl + off + j) = (bOf cs).getD j 0) → D (pl + off + (bOf cs).length) = 255 →
    ∃ u2, drun dProg (F + 9 * cs.length + 410) 56 59 47 ((8, .inl k) :: T) [] u = some (some (.inl (pl + off + (bOf cs).length + 1)), u2) ∧ hwf u2 ∧ fr KsI u u2 ∧ iSz u2 ∧ (∃ c, hat u2 93 = some (6, 20, c) ∧ iF c pl cn0 (cn0 + pos + nOf cs) (pl + off + (bOf cs).length + 1)) ∧ (∃ dc, hat u2 94 = some (2, 18000, dc) ∧ ∀ j, wd 8 dc j = D j) ∧
      PF cn0 u2 pos cs ∧ aw u2 105 cn0 = k + cs.length ∧ ∀ a ∈ aRows, ∀ j, j < cn0 + pos → (a = 105 → j ≠ cn0) → aw u2 a j = aw u a j := by
  induction cs with
  | nil =>
    intro k off pos u T _ hk h1 h2 h3 h4 hT hw hkd hsz h102 h93 h94 hD hE
    obtain ⟨c, c1, c2⟩ := h93
    obtain ⟨dc, d1, d2⟩ := h94
    obtain ⟨cn, n1⟩ := hsz (105, 1, 6257) (by decide)
    have hst : iSt (pl + off + 0 + 1) dc u := ⟨20, c, c1, c2.1 0 (by decide), c2.2.2.2.2.2.1, d1, c2.1 11 (by decide)⟩
    have hk : k + 0 ≤ 20 := hk
    have h2 : off + 0 ≤ 90 := h2
    have hE : D (pl + off) = 255 := hE
    have hL := llast (G := fun z => ∃ u2 : dH, z = some (some (.inl (pl + off + 1)), u2) ∧ u2.1 = u.1 ∧ u2.2.1 = u.2.1 ∧ hwf u2 ∧ ∀ j, hat u2 j = if j = 105 then some (1, 6257, wst 64 cn cn0 k) else hat u j) (ks := []) (T := T) (k := k) (q := pl + off) (i := cn0) (p := p) (stop := pl + off + 0 + 1) (dc := dc) (cn := cn) (F := F + 405) (d := 55) (u := u) hT (by omega) hw hst n1 (by omega) (by omega) (by omega) (by rw [d2]; exact hE) (fun u2 z1 z2 w2 a2 => ⟨u2, rfl, z1, z2, w2, a2⟩)
    obtain ⟨u2, e2, z1, z2, w2, a2⟩ := hL
    refine ⟨u2, e2, w2, ⟨z1, z2, fun a ha => ?_⟩, fun q hq => ?_, ⟨c, ?_, c2⟩, ⟨dc, ?_, d2⟩, trivial, ?_, fun a ha j hj hne => ?_⟩
    · rw [a2 a, if_neg (fun w => by rw [w] at ha; exact absurd ha (by decide))]
    · by_cases e : q.1 = 105
      · have : q = (105, 1, 6257) := by
          simp only [iRows, List.mem_cons, List.not_mem_nil, or_false] at hq
          rcases hq with rfl | rfl | rfl | rfl | rfl | rfl | rfl | rfl | rfl | rfl | rfl <;> first | rfl | exact absurd e (by decide)
        subst this
        exact ⟨_, by rw [a2 105, if_pos rfl]⟩
      · obtain ⟨ct, hct⟩ := hsz q hq
        exact ⟨ct, by rw [a2 q.1, if_neg e]; exact hct⟩
    · rw [a2 93, if_neg (by decide)]; exact c1
    · rw [a2 94, if_neg (by decide)]; exact d1
    · rw [aw_of (kd := 1) (n := 6257) (ct := wst 64 cn cn0 k) (by rw [a2 105, if_pos rfl])]
      show wd 64 (wst 64 cn cn0 k) cn0 = k + 0
      rw [wd_wst _ (by omega), if_pos rfl]
      rfl
    · by_cases e : a = 105
      · subst e
        rw [aw_of (kd := 1) (n := 6257) (ct := wst 64 cn cn0 k) (by rw [a2 105, if_pos rfl]), aw_of n1]
        show wd 64 (wst 64 cn cn0 k) j = wd 64 cn j
        rw [wd_wst _ (by omega), if_neg (hne rfl)]
      · unfold aw
        rw [a2 a, if_neg e]
  | cons c t ih =>
    intro k off pos u T hcs hk h1 h2 h3 h4 hT hw hkd hsz h102 h93 h94 hD hE
    obtain ⟨hk5, hv16⟩ := hcs c List.mem_cons_self
    obtain ⟨l1, l2, l3⟩ := cBy_1 hk5 hv16
    have hcc := cCn_pos c.1
    have hbl : (bOf (c :: t)).length = (cBy c.1 c.2).length + (bOf t).length := List.length_append
    have hnl : nOf (c :: t) = cCn c.1 + nOf t := rfl
    have hcl : (c :: t).length = t.length + 1 := rfl
    rw [hbl] at h2 h93 hE hD ⊢
    rw [hnl] at h4 ⊢
    rw [hcl] at hk ⊢
    obtain ⟨c9, c1, c2⟩ := h93
    obtain ⟨dc, d1, d2⟩ := h94
    have hb0 : D (pl + off) ≠ 255 := by
      have := hD 0 (by omega)
      rw [Nat.add_zero] at this
      rw [this]
      show (cBy c.1 c.2 ++ bOf t).getD 0 0 ≠ 255
      rw [getD_l (by omega)]
      exact l3
    obtain ⟨u1, e1, w1, f1, s1, l102, k1, ⟨dc1, g1, g2⟩, p1⟩ := cell_step hr hk5 hv16 (u := u) (off := off) (pos := pos) (rem := (bOf t).length + 1) (F := F + 9 * t.length + 410 + 3) (dc := dc) ⟨h1, by omega⟩ ⟨h3, by omega⟩ ⟨by omega, by omega⟩ (by omega) hw hkd
      ⟨c9, c1, by rw [show pl + (cBy c.1 c.2).length + (off + ((bOf t).length + 1)) = pl + off + ((cBy c.1 c.2).length + (bOf t).length) + 1 by omega]; exact c2⟩ d1 (fun j hj => by
        rw [d2, hD j (by omega)]
        exact getD_l hj) hsz h102
    have hst : iSt (pl + off + ((cBy c.1 c.2).length + (bOf t).length) + 1) dc u := ⟨20, c9, c1, c2.1 0 (by decide), c2.2.2.2.2.2.1, d1, c2.1 11 (by decide)⟩
    obtain ⟨c10, k2, k3⟩ := k1
    have hkd1 : kdG kdI u1 := by
      intro e he
      simp only [kdI, List.mem_cons, List.not_mem_nil, or_false] at he
      rcases he with rfl | rfl | rfl
      · exact ⟨_, _, k2⟩
      · rw [f1.2.2 0 rfl]; exact hkd (0, 16) (by decide)
      · rw [f1.2.2 106 rfl]; exact hkd (106, 10) (by decide)
    have hcf : ∀ a ∈ aRows, ∀ e ∈ cFa cn0 c.1 c.2 a, aw u1 a (sden (rc 0 pos 0) e.1) = sden (rc 0 pos 0) e.2 := by
      intro a ha e he
      have hz : ∀ kd n, (a, kd, n, .inr (cFa cn0 c.1 c.2 a)) ∈ cS pl cn0 (cn0 + cCn c.1) (cBy c.1 c.2) (cFa cn0 c.1 c.2) → aw u1 a (sden (rc 0 pos 0) e.1) = sden (rc 0 pos 0) e.2 := by
        intro kd n hm
        obtain ⟨ct0, ct, -, y2, y3⟩ := p1 a kd n _ hm (by
          simp only [aRows, List.mem_cons, List.not_mem_nil, or_false] at ha
          rcases ha with rfl | rfl | rfl | rfl | rfl <;> rfl)
        rw [aw_of y2]
        obtain ⟨q1, q2, -⟩ := cFa_at (off := off) (pos := pos) (rem := (bOf t).length + 1) he
        rw [← q1, ← q2]
        exact y3.2.1 e he
      simp only [aRows, List.mem_cons, List.not_mem_nil, or_false] at ha
      rcases ha with rfl | rfl | rfl | rfl | rfl
      · exact hz 0 6257 (List.mem_of_getElem? (i := 2) rfl)
      · exact hz 0 6257 (List.mem_of_getElem? (i := 3) rfl)
      · exact hz 0 457 (List.mem_of_getElem? (i := 6) rfl)
      · exact hz 0 6257 (List.mem_of_getElem? (i := 7) rfl)
      · exact hz 1 6257 (List.mem_of_getElem? (i := 12) rfl)
    have hkeep : ∀ a ∈ aRows, ∀ j, j < cn0 + pos → aw u1 a j = aw u a j := by
      intro a ha j hj
      have hz : ∀ kd n, (a, kd, n, .inr (cFa cn0 c.1 c.2 a)) ∈ cS pl cn0 (cn0 + cCn c.1) (cBy c.1 c.2) (cFa cn0 c.1 c.2) → aw u1 a j = aw u a j := by
        intro kd n hm
        obtain ⟨ct0, ct, y1, y2, y3⟩ := p1 a kd n _ hm (by
          simp only [aRows, List.mem_cons, List.not_mem_nil, or_false] at ha
          rcases ha with rfl | rfl | rfl | rfl | rfl <;> rfl)
        rw [aw_of y2, aw_of y1]
        refine y3.2.2 j fun e he w => ?_
        obtain ⟨q1, -, q3, -⟩ := cFa_at (off := off) (pos := pos) (rem := (bOf t).length + 1) he
        omega
      simp only [aRows, List.mem_cons, List.not_mem_nil, or_false] at ha
      rcases ha with rfl | rfl | rfl | rfl | rfl
      · exact hz 0 6257 (List.mem_of_getElem? (i := 2) rfl)
      · exact hz 0 6257 (List.mem_of_getElem? (i := 3) rfl)
      · exact hz 0 457 (List.mem_of_getElem? (i := 6) rfl)
      · exact hz 0 6257 (List.mem_of_getElem? (i := 7) rfl)
      · exact hz 1 6257 (List.mem_of_getElem? (i := 12) rfl)
    obtain ⟨u2, e2, w2, f2, s2, k4, g3, p2, p3, p4⟩ := ih (k + 1) (off + (cBy c.1 c.2).length) (pos + cCn c.1) u1 ((9, .inl 1) :: (7, .inl (pl + off + (cBy c.1 c.2).length)) :: lR cn0 p) (fun c h => hcs c (List.mem_cons_of_mem _ h)) (by omega) (by omega) (by omega) (by omega) (by omega) (Or.inr ⟨1, by rw [Nat.add_assoc]⟩) w1 hkd1 s1 l102
      ⟨c10, k2, by
        rw [show cn0 + (pos + cCn c.1) = cn0 + cCn c.1 + pos by omega, show pl + (off + (cBy c.1 c.2).length) + (bOf t).length + 1 = pl + (cBy c.1 c.2).length + (off + ((bOf t).length + 1)) by omega]
        exact k3⟩ ⟨dc1, g1, fun j => (g2 j).trans (d2 j)⟩ (fun j hj => by
        have h9 := hD ((cBy c.1 c.2).length + j) (by omega)
        rw [show pl + (off + (cBy c.1 c.2).length) + j = pl + off + ((cBy c.1 c.2).length + j) by omega, h9]
        exact getD_r) (by
        rw [show pl + (off + (cBy c.1 c.2).length) + (bOf t).length = pl + off + ((cBy c.1 c.2).length + (bOf t).length) by omega]
        exact hE)
    have hres := lone (G := fun z => z = some (some (.inl (pl + off + ((cBy c.1 c.2).length + (bOf t).length) + 1)), u2)) (ks := []) (T := T) (k := k) (q := pl + off) (q2 := pl + off + (cBy c.1 c.2).length) (i := cn0) (p := p) (F := F + 9 * t.length + 410) (d := 55) hT (by omega) hst (by omega) (by omega) (by rw [d2]; exact hb0) (by omega) e1 (by
      show drun dProg (F + 9 * t.length + 410) 56 59 47 _ [] u1 = _
      rw [e2, show pl + (off + (cBy c.1 c.2).length) + (bOf t).length + 1 = pl + off + ((cBy c.1 c.2).length + (bOf t).length) + 1 by omega])
    refine ⟨u2, ?_, w2, fr_tr f1 f2, s2, ?_, g3, ⟨fun a ha e he => ?_, p2⟩, by omega, fun a ha j hj hne => ?_⟩
    · rw [show F + 9 * (t.length + 1) + 410 = F + 9 * t.length + 410 + 9 by omega]
      exact hres
    · obtain ⟨c11, k5, k6⟩ := k4
      refine ⟨c11, k5, ?_⟩
      rw [show cn0 + pos + (cCn c.1 + nOf t) = cn0 + (pos + cCn c.1) + nOf t by omega, show pl + off + ((cBy c.1 c.2).length + (bOf t).length) + 1 = pl + (off + (cBy c.1 c.2).length) + (bOf t).length + 1 by omega]
      exact k6
    · obtain ⟨-, -, q3, q4⟩ := cFa_at (off := 0) (pos := pos) (rem := 0) he
      rw [p4 a ha _ (by omega) (fun _ => by omega)]
      exact hcf a ha e he
    · rw [p4 a ha j (by omega) hne]
      exact hkeep a ha j hj

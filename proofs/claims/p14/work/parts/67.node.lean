/-! ===== node: what it tells ===== -/
def JS (cs : List (Nat × Nat)) (b : Nat) (u : dH) : Prop := JJ u ∧ RS cs u ∧ MI (T14 cs b) u
/-- what lies behind the object is as it was -/
def FQ (u u2 : dH) : Prop := u2.1 = u.1 ∧ u2.2.1 = u.2.1 ∧ ∀ a, 126 ≤ a → hat u2 a = hat u a
theorem tj_126 : ∀ q ∈ tj, q.1 < 126 := by decide
theorem KP_FQ {u u2 : dH} (h : KP u u2) : FQ u u2 := ⟨h.1, h.2.1, fun a ha => h.2.2.2 a (by
  unfold opM
  rw [beq_f (by omega), beq_f (by omega)]; rfl) fun q hq w => by have := tj_126 q hq; omega⟩
def nW : List Nat := [0, 93, 95, 99, 105]
theorem tj_nW : ∀ a kd n o, (a, kd, n, o) ∈ tj → a ∈ nW → o = none := by
  have h : ∀ q ∈ tj, q.1 ∈ nW → q.2.2.2 = none := by decide
  exact fun a kd n o h1 h2 => h (a, kd, n, o) h1 h2
theorem aR_lt : ∀ a ∈ aRows, a < 126 := by decide
theorem kdJ_lt : ∀ e ∈ kdJ, e.1 < 126 := by decide
theorem opM_lt {q : Nat} (h : opM q = true) : q < 126 := by
  unfold opM at h
  rcases Bool.or_eq_true _ _ ▸ h with h | h
  · rw [Nat.eq_of_beq_eq_true h]; decide
  · rw [Nat.eq_of_beq_eq_true h]; decide
/-- a run that writes nothing: five rows were read -/
theorem JS_same {cs : List (Nat × Nat)} {b : Nat} {u u2 : dH} (h : JS cs b u) (hw : hwf u2) (he : ∀ a, a < 126 → a ∉ nW → hat u2 a = hat u a) (hn : ∀ a ∈ nW, ∀ kd n ct, hat u a = some (kd, n, ct) → ∃ ct2, hat u2 a = some (kd, n, ct2) ∧ ∀ j, wd (kw kd) ct2 j = wd (kw kd) ct j) : JS cs b u2 := by
  obtain ⟨hJ, hR, hM⟩ := h
  have haw : ∀ a j, a < 126 → (∃ c, hat u a = some c) → aw u2 a j = aw u a j := by
    intro a j h126 ⟨⟨kd, n, ct⟩, hc⟩
    by_cases ha : a ∈ nW
    · obtain ⟨ct2, h1, h2⟩ := hn a ha kd n ct hc
      rw [aw_of h1, aw_of hc]
      exact h2 j
    · exact aw_same (he a h126 ha) j
  obtain ⟨j1, j66, j0, j93, j108, jk, c99, j99⟩ := hJ
  have ex : ∀ a kd n o, (a, kd, n, o) ∈ tj → ∃ c, hat u a = some c := fun a kd n o h => by
    obtain ⟨ct, h1, -⟩ := j1.2 _ _ _ _ h
    exact ⟨_, h1⟩
  have x0 := ex 0 16 12 none (by decide)
  have x93 := ex 93 6 20 none (by decide)
  have x66 := ex 66 5 13 none (by decide)
  have x108 := ex 108 7 17 none (by decide)
  have x95 := ex 95 0 6257 none (by decide)
  have x96 := ex 96 0 6257 none (by decide)
  have x100 := ex 100 0 6257 none (by decide)
  have x105 := ex 105 1 6257 none (by decide)
  refine ⟨⟨⟨hw, fun a kd n o ho => ?_⟩, ⟨j66.1, fun e he2 => (haw 66 _ (by decide) x66).trans (j66.2 e he2)⟩, ⟨j0.1, fun e he2 => (haw 0 _ (by decide) x0).trans (j0.2 e he2)⟩, fun e he2 hne => (haw 93 _ (by decide) x93).trans (j93 e he2 hne), ⟨j108.1, fun e he2 => (haw 108 _ (by decide) x108).trans (j108.2 e he2)⟩, fun e he2 => ?_, ?_⟩, ⟨PF_keep (fun a ha j => haw a j (aR_lt a ha) ?_) cs 1 hR.1, (haw 95 _ (by decide) x95).trans hR.2.1, (haw 100 _ (by decide) x100).trans hR.2.2.1, (haw 93 _ (by decide) x93).trans hR.2.2.2.1, (haw 105 _ (by decide) x105).trans hR.2.2.2.2⟩, MI_of (fun q hq => he q (opM_lt hq) ?_) hM⟩
  · obtain ⟨ct, h1, h2⟩ := j1.2 _ _ _ _ ho
    by_cases ha : a ∈ nW
    · obtain ⟨ct2, g1, -⟩ := hn a ha _ _ _ h1
      have := tj_nW _ _ _ _ ho ha
      subst this
      exact ⟨ct2, g1, fun c hc => by cases hc⟩
    · exact ⟨ct, (he a (tj_126 (a, kd, n, o) ho) ha).trans h1, h2⟩
  · obtain ⟨n, ct, h1⟩ := jk e he2
    by_cases ha : e.1 ∈ nW
    · obtain ⟨ct2, g1, -⟩ := hn _ ha _ _ _ h1
      exact ⟨n, ct2, g1⟩
    · exact ⟨n, ct, (he _ (kdJ_lt e he2) ha).trans h1⟩
  · obtain ⟨ct2, g1, -⟩ := hn 99 (by decide) _ _ _ j99
    exact ⟨ct2, g1⟩
  · simp only [aRows, List.mem_cons, List.not_mem_nil, or_false] at ha
    rcases ha with rfl | rfl | rfl | rfl | rfl
    · exact x95
    · exact x96
    · exact ⟨_, j99⟩
    · exact x100
    · exact x105
  · intro hm
    unfold opM at hq
    simp only [nW, List.mem_cons, List.not_mem_nil, or_false] at hm
    rcases hm with rfl | rfl | rfl | rfl | rfl <;> exact absurd hq (by decide)
/-- only the object's own cells count -/
theorem nW_lt : ∀ a ∈ nW, a < 126 := by decide
theorem JS_op {cs : List (Nat × Nat)} {b : Nat} {u u2 : dH} (he : ∀ a, a < 126 → hat u2 a = hat u a) (hw : hwf u2) (h : JS cs b u) : JS cs b u2 := JS_same h hw (fun a h1 _ => he a h1) fun a ha kd n ct hc => ⟨ct, (he a (nW_lt a ha)).trans hc, fun _ => rfl⟩
def chkN (S : sH) (v0 : sV) (v : Option sV) (S2 : sH) : Bool := @decide (v = some v0) (dqO _ _) && @decide (S2 = S) (dqH _ _)
def sN0 : sH := [(0, 16, 12, .inr o0), (93, 6, 20, .inr (o93 (1, [2]))), (95, 0, 6257, .inr [((0, []), (4, []))]), (105, 1, 6257, .inr [((0, []), (0, [3]))])]
def sN5 : sH := [(0, 16, 12, .inr o0), (93, 6, 20, .inr (o93 (1, [1, 2]))), (95, 0, 6257, .inr [((0, [1]), (0, [4]))]), (99, 0, 457, .inr [((0, [1]), (0, []))])]
def kdn : List (Nat × Nat) := [(0, 16), (93, 6)]
noncomputable def runN (k w : sN) (S : sH) : sR := sex B5 fx0 (fun a => dalk kdn a) pghm st0 orc0 2000 20 2000 500 60 260 0 (0, 0) [] [(0, .inr (.inr 1)), (1, .inl k), (2, .inl w)] [] S [] []
set_option maxRecDepth 100000 in
theorem n_0 : sAll (runN (0, []) (1, []) sN0) (chkN sN0 (.inr (.inl (0, [3])))) = true := by decide +kernel
set_option maxRecDepth 100000 in
theorem n_5 : sAll (runN (0, [1]) (5, []) sN5) (chkN sN5 (.inr (.inl (0, [])))) = true := by decide +kernel
theorem WN_of {ρ : Nat → Nat} {g : dH} (hB : sok ρ B5) (hk : kdG kdn g) : sFor B5 fx0 (fun a => dalk kdn a) pgm pghm orc0 2000 20 dProg ρ opN g IT :=
  ⟨hB, fun _ _ _ _ h => (nomatch (show (none : Option sN) = some _ from h)), pgm_ok, pghm_ok, fun _ _ _ _ _ => trivial, fun a kd h S u hS _ => kd_keep hS rfl (hk _ (dalk_mem h)), fun _ _ _ h => (nomatch (show (none : Option (List (Option sV))) = some _ from h))⟩
theorem node_of {cs : List (Nat × Nat)} {b : Nat} {ρ : Nat → Nat} {u : dH} {k w : sN} {S : sH} {v : sV} (hJS : JS cs b u) (hB : sok ρ B5) (hr : sAll (runN k w S) (chkN S v) = true) (hS : sfit ρ opN S u) (hk : ∀ q ∈ S, q.1 ∈ nW) (e : Nat) : ∃ u2, drun dProg (500 + e) 60 260 0 (slD ρ [(0, .inr (.inr 1)), (1, .inl k), (2, .inl w)]) [] u = some (some (svd ρ v), u2) ∧ JS cs b u2 ∧ FQ u u2 := by
  have hkd : kdG kdn u := by
    intro q hq
    simp only [kdn, List.mem_cons, List.not_mem_nil, or_false] at hq
    rcases hq with rfl | rfl
    · obtain ⟨ct, h, -⟩ := hJS.1.1.2 0 16 12 none (by decide)
      exact ⟨_, ct, h⟩
    · obtain ⟨ct, h, -⟩ := hJS.1.1.2 93 6 20 none (by decide)
      exact ⟨_, ct, h⟩
  obtain ⟨v2, S2, u2, h1, h2, h3, -⟩ := sex_all (WN_of hB hkd) hr e hS trivial
  unfold chkN at h1
  simp only [Bool.and_eq_true] at h1
  obtain ⟨g1, g2⟩ := h1
  have g1 := @of_decide_eq_true _ (dqO _ _) g1
  have g2 := @of_decide_eq_true _ (dqH _ _) g2
  subst g1 g2
  have hno : ∀ a, a ∉ nW → hat u2 a = hat u a := fun a ha => h3.2.2.2.2.2.1 a rfl fun q hq w => ha (w ▸ hk q hq)
  refine ⟨u2, h2, JS_same hJS h3.1 (fun a _ ha => hno a ha) fun a ha kd n ct hc => ?_, h3.2.1, h3.2.2.1, fun a ha => hno a fun hm => ?_⟩
  · by_cases hin : ∃ q ∈ S2, q.1 = a
    · obtain ⟨⟨qa, qk, qn, qX⟩, hq, rfl⟩ := hin
      obtain ⟨ct0, ct1, y1, y2, y3⟩ := h3.2.2.2.2.2.2 _ _ _ _ hq
      obtain ⟨ct9, z1, z2⟩ := sfit_cell hS hq
      dsimp only at hc
      rw [hc] at y1 z1
      cases y1
      cases z1
      refine ⟨ct1, y2, fun j => ?_⟩
      cases qX with
      | inl c =>
        have e1 : ct1 = c := y3
        have e2 : ct = c := z2
        rw [e1, e2]
      | inr O =>
        by_cases hj : ∃ e9 ∈ O, sden ρ e9.1 = j
        · obtain ⟨e9, he9, rfl⟩ := hj
          exact (y3.2.1 e9 he9).trans (z2.2.1 e9 he9).symm
        · exact y3.2.2 j fun e9 he9 w => hj ⟨e9, he9, w⟩
    · exact ⟨ct, (h3.2.2.2.2.2.1 a rfl fun q hq w => hin ⟨q, hq, w⟩).trans hc, fun _ => rfl⟩
  · simp only [nW, List.mem_cons, List.not_mem_nil, or_false] at hm
    omega
theorem sct_in {ρ : Nat → Nat} {u : dH} {a kd n ct : Nat} {O : List (sN × sN)} (h : hat u a = some (kd, n, ct)) (ho : ovP u a (den ρ O)) : ∃ ct, hat u a = some (kd, n, ct) ∧ sct ρ (kw kd) ct (.inr O) ct := ⟨ct, h, sct_ov ho h⟩
theorem node_len {cs : List (Nat × Nat)} (hc : csOK cs) {b : Nat} {u : dH} (h : JS cs b u) (e : Nat) : ∃ u2, drun dProg (500 + e) 60 260 0 [(0, .inr (.inr 1)), (1, .inl 0), (2, .inl 1)] [] u = some (some (.inr (.inl cs.length)), u2) ∧ JS cs b u2 ∧ FQ u u2 := by
  have h20 := hc.2
  have hn := nOf_le cs
  have e1 : sden (rj 1 (nOf cs) cs.length 0) (1, [2]) = 1 + nOf cs := rfl
  obtain ⟨c0, x0, -⟩ := h.1.1.2 0 16 12 none (by decide)
  obtain ⟨c93, x93, -⟩ := h.1.1.2 93 6 20 none (by decide)
  obtain ⟨c95, x95, -⟩ := h.1.1.2 95 0 6257 none (by decide)
  obtain ⟨c105, x105, -⟩ := h.1.1.2 105 1 6257 none (by decide)
  have hS : sfit (rj 1 (nOf cs) cs.length 0) opN sN0 u := by
    refine sfit_mk h.1.1.1 (by decide) (fun _ _ => rfl) fun a kd n X hm => ?_
    simp only [sN0, List.mem_cons, List.not_mem_nil, or_false, Prod.mk.injEq] at hm
    rcases hm with ⟨rfl, rfl, rfl, rfl⟩ | ⟨rfl, rfl, rfl, rfl⟩ | ⟨rfl, rfl, rfl, rfl⟩ | ⟨rfl, rfl, rfl, rfl⟩
    · exact sct_in x0 h.1.2.2.1
    · exact sct_in x93 (ov_93 h.1 (by rw [h.2.1.2.2.2.1, e1]))
    · exact sct_in x95 (ovP_1 h.2.1.2.1)
    · refine sct_in x105 (ovP_1 (i := 0) (v := 0 + (cs.length + 0)) ?_)
      rw [h.2.1.2.2.2.2]
      omega
  obtain ⟨u2, g1, g2, g3⟩ := node_of h (rj_ok (by omega) (by omega) h20 (by omega)) n_0 hS (by decide) e
  refine ⟨u2, ?_, g2, g3⟩
  have e2 : svd (rj 1 (nOf cs) cs.length 0) (.inr (.inl (0, [3]))) = .inr (.inl cs.length) := by
    show Sum.inr (Sum.inl (0 + (cs.length + 0))) = _
    rw [Nat.add_zero, Nat.zero_add]
  rw [e2] at g1
  exact g1
theorem CF_99 {u : dH} {p k v : Nat} (hk : k < 5) (h : CF 0 u p k v) : aw u 99 p = 0 := by
  match k, hk with
  | 0, _ => have h1 := h 99 (by decide) ((0, [2]), (0, [])) List.mem_cons_self; simp only [sden, ssum, rc, Nat.zero_add, Nat.add_zero] at h1; exact h1
  | 1, _ => have h1 := h 99 (by decide) ((0, [2]), (0, [])) List.mem_cons_self; simp only [sden, ssum, rc, Nat.zero_add, Nat.add_zero] at h1; exact h1
  | 2, _ => have h1 := h 99 (by decide) ((0, [2]), (0, [])) List.mem_cons_self; simp only [sden, ssum, rc, Nat.zero_add, Nat.add_zero] at h1; exact h1
  | 3, _ => have h1 := h 99 (by decide) ((0, [2]), (0, [])) List.mem_cons_self; simp only [sden, ssum, rc, Nat.zero_add, Nat.add_zero] at h1; exact h1
  | 4, _ => have h1 := h 99 (by decide) ((0, [2]), (0, [])) List.mem_cons_self; simp only [sden, ssum, rc, Nat.zero_add, Nat.add_zero] at h1; exact h1
theorem cMa_le {k : Nat} (h : k < 5) : cMa k ≤ 7 := by
  match k, h with
  | 0, _ => decide
  | 1, _ => decide
  | 2, _ => decide
  | 3, _ => decide
  | 4, _ => decide
theorem node_up {cs : List (Nat × Nat)} (hc : csOK cs) {b k : Nat} {s : Nat × Nat} (hs : cs[k]? = some s) {u : dH} (h : JS cs b u) (e : Nat) : ∃ u2, drun dProg (500 + e) 60 260 0 [(0, .inr (.inr 1)), (1, .inl (atc cs k)), (2, .inl 5)] [] u = some (some (.inr (.inl 0)), u2) ∧ JS cs b u2 ∧ FQ u u2 := by
  obtain ⟨n1, n2, n3, n4, n5, n6, n7, n8, n9, n10⟩ := at_num hc hs
  have hm7 := cMa_le n8
  have hCF := RS_cell h.2.1 hs
  generalize hρ : rj (atc cs k) (nOf cs - atc cs k) 0 (cMa s.1) = ρ
  have hB : sok ρ B5 := by rw [← hρ]; exact rj_ok ⟨n1, n3⟩ (by omega) (by omega) (by omega)
  have p1 : ρ 1 = atc cs k := by rw [← hρ]; rfl
  have p2 : ρ 2 = nOf cs - atc cs k := by rw [← hρ]; rfl
  have p4 : ρ 4 = cMa s.1 := by rw [← hρ]; rfl
  obtain ⟨c0, x0, -⟩ := h.1.1.2 0 16 12 none (by decide)
  obtain ⟨c93, x93, -⟩ := h.1.1.2 93 6 20 none (by decide)
  obtain ⟨c95, x95, -⟩ := h.1.1.2 95 0 6257 none (by decide)
  obtain ⟨c99, x99⟩ := h.1.2.2.2.2.2.2
  have hS : sfit ρ opN sN5 u := by
    refine sfit_mk h.1.1.1 (by decide) (fun _ _ => rfl) fun a kd n X hm => ?_
    simp only [sN5, List.mem_cons, List.not_mem_nil, or_false, Prod.mk.injEq] at hm
    rcases hm with ⟨rfl, rfl, rfl, rfl⟩ | ⟨rfl, rfl, rfl, rfl⟩ | ⟨rfl, rfl, rfl, rfl⟩ | ⟨rfl, rfl, rfl, rfl⟩
    · exact sct_in x0 h.1.2.2.1
    · refine sct_in x93 (ov_93 h.1 ?_)
      rw [h.2.1.2.2.2.1]
      show _ = 1 + (ρ 1 + (ρ 2 + 0))
      omega
    · refine sct_in x95 (ovP_1 (i := 0 + (ρ 1 + 0)) (v := 0 + (ρ 4 + 0)) ?_)
      rw [p1, p4, Nat.add_zero, Nat.zero_add, Nat.add_zero, Nat.zero_add]
      exact CF_95 n8 hCF
    · refine sct_in x99 (ovP_1 (i := 0 + (ρ 1 + 0)) (v := 0) ?_)
      rw [p1, Nat.add_zero, Nat.zero_add]
      exact CF_99 n8 hCF
  obtain ⟨u2, g1, g2, g3⟩ := node_of h hB n_5 hS (by decide) e
  refine ⟨u2, ?_, g2, g3⟩
  have e2 : slD ρ [(0, .inr (.inr 1)), (1, .inl (0, [1])), (2, .inl (5, []))] = [(0, .inr (.inr 1)), (1, .inl (atc cs k)), (2, .inl 5)] := by
    show [(0, _), (1, Sum.inl (0 + (ρ 1 + 0))), (2, _)] = _
    rw [p1, Nat.add_zero, Nat.zero_add]
    rfl
  rw [e2] at g1
  exact g1

/-! ===== from the bytes to judging: states of the object ===== -/
noncomputable def k11 (a kd n : Nat) (l : List (Nat × Nat)) : Bool := match hat kh11 a with
  | some (k2, n2, c) => Nat.beq k2 kd && (Nat.beq n2 n && l.all fun e => Nat.beq (wd (kw kd) c e.1) e.2)
  | none => false
/-- the object's own cells as the constructor left them, but for two -/
def base11 (u : dH) : Prop := ∀ a, 2 ≤ a → a < 126 → hat u a = hat kh11 a
theorem k11_s {a kd n : Nat} {l : List (Nat × Nat)} {u : dH} (h : k11 a kd n l = true) (hn : (l.map (·.1)).Nodup) (hu : hat u a = hat kh11 a) : (∃ ct, hat u a = some (kd, n, ct)) ∧ ovP u a l := by
  unfold k11 at h
  split at h
  · rename_i k2 n2 c hk
    simp only [Bool.and_eq_true] at h
    obtain ⟨h1, h2, h3⟩ := h
    have h1 := Nat.eq_of_beq_eq_true h1
    have h2 := Nat.eq_of_beq_eq_true h2
    subst h1 h2
    have hc := hu.trans hk
    refine ⟨⟨c, hc⟩, hn, fun e he => ?_⟩
    have h4 := Nat.eq_of_beq_eq_true (List.all_eq_true.mp h3 e he)
    have h5 := aw_of hc e.1
    exact h5.trans h4
  · cases h
def o0w : List (Nat × Nat) := [(0, 2), (2, 4294967295), (3, 3), (4, 44), (5, 85), (6, 87), (7, 88), (8, 94), (9, 107), (10, 109), (11, 119)]
/-- the object's fields, but for how much is on the tape -/
def OF0 (u : dH) : Prop := (∃ c, hat u 0 = some (16, 12, c)) ∧ ∀ e ∈ o0w, aw u 0 e.1 = e.2
/-- bytes are being put -/
def BQ (bs : List Nat) (u : dH) : Prop := hwf u ∧ base11 u ∧ OF0 u ∧ PB u 126 bs u
theorem PB_self {g u : dH} {tq : Nat} {bs : List Nat} (h : PB g tq bs u) : PB u tq bs u := by
  obtain ⟨hw, -, -, -, nm, c00, c0, tc, ct, -, -, h1, h2⟩ := h
  exact ⟨hw, rfl, rfl, fun _ _ _ _ => rfl, nm, c0, c0, tc, ct, h1.1, fun _ _ => rfl, h1, h2⟩
theorem OF0_of {u u2 : dH} {nm c00 c0 : Nat} (h : OF0 u) (h0 : hat u 0 = some (16, nm, c00)) (h1 : hat u2 0 = some (16, nm, c0)) (hm : ∀ j, j ≠ 1 → wd 64 c0 j = wd 64 c00 j) : OF0 u2 := by
  obtain ⟨⟨c, hc⟩, hf⟩ := h
  rw [h0] at hc
  cases hc
  refine ⟨⟨c0, h1⟩, fun e he => ?_⟩
  have h3 : e.1 ≠ 1 := by
    have h4 : ∀ e ∈ o0w, e.1 ≠ 1 := by decide
    exact h4 e he
  have h5 := hf e he
  have h6 := aw_of h0 e.1
  have h7 := aw_of h1 e.1
  exact h7.trans ((hm _ h3).trans (h6.symm.trans h5))
theorem BQ_put {bs : List Nat} {u : dH} (h : BQ bs u) (hl : bs.length < 2900) (c f d : Nat) : ∃ u2, drun dProg (f + 19) (Nat.succ (Nat.succ (Nat.succ d))) 272 0 [(0, .inr (.inr 1)), (1, .inr (.inr 127)), (2, .inl c)] [] u = some (none, u2) ∧ BQ (bs ++ [c % 256]) u2 ∧ u2.1 = u.1 ∧ u2.2.1 = u.2.1 ∧ ∀ a, 127 ≤ a → hat u2 a = hat u a := by
  obtain ⟨hw, hb, hf, hp⟩ := h
  obtain ⟨u2, h1, h2⟩ := PB_put (c := c) (f := f) (d := d) hp ⟨by decide, by decide⟩ hl
  have h3 := PB_self h2
  obtain ⟨hw2, z1, z2, hg, nm, c00, c0, tc, ct, h0, hm, hst, -⟩ := h2
  exact ⟨u2, h1, ⟨hw2, fun a ha hb2 => (hg a (by omega) (by omega) (by omega)).trans (hb a ha hb2), OF0_of hf h0 hst.1 hm, h3⟩, z1, z2, fun a ha => hg a (by omega) (by omega) (by omega)⟩
/-- the bytes are all there -/
def CQ (bs : List Nat) (u : dH) : Prop := hwf u ∧ base11 u ∧ OF0 u ∧ aw u 0 1 = bs.length ∧ ∃ tc, hat u 1 = some (2, 3000, tc) ∧ (∀ i, i < bs.length → wd 8 tc i = bs.getD i 0) ∧ (∀ i, bs.length + 20 ≤ i → wd 8 tc i = 0) ∧ wcan 8 3000 tc
theorem CQ_close {bs : List Nat} {u : dH} (h : BQ bs u) (hl : bs.length < 2800) (f d : Nat) : ∃ u2, drun dProg (f + 61) (Nat.succ (Nat.succ (Nat.succ (Nat.succ d)))) 273 0 [(0, .inr (.inr 1)), (1, .inr (.inr 127))] [] u = some (some (.inl 1), u2) ∧ CQ bs u2 ∧ u2.1 = u.1 ∧ u2.2.1 = u.2.1 ∧ ∀ a, 127 ≤ a → hat u2 a = hat u a := by
  obtain ⟨hw, hb, hf, hp⟩ := h
  obtain ⟨u2, h1, h2⟩ := lclose (f := f) (d := d) hp ⟨by decide, by decide⟩ hl
  obtain ⟨hw2, z1, z2, hg, nm, c00, c0, tc, ct, h0, hm, hst, ht, -, t1, t2, t3⟩ := h2
  refine ⟨u2, h1, ⟨hw2, fun a ha hb2 => (hg a (by omega) (by omega) (by omega)).trans (hb a ha hb2), OF0_of hf h0 hst.1 hm, ?_, tc, hst.2.1, t1, t2, t3⟩, z1, z2, fun a ha => hg a (by omega) (by omega) (by omega)⟩
  have h7 := aw_of hst.1 1
  exact h7.trans hst.2.2.2
/-- the ITEM is there -/
def iqR : List (Nat × Nat × Nat) := [(93, 6, 20), (95, 0, 6257), (96, 0, 6257), (99, 0, 457), (100, 0, 6257), (105, 1, 6257)]
def IQ (cs : List (Nat × Nat)) (t : Nat) (tp : Nat → Prop) (u : dH) : Prop := hwf u ∧ (∀ a, 2 ≤ a → a < 126 → KsT a = false → hat u a = hat kh11 a) ∧ OF0 u ∧ aw u 0 1 = t ∧ (∃ c, hat u 106 = some (10, 3, c)) ∧ ovP u 106 [(0, 108), (1, 0), (2, 2)] ∧ RS cs u ∧ (∀ e ∈ den r0 (o93 (0, [])), e.1 ≠ 12 → aw u 93 e.1 = e.2) ∧ (∀ q ∈ iqR, ∃ ct, hat u q.1 = some (q.2.1, q.2.2, ct)) ∧ ∃ tc, hat u 1 = some (2, 3000, tc) ∧ wcan 8 3000 tc ∧ tp tc
theorem PF_ge {u u2 : dH} (h : ∀ a ∈ aRows, ∀ j, 1 ≤ j → aw u2 a j = aw u a j) : ∀ (cs : List (Nat × Nat)) (pos : Nat), 1 ≤ pos → PF 0 u pos cs → PF 0 u2 pos cs := by
  intro cs
  induction cs with
  | nil => exact fun _ _ _ => trivial
  | cons c t ih =>
    intro pos hp h2
    refine ⟨fun a ha e he => ?_, ih _ (by omega) h2.2⟩
    have h3 := cFa_at (off := 0) (pos := pos) (rem := 0) he
    exact (h a ha _ (by omega)).trans (h2.1 a ha e he)
noncomputable def it11 : Bool := k11 106 10 3 [(0, 108), (1, 0), (2, 1)] && (k11 93 6 20 [(0, 95), (1, 96), (2, 97), (3, 98), (4, 99), (5, 100), (6, 101), (7, 102), (8, 103), (9, 104), (10, 105), (11, 106), (12, 0), (13, 3000), (14, 0), (15, 0), (16, 0), (17, 0), (18, 0), (19, 0)] && (k11 95 0 6257 [] && (k11 96 0 6257 [] && (k11 97 0 457 [] && (k11 98 0 457 [] && (k11 99 0 457 [] && (k11 100 0 6257 [] && (k11 101 0 6257 [] && (k11 102 0 6257 [] && (k11 103 0 6257 [] && (k11 104 0 6257 [] && (k11 105 1 6257 [] && k11 94 2 18000 []))))))))))))
set_option maxRecDepth 100000 in
theorem it11_ok : it11 = true := by decide +kernel
theorem sct_ex {ρ : Nat → Nat} {u : dH} {a kd n : Nat} {O : List (sN × sN)} (h : (∃ ct, hat u a = some (kd, n, ct)) ∧ ovP u a (den ρ O)) : ∃ ct, hat u a = some (kd, n, ct) ∧ sct ρ (kw kd) ct (.inr O) ct := by
  obtain ⟨⟨ct, h1⟩, h2⟩ := h
  exact sct_in h1 h2
theorem OF0_ov {u : dH} (h : OF0 u) {t : Nat} (ht : aw u 0 1 = t) : ovP u 0 [(0, 2), (1, t), (2, 4294967295), (3, 3), (4, 44), (5, 85), (6, 87), (7, 88), (8, 94), (9, 107), (10, 109), (11, 119)] := by
  refine ⟨by show List.Nodup [0, 1, 2, 3, 4, 5, 6, 7, 8, 9, 10, 11]; decide, fun e he => ?_⟩
  simp only [List.mem_cons, List.not_mem_nil, or_false] at he
  rcases he with rfl | rfl | rfl | rfl | rfl | rfl | rfl | rfl | rfl | rfl | rfl | rfl
  · exact h.2 (0, 2) (by decide)
  · exact ht
  · exact h.2 (2, 4294967295) (by decide)
  · exact h.2 (3, 3) (by decide)
  · exact h.2 (4, 44) (by decide)
  · exact h.2 (5, 85) (by decide)
  · exact h.2 (6, 87) (by decide)
  · exact h.2 (7, 88) (by decide)
  · exact h.2 (8, 94) (by decide)
  · exact h.2 (9, 107) (by decide)
  · exact h.2 (10, 109) (by decide)
  · exact h.2 (11, 119) (by decide)
theorem ov_OF0 {u : dH} {t : Nat} {c : Nat} (hc : hat u 0 = some (16, 12, c)) (h : ovP u 0 [(0, 2), (1, t), (2, 4294967295), (3, 3), (4, 44), (5, 85), (6, 87), (7, 88), (8, 94), (9, 107), (10, 109), (11, 119)]) : OF0 u ∧ aw u 0 1 = t := by
  refine ⟨⟨⟨c, hc⟩, fun e he => h.2 e ?_⟩, h.2 (1, t) (by simp)⟩
  simp only [o0w, List.mem_cons, List.not_mem_nil, or_false] at he ⊢
  rcases he with rfl | rfl | rfl | rfl | rfl | rfl | rfl | rfl | rfl | rfl | rfl <;> simp
/-- item(), over the bytes of the cells -/
theorem IQ_item {cs : List (Nat × Nat)} (hc : csOK cs) {u : dH} (h : CQ (iBs cs) u) (e : Nat) : ∃ u2, drun dProg (3000 + e) 60 259 0 [(0, .inr (.inr 1))] [] u = some (some (.inl (1 + nOf cs)), u2) ∧ IQ cs 0 (fun tc => ∀ i, 180 ≤ i → wd 8 tc i = 0) u2 ∧ u2.1 = u.1 ∧ u2.2.1 = u.2.1 ∧ ∀ a, 126 ≤ a → hat u2 a = hat u a := by
  obtain ⟨hw, hb, hf, htp, tc, t0, t1, t2, t3⟩ := h
  have hcs := hc.1
  have h20 := hc.2
  obtain ⟨hl1, hl2⟩ := bOf_len hcs
  have hlen := iBs_len cs
  have hk := it11_ok
  unfold it11 at hk
  simp only [Bool.and_eq_true] at hk
  obtain ⟨m106, m93, m95, m96, m97, m98, m99, m100, m101, m102, m103, m104, m105, m94⟩ := hk
  obtain ⟨c0, hc0⟩ := hf.1
  have hS : sfit (rI (iBs cs).length (1 + nOf cs) cs.length) opN (iS_f (0, [1]) (1, []) it0 [] [] [] [] [] []) u := by
    refine sfit_mk hw (by show List.Nodup [0, 106, 93, 95, 96, 97, 98, 99, 100, 101, 102, 103, 104, 105]; decide) (fun _ _ => rfl) fun a kd n X hm => ?_
    simp only [iS_f, it0, itO, List.mem_cons, List.not_mem_nil, or_false, Prod.mk.injEq] at hm
    rcases hm with ⟨rfl, rfl, rfl, rfl⟩ | ⟨rfl, rfl, rfl, rfl⟩ | ⟨rfl, rfl, rfl, rfl⟩ | ⟨rfl, rfl, rfl, rfl⟩ | ⟨rfl, rfl, rfl, rfl⟩ | ⟨rfl, rfl, rfl, rfl⟩ | ⟨rfl, rfl, rfl, rfl⟩ | ⟨rfl, rfl, rfl, rfl⟩ | ⟨rfl, rfl, rfl, rfl⟩ | ⟨rfl, rfl, rfl, rfl⟩ | ⟨rfl, rfl, rfl, rfl⟩ | ⟨rfl, rfl, rfl, rfl⟩ | ⟨rfl, rfl, rfl, rfl⟩ | ⟨rfl, rfl, rfl, rfl⟩
    · refine sct_in hc0 (OF0_ov hf ?_)
      show aw u 0 1 = 0 + ((iBs cs).length + 0)
      rw [htp, Nat.add_zero, Nat.zero_add]
    · have x := k11_s m106 (by decide) (hb 106 (by decide) (by decide)); exact sct_ex x
    · have x := k11_s m93 (by decide) (hb 93 (by decide) (by decide)); exact sct_ex x
    · have x := k11_s m95 (by decide) (hb 95 (by decide) (by decide)); exact sct_ex x
    · have x := k11_s m96 (by decide) (hb 96 (by decide) (by decide)); exact sct_ex x
    · have x := k11_s m97 (by decide) (hb 97 (by decide) (by decide)); exact sct_ex x
    · have x := k11_s m98 (by decide) (hb 98 (by decide) (by decide)); exact sct_ex x
    · have x := k11_s m99 (by decide) (hb 99 (by decide) (by decide)); exact sct_ex x
    · have x := k11_s m100 (by decide) (hb 100 (by decide) (by decide)); exact sct_ex x
    · have x := k11_s m101 (by decide) (hb 101 (by decide) (by decide)); exact sct_ex x
    · have x := k11_s m102 (by decide) (hb 102 (by decide) (by decide)); exact sct_ex x
    · have x := k11_s m103 (by decide) (hb 103 (by decide) (by decide)); exact sct_ex x
    · have x := k11_s m104 (by decide) (hb 104 (by decide) (by decide)); exact sct_ex x
    · have x := k11_s m105 (by decide) (hb 105 (by decide) (by decide)); exact sct_ex x
  obtain ⟨u2, g2, r1, r2, -, r4, r5, r6⟩ := item_ok_f hcs h20 hS t0 (k11_s m94 (by decide) (hb 94 (by decide) (by decide))).1 t1 e
  have hgc : ∀ (i : Nat) (q : Nat × sC), iTE_f[i]? = some q → ∀ O, q.2.2.2 = .inr O → (∃ ct, hat u2 q.1 = some (q.2.1, q.2.2.1, ct)) ∧ ovP u2 q.1 (den (rI (iBs cs).length (1 + nOf cs) cs.length) O) := by
    intro i q hq O hO
    obtain ⟨qa, qk, qn, qX⟩ := q
    dsimp only at hO
    subst hO
    obtain ⟨ct, w1, w2⟩ := sfit_cell r2 (List.mem_of_getElem? hq)
    exact ⟨⟨ct, w1⟩, ov_sct w2 w1⟩
  have hrow : ∀ (i a kd n : Nat) (O : List (sN × sN)), iTE_f[i]? = some (a, kd, n, .inr O) → [95, 96, 99, 100, 105].contains a = true → (∀ e ∈ O, sden (rI (iBs cs).length (1 + nOf cs) cs.length) e.1 = 0) → ∀ j, 1 ≤ j → aw u2 a j = aw g2 a j := by
    intro i a kd n O hi ha hO j hj
    obtain ⟨ct0, ct, w1, w2, w3⟩ := r6 a kd n _ (List.mem_of_getElem? hi) ha
    have e1 := aw_of w1 j
    have e2 := aw_of w2 j
    refine e2.trans (Eq.trans ?_ e1.symm)
    exact w3.2.2 j fun e he w => by have := hO e he; omega
  have z0 := hgc 0 _ rfl _ rfl
  have z106 := hgc 1 _ rfl _ rfl
  have z93 := hgc 2 _ rfl _ rfl
  have z95 := hgc 3 _ rfl _ rfl
  have z96 := hgc 4 _ rfl _ rfl
  have z99 := hgc 7 _ rfl _ rfl
  have z100 := hgc 8 _ rfl _ rfl
  have z105 := hgc 13 _ rfl _ rfl
  obtain ⟨⟨c9, hc9⟩, hov0⟩ := z0
  obtain ⟨f1, f2⟩ := ov_OF0 (t := 0) hc9 hov0
  have hO1 : ∀ (x : sN), ∀ e ∈ [(((0, []), x) : sN × sN)], sden (rI (iBs cs).length (1 + nOf cs) cs.length) e.1 = 0 := fun x e he => by
    rw [List.mem_singleton.mp he]; rfl
  refine ⟨u2, ?_, ⟨r2.1, fun a ha hb2 hk2 => (r4.2.2 a hk2).trans (hb a ha hb2), f1, f2, z106.1, z106.2, ⟨PF_ge (fun a ha j hj => ?_) cs 1 (Nat.le_refl _) (r5.2.2.2 (Nat.le_refl _)), z95.2.2 (0, 4) List.mem_cons_self, ?_, ?_, ?_⟩, fun e he hne => ?_, fun q hq => ?_, tc, (r4.2.2 1 rfl).trans t0, t3, fun i hi => t2 i (by omega)⟩, r4.1, r4.2.1, fun a ha => r4.2.2 a ?_⟩
  · rw [r1]
    show some (some (Sum.inl (0 + (1 + nOf cs + 0))), u2) = _
    rw [Nat.add_zero, Nat.zero_add]
  · simp only [aRows, List.mem_cons, List.not_mem_nil, or_false] at ha
    rcases ha with rfl | rfl | rfl | rfl | rfl
    · exact hrow 3 95 0 6257 _ rfl rfl (hO1 _) j hj
    · exact hrow 4 96 0 6257 _ rfl rfl (hO1 _) j hj
    · exact hrow 7 99 0 457 _ rfl rfl (hO1 _) j hj
    · exact hrow 8 100 0 6257 _ rfl rfl (hO1 _) j hj
    · exact hrow 13 105 1 6257 _ rfl rfl (hO1 _) j hj
  · have := z100.2.2 (0, 0 + (1 + nOf cs + 0)) List.mem_cons_self
    rw [Nat.add_zero, Nat.zero_add] at this
    exact this
  · have := z93.2.2 (12, 0 + (1 + nOf cs + 0)) (den_mem (ρ := rI (iBs cs).length (1 + nOf cs) cs.length) (e := ((12, []), (0, [2]))) (by simp [itL]))
    rw [Nat.add_zero, Nat.zero_add] at this
    exact this
  · have := z105.2.2 (0, 0 + (cs.length + 0)) List.mem_cons_self
    rw [Nat.add_zero, Nat.zero_add] at this
    exact this
  · have h9 : ∀ e ∈ den r0 (o93 (0, [])), e.1 ≠ 12 → e ∈ [(0, 95), (1, 96), (2, 97), (3, 98), (4, 99), (5, 100), (6, 101), (7, 102), (8, 103), (9, 104), (10, 105), (11, 106)] := by decide
    have h8 : ∀ e ∈ [(0, 95), (1, 96), (2, 97), (3, 98), (4, 99), (5, 100), (6, 101), (7, 102), (8, 103), (9, 104), (10, 105), (11, 106)], e ∈ den (rI (iBs cs).length (1 + nOf cs) cs.length) (itL (0, [2]) (256, []) (200, []) (0, []) (0, [1]) (3000, []) nN) := by
      intro e he
      simp only [List.mem_cons, List.not_mem_nil, or_false] at he
      have g : ∀ c v : Nat, (((c, []), (v, [])) : sN × sN) ∈ itL (0, [2]) (256, []) (200, []) (0, []) (0, [1]) (3000, []) nN → (c, v) ∈ den (rI (iBs cs).length (1 + nOf cs) cs.length) (itL (0, [2]) (256, []) (200, []) (0, []) (0, [1]) (3000, []) nN) := fun c v h => den_mem (ρ := rI (iBs cs).length (1 + nOf cs) cs.length) h
      rcases he with rfl | rfl | rfl | rfl | rfl | rfl | rfl | rfl | rfl | rfl | rfl | rfl <;> exact g _ _ (by simp [itL])
    exact z93.2.2 e (h8 e (h9 e he hne))
  · simp only [iqR, List.mem_cons, List.not_mem_nil, or_false] at hq
    rcases hq with rfl | rfl | rfl | rfl | rfl | rfl
    · exact z93.1
    · exact z95.1
    · exact z96.1
    · exact z99.1
    · exact z100.1
    · exact z105.1
  · unfold KsT KsI
    rw [beq_f (by omega), beq_f (by omega)]
    show (Nat.ble 93 a && Nat.ble a 105) = false
    have : Nat.ble a 105 = false := by
      cases hb9 : Nat.ble a 105 with
      | false => rfl
      | true => have := Nat.le_of_ble_eq_true hb9; omega
    rw [this, Bool.and_false]

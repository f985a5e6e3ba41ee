/-! ===== from the ITEM to judging ===== -/
theorem node_raw {ρ : Nat → Nat} {u : dH} {k w : sN} {S : sH} {v : sV} (hkd : kdG kdn u) (hB : sok ρ B5) (hr : sAll (runN k w S) (chkN S v) = true) (hS : sfit ρ opN S u) (hk : ∀ q ∈ S, q.1 ∈ nW) (e : Nat) : ∃ u2, drun dProg (500 + e) 60 260 0 (slD ρ [(0, .inr (.inr 1)), (1, .inl k), (2, .inl w)]) [] u = some (some (svd ρ v), u2) ∧ hwf u2 ∧ u2.1 = u.1 ∧ u2.2.1 = u.2.1 ∧ (∀ a, a ∉ nW → hat u2 a = hat u a) ∧ ∀ a ∈ nW, ∀ kd n ct, hat u a = some (kd, n, ct) → ∃ ct2, hat u2 a = some (kd, n, ct2) ∧ ∀ j, wd (kw kd) ct2 j = wd (kw kd) ct j := by
  obtain ⟨v2, S2, u2, h1, h2, h3, -⟩ := sex_all (WN_of hB hkd) hr e hS trivial
  unfold chkN at h1
  simp only [Bool.and_eq_true] at h1
  obtain ⟨g1, g2⟩ := h1
  have g1 := @of_decide_eq_true _ (dqO _ _) g1
  have g2 := @of_decide_eq_true _ (dqH _ _) g2
  subst g1 g2
  refine ⟨u2, h2, h3.1, h3.2.1, h3.2.2.1, fun a ha => h3.2.2.2.2.2.1 a rfl fun q hq w => ha (w ▸ hk q hq), fun a ha kd n ct hc => ?_⟩
  by_cases hin : ∃ q ∈ S2, q.1 = a
  · obtain ⟨⟨qa, qk, qn, qX⟩, hq, rfl⟩ := hin
    obtain ⟨ct0, ct1, y1, y2, y3⟩ := h3.2.2.2.2.2.2 _ _ _ _ hq
    obtain ⟨ct9, z1, z2⟩ := sfit_cell hS hq
    dsimp only at hc
    rw [hc] at y1 z1
    cases y1
    cases z1
    refine ⟨ct1, y2, fun j => ?_⟩
    cases qX with
    | inl c =>
      have e1 : ct1 = c := y3
      have e2 : ct = c := z2
      rw [e1, e2]
    | inr O =>
      by_cases hj : ∃ e9 ∈ O, sden ρ e9.1 = j
      · obtain ⟨e9, he9, rfl⟩ := hj
        exact (y3.2.1 e9 he9).trans (z2.2.1 e9 he9).symm
      · exact y3.2.2 j fun e9 he9 w => hj ⟨e9, he9, w⟩
  · exact ⟨ct, (h3.2.2.2.2.2.1 a rfl fun q hq w => hin ⟨q, hq, w⟩).trans hc, fun _ => rfl⟩
def sN1 : sH := [(0, 16, 12, .inr [((8, []), (94, []))]), (93, 6, 20, .inr (o93 (1, [2]))), (95, 0, 6257, .inr [((0, []), (4, []))]), (105, 1, 6257, .inr [((0, []), (0, [3]))])]
set_option maxRecDepth 100000 in
theorem n_1 : sAll (runN (0, []) (1, []) sN1) (chkN sN1 (.inr (.inl (0, [3])))) = true := by decide +kernel
theorem ov_93b {u : dH} {ρ : Nat → Nat} {top : sN} (h : ∀ e ∈ den r0 (o93 (0, [])), e.1 ≠ 12 → aw u 93 e.1 = e.2) (ht : aw u 93 12 = sden ρ top) : ovP u 93 (den ρ (o93 top)) := by
  refine ⟨by rw [den_keys]; show List.Nodup [0, 1, 2, 3, 4, 5, 6, 7, 8, 9, 10, 11, 12]; decide, fun e he => ?_⟩
  obtain ⟨q, hq, rfl⟩ := List.mem_map.mp he
  simp only [o93, List.mem_cons, List.not_mem_nil, or_false] at hq
  rcases hq with rfl | rfl | rfl | rfl | rfl | rfl | rfl | rfl | rfl | rfl | rfl | rfl | rfl
  · exact h (0, 95) (by decide) (by decide)
  · exact h (1, 96) (by decide) (by decide)
  · exact h (2, 97) (by decide) (by decide)
  · exact h (3, 98) (by decide) (by decide)
  · exact h (4, 99) (by decide) (by decide)
  · exact h (5, 100) (by decide) (by decide)
  · exact h (6, 101) (by decide) (by decide)
  · exact h (7, 102) (by decide) (by decide)
  · exact h (8, 103) (by decide) (by decide)
  · exact h (9, 104) (by decide) (by decide)
  · exact h (10, 105) (by decide) (by decide)
  · exact h (11, 106) (by decide) (by decide)
  · exact ht
theorem nW_K : ∀ a ∈ nW, KsT a = true := by decide
theorem nW_n : 1 ∉ nW ∧ 106 ∉ nW := by decide
theorem iqR_lt : ∀ q ∈ iqR, q.1 < 126 := by decide
theorem IQ_same {cs : List (Nat × Nat)} {t : Nat} {tp : Nat → Prop} {u u2 : dH} (h : IQ cs t tp u) (hw : hwf u2) (he : ∀ a, a < 126 → a ∉ nW → hat u2 a = hat u a) (hn : ∀ a ∈ nW, ∀ kd n ct, hat u a = some (kd, n, ct) → ∃ ct2, hat u2 a = some (kd, n, ct2) ∧ ∀ j, wd (kw kd) ct2 j = wd (kw kd) ct j) : IQ cs t tp u2 := by
  obtain ⟨-, hb, ⟨⟨c0, hc0⟩, hf⟩, ht, ⟨c6, h6⟩, h6w, hR, h93, hi, tc, h1, h2, h3⟩ := h
  have haw : ∀ a j, a < 126 → (∃ c, hat u a = some c) → aw u2 a j = aw u a j := by
    intro a j h126 ⟨⟨kd, n, ct⟩, hc⟩
    by_cases ha : a ∈ nW
    · obtain ⟨ct2, g1, g2⟩ := hn a ha kd n ct hc
      rw [aw_of g1, aw_of hc]
      exact g2 j
    · exact aw_same (he a h126 ha) j
  have ex : ∀ q ∈ iqR, ∃ c, hat u q.1 = some c := fun q hq => by
    obtain ⟨ct, h⟩ := hi q hq
    exact ⟨_, h⟩
  have x93 := ex (93, 6, 20) (by decide)
  have x95 := ex (95, 0, 6257) (by decide)
  have x96 := ex (96, 0, 6257) (by decide)
  have x99 := ex (99, 0, 457) (by decide)
  have x100 := ex (100, 0, 6257) (by decide)
  have x105 := ex (105, 1, 6257) (by decide)
  obtain ⟨d0, hd0, -⟩ := hn 0 (by decide) _ _ _ hc0
  refine ⟨hw, fun a ha hb2 hk => (he a hb2 fun hm => ?_).trans (hb a ha hb2 hk), ⟨⟨d0, hd0⟩, fun e he2 => (haw 0 _ (by decide) ⟨_, hc0⟩).trans (hf e he2)⟩, (haw 0 1 (by decide) ⟨_, hc0⟩).trans ht, ⟨c6, (he 106 (by decide) nW_n.2).trans h6⟩, ⟨h6w.1, fun e he2 => (haw 106 _ (by decide) ⟨_, h6⟩).trans (h6w.2 e he2)⟩, ⟨PF_keep (fun a ha j => haw a j (aR_lt a ha) ?_) cs 1 hR.1, (haw 95 _ (by decide) x95).trans hR.2.1, (haw 100 _ (by decide) x100).trans hR.2.2.1, (haw 93 _ (by decide) x93).trans hR.2.2.2.1, (haw 105 _ (by decide) x105).trans hR.2.2.2.2⟩, fun e he2 hne => (haw 93 _ (by decide) x93).trans (h93 e he2 hne), fun q hq => ?_, tc, (he 1 (by decide) nW_n.1).trans h1, h2, h3⟩
  · rw [nW_K a hm] at hk
    cases hk
  · simp only [aRows, List.mem_cons, List.not_mem_nil, or_false] at ha
    rcases ha with rfl | rfl | rfl | rfl | rfl
    · exact x95
    · exact x96
    · exact x99
    · exact x100
    · exact x105
  · obtain ⟨ct, h⟩ := hi q hq
    by_cases ha : q.1 ∈ nW
    · obtain ⟨ct2, g1, -⟩ := hn _ ha _ _ _ h
      exact ⟨ct2, g1⟩
    · exact ⟨ct, (he _ (iqR_lt q hq) ha).trans h⟩
theorem IQ_node {cs : List (Nat × Nat)} (hc : csOK cs) {t : Nat} {tp : Nat → Prop} {u : dH} (h : IQ cs t tp u) (e : Nat) : ∃ u2, drun dProg (500 + e) 60 260 0 [(0, .inr (.inr 1)), (1, .inl 0), (2, .inl 1)] [] u = some (some (.inr (.inl cs.length)), u2) ∧ IQ cs t tp u2 ∧ u2.1 = u.1 ∧ u2.2.1 = u.2.1 ∧ ∀ a, 126 ≤ a → hat u2 a = hat u a := by
  have h20 := hc.2
  have hn := nOf_le cs
  obtain ⟨hw, hb, ⟨⟨c0, hc0⟩, hf⟩, ht, ⟨c6, h6⟩, h6w, hR, h93, hi, tc, h1, h2, h3⟩ := id h
  have e1 : sden (rj 1 (nOf cs) cs.length 0) (1, [2]) = 1 + nOf cs := rfl
  obtain ⟨c93, x93⟩ := hi (93, 6, 20) (by decide)
  obtain ⟨c95, x95⟩ := hi (95, 0, 6257) (by decide)
  obtain ⟨c105, x105⟩ := hi (105, 1, 6257) (by decide)
  have hkd : kdG kdn u := by
    intro q hq
    simp only [kdn, List.mem_cons, List.not_mem_nil, or_false] at hq
    rcases hq with rfl | rfl
    · exact ⟨_, c0, hc0⟩
    · exact ⟨_, c93, x93⟩
  have hS : sfit (rj 1 (nOf cs) cs.length 0) opN sN1 u := by
    refine sfit_mk hw (by decide) (fun _ _ => rfl) fun a kd n X hm => ?_
    simp only [sN1, List.mem_cons, List.not_mem_nil, or_false, Prod.mk.injEq] at hm
    rcases hm with ⟨rfl, rfl, rfl, rfl⟩ | ⟨rfl, rfl, rfl, rfl⟩ | ⟨rfl, rfl, rfl, rfl⟩ | ⟨rfl, rfl, rfl, rfl⟩
    · exact sct_in hc0 (ovP_1 (hf (8, 94) (by decide)))
    · exact sct_in x93 (ov_93b h93 (by rw [hR.2.2.2.1, e1]))
    · exact sct_in x95 (ovP_1 hR.2.1)
    · refine sct_in x105 (ovP_1 (i := 0) (v := 0 + (cs.length + 0)) ?_)
      rw [hR.2.2.2.2]
      omega
  obtain ⟨u2, g1, g2, g3, g4, g5, g6⟩ := node_raw hkd (rj_ok (by omega) (by omega) h20 (by omega)) n_1 hS (by decide) e
  refine ⟨u2, ?_, IQ_same h g2 (fun a _ ha => g5 a ha) g6, g3, g4, fun a ha => g5 a fun hm => ?_⟩
  · have e2 : svd (rj 1 (nOf cs) cs.length 0) (.inr (.inl (0, [3]))) = .inr (.inl cs.length) := by
      show Sum.inr (Sum.inl (0 + (cs.length + 0))) = _
      rw [Nat.add_zero, Nat.zero_add]
    rw [e2] at g1
    exact g1
  · have := nW_lt a hm
    omega

def gwL : List Nat := [1819244320, 1025518901, 539897376, 891315813, 1998601504, 1953723506, 539915113, 2053447720, 807415584, 841556089, 1702043709, 544502389, 1696622958, 540876891, 1819244381, 544436077, 1696611616, 1819244320, 790652517, 1998597920, 2036691744, 790653294, 543255660, 540876891, 706769775, 1835359520, 1953984288, 1025530666, 539519342, 1948266287, 543256185, 740324467, 1953638749, 544432493, 1696611616, 1529487451, 1935764837, 1562390304, 590356527, 539177248, 790635315, 539959331, 924856096, 1768840480, 538976288]
def gwV (m j : Nat) : Nat := gwL.getD (5 * m + j) 0
theorem gwV_lt (m j : Nat) : gwV m j < 4294967296 := by
  have h : (gwL.all fun v => Nat.blt v 4294967296) = true := by decide
  unfold gwV
  rw [List.getD_eq_getElem?_getD]
  cases hg : gwL[5 * m + j]? with
  | none => show 0 < _; decide
  | some v => exact di_blt.mp (List.all_eq_true.mp h v (List.mem_of_getElem? hg))
/-- the tape holds so many of the RULES' rows, and nothing far behind -/
def tpF (m : Nat) (tc : Nat) : Prop := (∀ i, i < 20 * m → wd 8 tc i = wd 8 kg30 i) ∧ ∀ i, 180 ≤ i → wd 8 tc i = 0
theorem gw_ok : ((List.range 9).all fun m => (List.range 20).all fun x => Nat.beq (gwV m (x / 4) / 256 ^ (3 - x % 4) % 256) (wd 8 kg30 (20 * m + x))) = true := by decide +kernel
theorem IQ_feed {cs : List (Nat × Nat)} {m : Nat} (hm : m < 9) {u : dH} (h : IQ cs (20 * m) (tpF m) u) (f d : Nat) : ∃ u2, drun dProg (f + 18) (Nat.succ (Nat.succ d)) 256 0 [(0, .inr (.inr 1)), (1, .inl (gwV m 0)), (2, .inl (gwV m 1)), (3, .inl (gwV m 2)), (4, .inl (gwV m 3)), (5, .inl (gwV m 4))] [] u = some (some (.inl (20 * m + 20)), u2) ∧ IQ cs (20 * (m + 1)) (tpF (m + 1)) u2 ∧ u2.1 = u.1 ∧ u2.2.1 = u.2.1 ∧ ∀ a, 126 ≤ a → hat u2 a = hat u a := by
  obtain ⟨hw, hb, hF, ht, ⟨c6, h6⟩, h6w, hR, h93, hi, tc, h1, h2, h3, h4⟩ := h
  obtain ⟨c0, hc0⟩ := hF.1
  have e0 := aw_of hc0 0
  have e1 := aw_of hc0 1
  obtain ⟨u2, c1, tc1, g1, g2, g3, g4, g5⟩ := lfeed (nm := 12) (c0 := c0) (tc := tc) (T := 20 * m) (f := f) (d := d) (V := gwV m) hw ⟨hc0, h1, e0.symm.trans (hF.2 (0, 2) (by decide)), e1.symm.trans ht⟩ (by omega) (gwV_lt m)
  obtain ⟨z1, z2, zw, za⟩ := g2
  have hoth : ∀ a, 2 ≤ a → hat u2 a = hat u a := fun a ha => by rw [za, if_neg (by omega), if_neg (by omega)]
  have hn0 : hat u2 0 = some (16, 12, c1) := by rw [za, if_neg (by decide), if_pos rfl]
  have hn1 : hat u2 1 = some (2, 3000, tc1) := by rw [za, if_pos rfl]
  have haw : ∀ a j, 2 ≤ a → aw u2 a j = aw u a j := fun a j ha => aw_same (hoth a ha) j
  have hF2 : OF0 u2 := OF0_of hF hc0 hn0 fun j hj => by rw [g3, if_neg hj]
  refine ⟨u2, g1, ⟨zw, fun a ha hb2 hk => (hoth a ha).trans (hb a ha hb2 hk), hF2, ?_, ⟨c6, (hoth 106 (by decide)).trans h6⟩, ⟨h6w.1, fun e he => (haw 106 _ (by decide)).trans (h6w.2 e he)⟩, ⟨PF_keep (fun a ha j => haw a j ?_) cs 1 hR.1, (haw 95 0 (by decide)).trans hR.2.1, (haw 100 0 (by decide)).trans hR.2.2.1, (haw 93 12 (by decide)).trans hR.2.2.2.1, (haw 105 0 (by decide)).trans hR.2.2.2.2⟩, fun e he hne => (haw 93 _ (by decide)).trans (h93 e he hne), fun q hq => ?_, tc1, hn1, g5 h2, fun i hi2 => ?_, fun i hi2 => ?_⟩, z1, z2, fun a ha => hoth a (by omega)⟩
  · have h7 := aw_of hn0 1
    refine h7.trans ?_
    rw [show kw 16 = 64 from rfl, g3, if_pos rfl]
    omega
  · have h9 : ∀ a ∈ aRows, 2 ≤ a := by decide
    exact h9 a ha
  · have h9 : ∀ q ∈ iqR, 2 ≤ q.1 := by decide
    obtain ⟨ct, h⟩ := hi q hq
    exact ⟨ct, (hoth _ (h9 q hq)).trans h⟩
  · rw [g4]
    by_cases hlt : i < 20 * m
    · rw [if_neg (by omega)]
      exact h3 i hlt
    · rw [if_pos (by omega)]
      have h7 := List.all_eq_true.mp (List.all_eq_true.mp gw_ok m (List.mem_range.mpr hm)) (i - 20 * m) (List.mem_range.mpr (by omega))
      have h8 := Nat.eq_of_beq_eq_true h7
      rw [show 20 * m + (i - 20 * m) = i by omega] at h8
      exact h8
  · rw [g4, if_neg (by omega)]
    exact h4 i hi2
/-- what is known of cells that the constructor left, against what is wanted of them -/
noncomputable def gck (e : Nat × sC) : Bool := match e.2.2.2 with
  | .inl c => (Nat.beq e.1 1 && (Nat.beq e.2.1 2 && (Nat.beq e.2.2.1 3000 && Nat.beq c kg30))) || (Nat.ble 2 e.1 && (Nat.blt e.1 126 && (!KsT e.1 && match hat kh11 e.1 with
    | some (k2, n2, c2) => Nat.beq k2 e.2.1 && (Nat.beq n2 e.2.2.1 && Nat.beq c2 c)
    | none => false)))
  | .inr O => (Nat.beq e.1 0 && (Nat.beq e.2.1 16 && (Nat.beq e.2.2.1 12 && @decide (e.2.2.2 = .inr [((0, []), (2, [])), ((1, []), (180, [])), ((2, []), (4294967295, [])), ((3, []), (3, [])), ((4, []), (44, [])), ((5, []), (85, [])), ((6, []), (87, [])), ((7, []), (88, [])), ((8, []), (94, [])), ((9, []), (107, [])), ((10, []), (109, [])), ((11, []), (119, []))]) (dqX _ _)))) || (Nat.beq e.1 106 && (Nat.beq e.2.1 10 && (Nat.beq e.2.2.1 3 && @decide (e.2.2.2 = .inr [((0, []), (108, [])), ((1, []), (0, [])), ((2, []), (2, []))]) (dqX _ _))))
set_option maxRecDepth 1000000 in
theorem gck_ok : (gS0.all gck) = true := by decide +kernel
theorem gS0_nd : (gS0.map (·.1)).Nodup := by decide +kernel
theorem kg30_0 : ((List.range 3000).all fun k => Nat.blt k 180 || Nat.beq (wd 8 kg30 k) 0) = true := by decide +kernel
theorem kg30_c : Nat.beq kg30 (wF 8 kg30 180) = true := by decide +kernel
theorem wF_more {w c m : Nat} : ∀ n, m ≤ n → (∀ k, m ≤ k → k < n → wd w c k = 0) → wF w c n = wF w c m := by
  intro n
  induction n with
  | zero => intro h _; rw [show m = 0 by omega]
  | succ n ih =>
    intro h h0
    rcases Nat.lt_or_ge m (n + 1) with h1 | h1
    · show wF w c n ^^^ wT w n (wd w c n) = _
      rw [h0 n (by omega) (by omega), wT_0, Nat.xor_zero]
      exact ih (by omega) fun k h2 h3 => h0 k h2 (by omega)
    · rw [show m = n + 1 by omega]
theorem kg30_can : wcan 8 3000 kg30 := by
  show kg30 = wF 8 kg30 3000
  rw [wF_more (m := 180) 3000 (by decide) fun k h1 h2 => ?_]
  · exact Nat.eq_of_beq_eq_true kg30_c
  · have h := List.all_eq_true.mp kg30_0 k (List.mem_range.mpr h2)
    rcases Bool.or_eq_true _ _ ▸ h with h | h
    · have := di_blt.mp h
      omega
    · exact Nat.eq_of_beq_eq_true h
theorem tape_eq {tc : Nat} (hc : wcan 8 3000 tc) (h : tpF 9 tc) : tc = kg30 := by
  refine wcan_ext hc kg30_can fun k hk => ?_
  by_cases h1 : k < 180
  · exact h.1 k (by omega)
  · rw [h.2 k (by omega)]
    have h := List.all_eq_true.mp kg30_0 k (List.mem_range.mpr hk)
    rcases Bool.or_eq_true _ _ ▸ h with h | h
    · have := di_blt.mp h
      omega
    · exact (Nat.eq_of_beq_eq_true h).symm
theorem IQ_gS0 {cs : List (Nat × Nat)} {u : dH} (h : IQ cs 180 (tpF 9) u) : sfit r0 opN gS0 u := by
  obtain ⟨hw, hb, hF, ht, ⟨c6, h6⟩, h6w, hR, h93, hi, tc, h1, h2, h3⟩ := h
  obtain ⟨c0, hc0⟩ := hF.1
  refine sfit_mk hw gS0_nd (fun _ _ => rfl) fun a kd n X hm => ?_
  have hk := List.all_eq_true.mp gck_ok _ hm
  unfold gck at hk
  cases X with
  | inl c =>
    dsimp only at hk
    rcases Bool.or_eq_true _ _ ▸ hk with hk | hk
    · simp only [Bool.and_eq_true] at hk
      obtain ⟨k1, k2, k3, k4⟩ := hk
      have k1 := Nat.eq_of_beq_eq_true k1
      have k2 := Nat.eq_of_beq_eq_true k2
      have k3 := Nat.eq_of_beq_eq_true k3
      have k4 := Nat.eq_of_beq_eq_true k4
      subst k1 k2 k3 k4
      exact ⟨tc, h1, tape_eq h2 h3⟩
    · simp only [Bool.and_eq_true] at hk
      obtain ⟨k1, k2, k3, k4⟩ := hk
      have k1 := Nat.le_of_ble_eq_true k1
      have k2 := di_blt.mp k2
      have k3 : KsT a = false := by simpa using k3
      have g := hb a k1 k2 k3
      split at k4
      · rename_i k9 n9 c9 hh
        simp only [Bool.and_eq_true] at k4
        have q1 := Nat.eq_of_beq_eq_true k4.1
        have q2 := Nat.eq_of_beq_eq_true k4.2.1
        have q3 := Nat.eq_of_beq_eq_true k4.2.2
        subst q1 q2 q3
        exact ⟨c9, g.trans hh, rfl⟩
      · cases k4
  | inr O =>
    dsimp only at hk
    rcases Bool.or_eq_true _ _ ▸ hk with hk | hk
    · simp only [Bool.and_eq_true] at hk
      obtain ⟨k1, k2, k3, k4⟩ := hk
      have k1 := Nat.eq_of_beq_eq_true k1
      have k2 := Nat.eq_of_beq_eq_true k2
      have k3 := Nat.eq_of_beq_eq_true k3
      have k4 := @of_decide_eq_true _ (dqX _ _) k4
      cases k4
      subst k1 k2 k3
      exact sct_in hc0 (OF0_ov hF ht)
    · simp only [Bool.and_eq_true] at hk
      obtain ⟨k1, k2, k3, k4⟩ := hk
      have k1 := Nat.eq_of_beq_eq_true k1
      have k2 := Nat.eq_of_beq_eq_true k2
      have k3 := Nat.eq_of_beq_eq_true k3
      have k4 := @of_decide_eq_true _ (dqX _ _) k4
      cases k4
      subst k1 k2 k3
      exact sct_in h6 h6w
/-- what grammar() leaves, against what judging wants -/
def tjG (q : Nat × Nat × Nat × Option Nat) : Bool := (gS1.any fun e => Nat.beq e.1 q.1 && (Nat.beq e.2.1 q.2.1 && (Nat.beq e.2.2.1 q.2.2.1 && (match e.2.2.2, q.2.2.2 with
  | .inl c, some d => Nat.beq c d
  | .inl _, none => true
  | .inr _, none => true
  | .inr _, some _ => false)))) || (q.2.2.2.isNone && iqR.any fun e => Nat.beq e.1 q.1 && (Nat.beq e.2.1 q.2.1 && Nat.beq e.2.2 q.2.2.1))
set_option maxRecDepth 1000000 in
theorem tjG_ok : (tj.all tjG) = true := by decide +kernel
def gwd (a : Nat) (l : List (Nat × Nat)) : Bool := gS1.any fun e => Nat.beq e.1 a && (match e.2.2.2 with
  | .inl c => l.all fun q => Nat.beq (wd (kw e.2.1) c q.1) q.2
  | .inr _ => false)
set_option maxRecDepth 1000000 in
theorem gwd_66 : gwd 66 (den r0 o66) = true := by decide +kernel
set_option maxRecDepth 1000000 in
theorem gwd_108 : gwd 108 (den r0 (o108 [])) = true := by decide +kernel
theorem gwd_s {a : Nat} {l : List (Nat × Nat)} {u : dH} (h : gwd a l = true) (hn : (l.map (·.1)).Nodup) (hS : sfit r0 opN gS1 u) : ovP u a l := by
  obtain ⟨⟨ea, ek, en, eX⟩, he, h2⟩ := List.any_eq_true.mp h
  simp only [Bool.and_eq_true] at h2
  obtain ⟨h3, h4⟩ := h2
  have h3 := Nat.eq_of_beq_eq_true h3
  subst h3
  cases eX with
  | inr O => cases h4
  | inl c =>
    obtain ⟨ct, w1, w2⟩ := sfit_cell hS he
    have w2 : ct = c := w2
    subst w2
    refine ⟨hn, fun q hq => ?_⟩
    have h5 := Nat.eq_of_beq_eq_true (List.all_eq_true.mp h4 q hq)
    have h6 := aw_of w1 q.1
    exact h6.trans h5
def g0O : Bool := gS1.any fun e => Nat.beq e.1 0 && (Nat.beq e.2.1 16 && (match e.2.2.2 with
  | .inr O => (den r0 o0).all fun q => O.any fun p => Nat.beq p.1.1 q.1 && (p.1.2 == [] && (Nat.beq p.2.1 q.2 && p.2.2 == []))
  | .inl _ => false))
set_option maxRecDepth 1000000 in
theorem g0O_ok : g0O = true := by decide +kernel
def g106 : Bool := gS1.any fun e => Nat.beq e.1 106 && (Nat.beq e.2.1 10 && @decide (e.2.2.2 = .inr [((0, []), (108, [])), ((1, []), (0, [])), ((2, []), (3, []))]) (dqX _ _))
set_option maxRecDepth 1000000 in
theorem g106_ok : g106 = true := by decide +kernel
def kdGok : Bool := kdJ.all fun q => (gS1.any fun e => Nat.beq e.1 q.1 && Nat.beq e.2.1 q.2) || (Nat.beq q.1 93 && Nat.beq q.2 6)
set_option maxRecDepth 1000000 in
theorem kdGok_ok : kdGok = true := by decide +kernel
theorem k107 : k11 107 1 2048 [] = true := by decide +kernel
noncomputable def k107z : Bool := match hat kh11 107 with
  | some (k, n, c) => Nat.beq k 1 && (Nat.beq n 2048 && Nat.beq c 0)
  | none => false
theorem k107z_ok : k107z = true := by decide +kernel
theorem mcnt_0 (n : Nat) : mcnt (mcu 0) n = 0 := by
  induction n with
  | zero => rfl
  | succ n ih =>
    show mcnt (mcu 0) n + cond (mcu 0 n) 1 0 = 0
    rw [ih, mcu_f.mpr (by rw [wd_0]; decide)]
    rfl
/-- grammar() over the law's RULES: the object judges from here on -/
theorem IQ_gram {cs : List (Nat × Nat)} {u : dH} (h : IQ cs 180 (tpF 9) u) (e : Nat) : ∃ u2, drun dProg (40000 + e) 60 258 0 [(0, .inr (.inr 1))] [] u = some (some (.inl 8), u2) ∧ JS cs 1 u2 ∧ u2.1 = u.1 ∧ u2.2.1 = u.2.1 ∧ ∀ a, 126 ≤ a → hat u2 a = hat u a := by
  obtain ⟨u2, g2, r1, r2, -, r4, -, -⟩ := gram_ok (IQ_gS0 h) e
  obtain ⟨hw, hb, hF, ht, -, -, hR, h93, hi, -⟩ := h
  have hks : ∀ a, KsG a = false → hat u2 a = hat u a := fun a ha => r4.2.2 a ha
  have hrow : ∀ a, (93 ≤ a ∧ a ≤ 105) ∨ a = 107 ∨ 126 ≤ a → hat u2 a = hat u a := by
    intro a ha
    refine hks a ?_
    unfold KsG
    rcases ha with ⟨h1, h2⟩ | rfl | h1
    · rw [Nat.ble_eq_true_of_le h1, Nat.ble_eq_true_of_le h2]
      simp
    · decide
    · rw [blt_f h1]; rfl
  have haw : ∀ a j, 93 ≤ a → a ≤ 105 → aw u2 a j = aw u a j := fun a j h1 h2 => aw_same (hrow a (Or.inl ⟨h1, h2⟩)) j
  refine ⟨u2, r1, ⟨⟨⟨r2.1, fun a kd n o ho => ?_⟩, gwd_s gwd_66 (by decide) r2, ⟨by decide, fun e he => ?_⟩, fun e he hne => (haw 93 _ (by decide) (by decide)).trans (h93 e he hne), gwd_s gwd_108 (by decide) r2, fun q hq => ?_, ?_⟩, ⟨PF_keep (fun a ha j => ?_) cs 1 hR.1, (haw 95 0 (by decide) (by decide)).trans hR.2.1, (haw 100 0 (by decide) (by decide)).trans hR.2.2.1, (haw 93 12 (by decide) (by decide)).trans hR.2.2.2.1, (haw 105 0 (by decide) (by decide)).trans hR.2.2.2.2⟩, ?_⟩, r4.1, r4.2.1, fun a ha => hrow a (Or.inr (Or.inr ha))⟩
  · have hk := List.all_eq_true.mp tjG_ok _ ho
    unfold tjG at hk
    rcases Bool.or_eq_true _ _ ▸ hk with hk | hk
    · obtain ⟨⟨ea, ek, en, eX⟩, he, h2⟩ := List.any_eq_true.mp hk
      simp only [Bool.and_eq_true] at h2
      obtain ⟨q1, q2, q3, q4⟩ := h2
      have q1 := Nat.eq_of_beq_eq_true q1
      have q2 := Nat.eq_of_beq_eq_true q2
      have q3 := Nat.eq_of_beq_eq_true q3
      try dsimp only at q1 q2 q3
      subst q1 q2 q3
      obtain ⟨ct, w1, w2⟩ := sfit_cell r2 he
      refine ⟨ct, w1, fun c hc => ?_⟩
      subst hc
      cases eX with
      | inl d =>
        have w2 : ct = d := w2
        exact w2.trans (Nat.eq_of_beq_eq_true q4)
      | inr O => cases q4
    · simp only [Bool.and_eq_true] at hk
      obtain ⟨q1, q2⟩ := hk
      have q1 : o = none := by
        cases o with
        | none => rfl
        | some d => cases q1
      subst q1
      obtain ⟨⟨ea, ek, en⟩, he, h2⟩ := List.any_eq_true.mp q2
      simp only [Bool.and_eq_true] at h2
      obtain ⟨m1, m2, m3⟩ := h2
      have s1 := Nat.eq_of_beq_eq_true m1
      have s2 := Nat.eq_of_beq_eq_true m2
      have s3 := Nat.eq_of_beq_eq_true m3
      try dsimp only at s1 s2 s3
      clear m1 m2 m3
      subst s1 s2 s3
      have h9 : ∀ q ∈ iqR, 93 ≤ q.1 ∧ q.1 ≤ 105 := by decide
      obtain ⟨ct, w⟩ := hi _ he
      exact ⟨ct, (hrow _ (Or.inl (h9 _ he))).trans w, fun c hc => by cases hc⟩
  · have hg := g0O_ok
    unfold g0O at hg
    obtain ⟨⟨ea, ek, en, eX⟩, he9, h2⟩ := List.any_eq_true.mp hg
    simp only [Bool.and_eq_true] at h2
    obtain ⟨q1, q2, q3⟩ := h2
    have q1 := Nat.eq_of_beq_eq_true q1
    try dsimp only at q1
    subst q1
    cases eX with
    | inl c => cases q3
    | inr O =>
      obtain ⟨ct, w1, w2⟩ := sfit_cell r2 he9
      obtain ⟨p, hp, h3⟩ := List.any_eq_true.mp (List.all_eq_true.mp q3 e he)
      simp only [Bool.and_eq_true] at h3
      obtain ⟨⟨p1, p2⟩, p3, p4⟩ := p
      obtain ⟨e1, e2⟩ := e
      have s1 := Nat.eq_of_beq_eq_true h3.1
      have s2 := eq_of_beq h3.2.1
      have s3 := Nat.eq_of_beq_eq_true h3.2.2.1
      have s4 := eq_of_beq h3.2.2.2
      dsimp only at s1 s2 s3 s4
      subst s1 s2 s3 s4
      exact (ov_sct w2 w1).2 (p1, p3) (den_mem (ρ := r0) hp)
  · have hk := List.all_eq_true.mp kdGok_ok q hq
    rcases Bool.or_eq_true _ _ ▸ hk with hk | hk
    · obtain ⟨⟨ea, ek, en, eX⟩, he, h2⟩ := List.any_eq_true.mp hk
      simp only [Bool.and_eq_true] at h2
      obtain ⟨ct, w1, -⟩ := sfit_cell r2 he
      have q1 := Nat.eq_of_beq_eq_true h2.1
      have q2 := Nat.eq_of_beq_eq_true h2.2
      try dsimp only at q1 q2
      exact ⟨en, ct, by rw [← q1, ← q2]; exact w1⟩
    · simp only [Bool.and_eq_true] at hk
      have q1 := Nat.eq_of_beq_eq_true hk.1
      have q2 := Nat.eq_of_beq_eq_true hk.2
      obtain ⟨ct, w⟩ := hi (93, 6, 20) (by decide)
      exact ⟨20, ct, by rw [q1, q2]; exact (hrow 93 (Or.inl ⟨by decide, by decide⟩)).trans w⟩
  · obtain ⟨ct, w⟩ := hi (99, 0, 457) (by decide)
    exact ⟨ct, (hrow 99 (Or.inl ⟨by decide, by decide⟩)).trans w⟩
  · have h9 : ∀ a ∈ aRows, 93 ≤ a ∧ a ≤ 105 := by decide
    exact haw a j (h9 a ha).1 (h9 a ha).2
  · have hg := g106_ok
    unfold g106 at hg
    obtain ⟨⟨ea, ek, en, eX⟩, he9, h2⟩ := List.any_eq_true.mp hg
    simp only [Bool.and_eq_true] at h2
    obtain ⟨m1, m2, m3⟩ := h2
    have s1 := Nat.eq_of_beq_eq_true m1
    have s2 := Nat.eq_of_beq_eq_true m2
    have s3 := @of_decide_eq_true _ (dqX _ _) m3
    try dsimp only at s1 s2 s3
    clear m1 m2 m3
    subst s1 s2 s3
    obtain ⟨ct, w1, w2⟩ := sfit_cell r2 he9
    have hz := k107z_ok
    unfold k107z at hz
    split at hz
    · rename_i k n c hk7
      simp only [Bool.and_eq_true] at hz
      have q1 := Nat.eq_of_beq_eq_true hz.1
      have q2 := Nat.eq_of_beq_eq_true hz.2.1
      have q3 := Nat.eq_of_beq_eq_true hz.2.2
      subst q1 q2 q3
      have h107 : hat u2 107 = some (1, 2048, 0) := ((hrow 107 (Or.inr (Or.inl rfl))).trans (hb 107 (by decide) (by decide) rfl)).trans hk7
      have f0 : wd 64 ct 0 = 108 := w2.2.1 ((0, []), (108, [])) (by simp)
      have f1 : wd 64 ct 1 = 0 := w2.2.1 ((1, []), (0, [])) (by simp)
      have f2 : wd 64 ct 2 = 3 := w2.2.1 ((2, []), (3, [])) (by simp)
      exact ⟨en, ct, 0, ⟨w1, h107, f0, f2⟩, by rw [f1, mcnt_0], mRow_0 _⟩
    · cases hz

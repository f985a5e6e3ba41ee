/-! ===== the law from the end of its bytes to its answer ===== -/
theorem IQ_op {cs : List (Nat × Nat)} {t : Nat} {tp : Nat → Prop} {u u2 : dH} (he : ∀ a, opL a = true → hat u2 a = hat u a) (hw : hwf u2) (h : IQ cs t tp u) : IQ cs t tp u2 := IQ_same h hw (fun a ha _ => he a (opL_t (by omega))) fun a ha kd n ct hc => ⟨ct, (he a (opL_t (by have := nW_lt a ha; omega))).trans hc, fun _ => rfl⟩
theorem OF0_op {u u2 : dH} (he : ∀ a, opL a = true → hat u2 a = hat u a) (h : OF0 u) : OF0 u2 := by
  obtain ⟨⟨c, hc⟩, hf⟩ := h
  exact ⟨⟨c, (he 0 rfl).trans hc⟩, fun e h => (aw_same (he 0 rfl) _).trans (hf e h)⟩
theorem okBQ (bs : List Nat) : okQ (BQ bs) := by
  refine ⟨fun u u2 he hw h => ?_, fun u h => ?_⟩
  · obtain ⟨-, hb, hf, -, -, -, -, nm, c00, c0, tc, ct, -, -, hst, ht, h1⟩ := h
    exact ⟨hw, fun a ha hb2 => (he a (opL_t (by omega))).trans (hb a ha hb2), OF0_op he hf, hw, rfl, rfl, fun _ _ _ _ => rfl, nm, c0, c0, tc, ct, (he 0 rfl).trans hst.1, fun _ _ => rfl, ⟨(he 0 rfl).trans hst.1, (he 1 rfl).trans hst.2.1, hst.2.2⟩, (he 126 rfl).trans ht, h1⟩
  · obtain ⟨c, hc⟩ := h.2.2.1.1
    exact ⟨_, c, hc⟩
theorem okCQ (bs : List Nat) : okQ (CQ bs) := by
  refine ⟨fun u u2 he hw h => ?_, fun u h => ?_⟩
  · obtain ⟨-, hb, hf, ht, tc, h0, h1⟩ := h
    exact ⟨hw, fun a ha hb2 => (he a (opL_t (by omega))).trans (hb a ha hb2), OF0_op he hf, (aw_same (he 0 rfl) _).trans ht, tc, (he 1 rfl).trans h0, h1⟩
  · obtain ⟨c, hc⟩ := h.2.2.1.1
    exact ⟨_, c, hc⟩
theorem okIQ (cs : List (Nat × Nat)) (t : Nat) (tp : Nat → Prop) : okQ (IQ cs t tp) := by
  refine ⟨fun u u2 he hw h => IQ_op he hw h, fun u h => ?_⟩
  obtain ⟨c, hc⟩ := h.2.2.1.1
  exact ⟨_, c, hc⟩
theorem tc_put {ρ : Nat → Nat} {e c : Nat} {bs : List Nat} (hl : bs.length < 2900) : tcOK ρ opL 5000 e (BQ bs) (BQ (bs ++ [c % 256])) (60, 272, [(0, .inr (.inr 1)), (1, .inr (.inr 127)), (2, .inl (c, []))], none) := by
  intro f u hf _ hq
  have hf : 5000 ≤ f := hf
  obtain ⟨u2, h1, h2, h3, h4, h5⟩ := BQ_put hq hl c (f + e - 19) 57
  refine ⟨u2, ?_, h2, h2.1, h3, h4, fun a ha => h5 a (opL_f ha)⟩
  rw [show f + e - 19 + 19 = f + e by omega] at h1
  exact h1
theorem tc_close {ρ : Nat → Nat} {e : Nat} {bs : List Nat} (hl : bs.length < 2800) : tcOK ρ opL 5000 e (BQ bs) (CQ bs) (60, 273, [(0, .inr (.inr 1)), (1, .inr (.inr 127))], some (.inl (1, []))) := by
  intro f u hf _ hq
  have hf : 5000 ≤ f := hf
  obtain ⟨u2, h1, h2, h3, h4, h5⟩ := CQ_close hq hl (f + e - 61) 56
  refine ⟨u2, ?_, h2, h2.1, h3, h4, fun a ha => h5 a (opL_f ha)⟩
  rw [show f + e - 61 + 61 = f + e by omega] at h1
  exact h1
def tp0 (tc : Nat) : Prop := ∀ i, 180 ≤ i → wd 8 tc i = 0
theorem tc_item {cs : List (Nat × Nat)} (hc : csOK cs) {ρ : Nat → Nat} {e : Nat} (h2 : ρ 2 = cs.length) (h4 : ρ 4 = inn cs) : tcOK ρ opL 5000 e (CQ (iBs cs)) (IQ cs 0 tp0) (60, 259, [(0, .inr (.inr 1))], some (.inl (1, [2, 4]))) := by
  intro f u hf _ hq
  have hf : 5000 ≤ f := hf
  obtain ⟨u2, g1, g2, g3, g4, g5⟩ := IQ_item hc hq (f + e - 3000)
  refine ⟨u2, ?_, g2, g2.1, g3, g4, fun a ha => g5 a (by have := opL_f ha; omega)⟩
  rw [show 3000 + (f + e - 3000) = f + e by omega] at g1
  have e1 : sden ρ (1, [2, 4]) = 1 + nOf cs := by
    have hno := nOf_inn (fun c h => (hc.1 c h).1)
    show 1 + (ρ 2 + (ρ 4 + 0)) = _
    omega
  show drun dProg (f + e) 60 259 0 [(0, .inr (.inr 1))] [] u = some (some (.inl (sden ρ (1, [2, 4]))), u2)
  rw [e1]
  exact g1
theorem tc_nd0 {cs : List (Nat × Nat)} (hc : csOK cs) {ρ : Nat → Nat} {e : Nat} (h2 : ρ 2 = cs.length) : tcOK ρ opL 5000 e (IQ cs 0 tp0) (IQ cs (20 * 0) (tpF 0)) (60, 260, [(0, .inr (.inr 1)), (1, .inl (0, [])), (2, .inl (1, []))], some (.inr (.inl (0, [2])))) := by
  intro f u hf _ hq
  have hf : 5000 ≤ f := hf
  have hq2 : IQ cs (20 * 0) (tpF 0) u := by
    obtain ⟨a1, a2, a3, a4, a5, a6, a7, a8, a9, tc, b1, b2, b3⟩ := hq
    exact ⟨a1, a2, a3, a4, a5, a6, a7, a8, a9, tc, b1, b2, fun i hi => absurd hi (by omega), b3⟩
  obtain ⟨u2, g1, g2, g3, g4, g5⟩ := IQ_node hc hq2 (f + e - 500)
  refine ⟨u2, ?_, g2, g2.1, g3, g4, fun a ha => g5 a (by have := opL_f ha; omega)⟩
  rw [show 500 + (f + e - 500) = f + e by omega] at g1
  show drun dProg (f + e) 60 260 0 [(0, .inr (.inr 1)), (1, .inl 0), (2, .inl 1)] [] u = some (some (.inr (.inl (0 + (ρ 2 + 0)))), u2)
  rw [h2, Nat.add_zero, Nat.zero_add]
  exact g1
def feedC (m : Nat) : tC := (60, 256, [(0, .inr (.inr 1)), (1, .inl (gwV m 0, [])), (2, .inl (gwV m 1, [])), (3, .inl (gwV m 2, [])), (4, .inl (gwV m 3, [])), (5, .inl (gwV m 4, []))], some (.inl (20 * m + 20, [])))
theorem tc_feed {cs : List (Nat × Nat)} {ρ : Nat → Nat} {e m : Nat} (hm : m < 9) : tcOK ρ opL 5000 e (IQ cs (20 * m) (tpF m)) (IQ cs (20 * (m + 1)) (tpF (m + 1))) (feedC m) := by
  intro f u hf _ hq
  have hf : 5000 ≤ f := hf
  obtain ⟨u2, g1, g2, g3, g4, g5⟩ := IQ_feed hm hq (f + e - 18) 58
  refine ⟨u2, ?_, g2, g2.1, g3, g4, fun a ha => g5 a (by have := opL_f ha; omega)⟩
  rw [show f + e - 18 + 18 = f + e by omega] at g1
  exact g1
theorem tc_gram {cs : List (Nat × Nat)} {ρ : Nat → Nat} {e : Nat} (he : 40000 ≤ e) : tcOK ρ opL 5000 e (IQ cs (20 * 9) (tpF 9)) (JS cs 1) (60, 258, [(0, .inr (.inr 1))], some (.inl (8, []))) := by
  intro f u _ _ hq
  obtain ⟨u2, g1, g2, g3, g4, g5⟩ := IQ_gram hq (f + e - 40000)
  refine ⟨u2, ?_, g2, JS_hw g2, g3, g4, fun a ha => g5 a (by have := opL_f ha; omega)⟩
  rw [show 40000 + (f + e - 40000) = f + e by omega] at g1
  exact g1
noncomputable def sgA0 : Bool := chn 5000 lwS0 (chkH 237 (l2L (0, []) (0, []) (0, [2]))) (goH [237]) [(60, 272, [(0, .inr (.inr 1)), (1, .inr (.inr 127)), (2, .inl (255, []))], none)] (runH [237] 223 (restL (0, [2])) lwS0)
set_option maxRecDepth 1000000 in
theorem sgA0_ok : sgA0 = true := by decide +kernel
def cA1 : List tC := [(60, 273, [(0, .inr (.inr 1)), (1, .inr (.inr 127))], some (.inl (1, []))), (60, 259, [(0, .inr (.inr 1))], some (.inl (1, [2, 4]))), (60, 260, [(0, .inr (.inr 1)), (1, .inl (0, [])), (2, .inl (1, []))], some (.inr (.inl (0, [2])))), feedC 0, feedC 1, feedC 2, feedC 3, feedC 4, feedC 5, feedC 6, feedC 7, feedC 8, (60, 258, [(0, .inr (.inr 1))], some (.inl (8, [])))]
noncomputable def sgA1 : Bool := chn 5000 lwS0 (chkH 491 (lM [] (0, []) (1, []) (1, []) (0, [2]))) (goH [491]) cA1 (runH [491] 237 (l2L (0, [2]) (0, [4]) (0, [2])) lwS0)
set_option maxRecDepth 1000000 in
theorem sgA1_ok : sgA1 = true := by decide +kernel
theorem b223 : (pghm 274 223).isSome = true := by decide +kernel
def qA1 (cs : List (Nat × Nat)) (k : Nat) : dH → Prop := match k with
  | 0 => BQ (iBs cs)
  | 1 => CQ (iBs cs)
  | 2 => IQ cs 0 tp0
  | m + 3 => if m < 10 then IQ cs (20 * m) (tpF m) else JS cs 1
theorem okA1 (cs : List (Nat × Nat)) (k : Nat) : okQ (qA1 cs k) := by
  match k with
  | 0 => exact okBQ _
  | 1 => exact okCQ _
  | 2 => exact okIQ _ _ _
  | m + 3 =>
    show okQ (if m < 10 then IQ cs (20 * m) (tpF m) else JS cs 1)
    split
    · exact okIQ _ _ _
    · exact okJS _ _
theorem iBs_lt {cs : List (Nat × Nat)} (hc : csOK cs) : (iBs cs).length ≤ 82 ∧ (159 :: bOf cs).length ≤ 81 := by
  have h20 := hc.2
  obtain ⟨hl1, hl2⟩ := bOf_len hc.1
  have hlen := iBs_len cs
  refine ⟨by omega, ?_⟩
  rw [List.length_cons]
  omega
/-- the law, once all cells' bytes are put -/
theorem law_223 {cs : List (Nat × Nat)} (hc : csOK cs) {u : dH} {F : Nat} {G : dR → Prop} (hA : AR cs u) (hq : BQ (159 :: bOf cs) u) (hF : 4000000 ≤ F) (k : ∀ u2, WS opL u u2 → G (some (some (.inl 1), u2))) : G (drun dProg F 61 274 223 (rN cs.length) [] u) := by
  have h20 := hc.2
  have hin := inn_le cs
  obtain ⟨hl1, hl2⟩ := iBs_lt hc
  generalize hρ : rl [0, 1, cs.length, 0, inn cs, 0, 0, 0, 0, 0, 0] = ρ
  have hB : sok ρ BL := by rw [← hρ]; exact rl_ok (by decide) h20 (by decide) (by omega) (by decide)
  have p2 : ρ 2 = cs.length := by rw [← hρ]; rfl
  have p4 : ρ 4 = inn cs := by rw [← hρ]; rfl
  have en : sden ρ (0, [2]) = cs.length := by
    show 0 + (ρ 2 + 0) = _
    omega
  have ei : sden ρ (0, [4]) = inn cs := by
    show 0 + (ρ 4 + 0) = _
    omega
  have h := law_step (e := F - 10001) (Qs := fun j => match j with | 0 => BQ (159 :: bOf cs) | _ => BQ (iBs cs)) (S0 := lwS0) rfl b223 hB (fun j => by
    cases j with
    | zero => exact okBQ _
    | succ j => exact okBQ _) sgA0_ok (fun j c hj => by
    match j, hj with
    | 0, hj => cases hj; exact tc_put (c := 255) (by omega)
    | n + 1, hj => cases hj) (AR_S0 hA hq.1) hq (G := G) (fun f u2 hf h1 h2 h3 => by
    have e1 : slD ρ (l2L (0, []) (0, []) (0, [2])) = l2D 0 (inn (cs.take 0)) cs.length := by
      show (7, Sum.inl 0) :: (6, Sum.inl 0) :: rN (sden ρ (0, [2])) = _
      rw [en]
      rfl
    rw [e1]
    refine loop2 hc (okBQ (iBs cs)) (u0 := u) (F0 := 3700000) (fun F2 u3 hF2 i1 i2 i3 i4 => ?_) cs.length 0 _ u2 rfl (Nat.zero_le _) h1 h2 (AR_WS h1 hA) h3 (by omega)
    have he9 : 40000 ≤ F2 - 10001 := Nat.le_sub_of_add_le (Nat.le_trans (by decide) hF2)
    have g := law_step (e := F2 - 10001) (Qs := qA1 cs) (S0 := lwS0) rfl b237 hB (okA1 cs) sgA1_ok (fun j c hj => by
      match j, hj with
      | 0, hj => cases hj; exact tc_close (by omega)
      | 1, hj => cases hj; exact tc_item hc p2 p4
      | 2, hj => cases hj; exact tc_nd0 hc p2
      | 3, hj => cases hj; exact tc_feed (m := 0) (by decide)
      | 4, hj => cases hj; exact tc_feed (m := 1) (by decide)
      | 5, hj => cases hj; exact tc_feed (m := 2) (by decide)
      | 6, hj => cases hj; exact tc_feed (m := 3) (by decide)
      | 7, hj => cases hj; exact tc_feed (m := 4) (by decide)
      | 8, hj => cases hj; exact tc_feed (m := 5) (by decide)
      | 9, hj => cases hj; exact tc_feed (m := 6) (by decide)
      | 10, hj => cases hj; exact tc_feed (m := 7) (by decide)
      | 11, hj => cases hj; exact tc_feed (m := 8) (by decide)
      | 12, hj => cases hj; exact tc_gram he9
      | n + 13, hj => cases hj) (AR_S0 i3 i2) i4 (G := G) (fun f2 u4 hf2 j1 j2 j3 => by
      have e2 : slD ρ (lM [] (0, []) (1, []) (1, []) (0, [2])) = mD [] 0 (atc cs 0) 1 (inn cs) cs.length := by
        rw [mD_of, en]
        show mD [] 0 1 1 (sden ρ (0, [4])) cs.length = _
        rw [ei]
        rfl
      rw [e2]
      have j3 : JS cs 1 u4 := j3
      have hA4 := AR_WS j1 i3
      cases hcs : cs with
      | nil =>
        subst hcs
        exact law_tail hc (X := []) (Or.inl rfl) (fun _ => rfl) (fun _ => rfl) hA4 j2 j3 (by omega) fun u5 l1 => k u5 (WS_tr i1 (WS_tr j1 l1))
      | cons c0 t0 =>
        rw [← hcs]
        have hne : cs ≠ [] := by rw [hcs]; exact List.cons_ne_nil _ _
        refine loopM hc (b := 1) (u0 := u) (i := inn cs) (F0 := 3000000) (by omega) (by decide) (fun F3 u5 X hF3 l1 l2 l3 l4 hX hX0 => ?_) cs.length 0 _ u4 [] 1 rfl (Nat.zero_le _) (fun _ => rfl) (Or.inl rfl) (by decide) (Nat.one_mul _).symm (WS_tr i1 j1) j2 hA4 j3 (by omega)
        exact law_tail hc hX hX0 (fun w => absurd w hne) l3 l2 l4 (by omega) fun u6 m1 => k u6 (WS_tr l1 m1))
    have e3 : slD ρ (l2L (0, [2]) (0, [4]) (0, [2])) = l2D cs.length (inn cs) cs.length := by
      show (7, Sum.inl (sden ρ (0, [2]))) :: (6, Sum.inl (sden ρ (0, [4]))) :: rN (sden ρ (0, [2])) = _
      rw [en, ei]
      rfl
    rw [e3, show 10001 + (F2 - 10001) = F2 by omega] at g
    exact g)
  have e0 : slD ρ (restL (0, [2])) = rN cs.length := by
    show rN (sden ρ (0, [2])) = _
    rw [en]
  rw [e0, show 10001 + (F - 10001) = F by omega] at h
  exact h

/-! ===== the law behind its loop over the cells ===== -/
def rBD (X : dL) (a e i n : Nat) : dL := (7, .inl 1) :: (9, .inl a) :: (8, .inl e) :: (X ++ ((6, .inl i) :: rN n))
theorem rB_d (ρ : Nat → Nat) (X : sL) (a e i n : sN) : slD ρ (rB X a e i n) = rBD (slD ρ X) (sden ρ a) (sden ρ e) (sden ρ i) (sden ρ n) := by
  unfold rB rBD
  simp only [slD, List.map_cons, List.map_append]
  rfl
theorem slD_app (ρ : Nat → Nat) (X Y : sL) : slD ρ (X ++ Y) = slD ρ X ++ slD ρ Y := by
  unfold slD
  rw [List.map_append]
def yAn (k g : Nat) : dL := [(11, .inl g), (10, .inl k)]
def yBn (k g : Nat) : dL := [(10, .inl k), (11, .inl g)]
theorem yA_d (ρ : Nat → Nat) (k g : sN) : slD ρ (yA k g) = yAn (sden ρ k) (sden ρ g) := rfl
theorem yB_d (ρ : Nat → Nat) (k g : sN) : slD ρ (yB k g) = yBn (sden ρ k) (sden ρ g) := rfl
theorem AR_S0 {cs : List (Nat × Nat)} {ρ : Nat → Nat} {u : dH} (hA : AR cs u) (hw : hwf u) : sfit ρ opL lwS0 u := by
  obtain ⟨⟨c1, h1⟩, ⟨c2, h2⟩, -⟩ := hA
  refine sfit_mk hw (by show List.Nodup [127, 128]; decide) (fun q hq => ?_) fun a kd n X hm => ?_
  · simp only [lwS0, List.mem_cons, List.not_mem_nil, or_false] at hq
    rcases hq with rfl | rfl <;> rfl
  · simp only [lwS0, List.mem_cons, List.not_mem_nil, or_false, Prod.mk.injEq] at hm
    rcases hm with ⟨rfl, rfl, rfl, rfl⟩ | ⟨rfl, rfl, rfl, rfl⟩
    · exact sct_in h1 (ovP_nil _ _)
    · exact sct_in h2 (ovP_nil _ _)
theorem AR_wS {cs : List (Nat × Nat)} {ρ : Nat → Nat} {u : dH} {O : List (sN × sN)} (hA : AR cs u) (hw : hwf u) (hO : ovP u 127 (den ρ O)) : sfit ρ opL (wS O) u := by
  obtain ⟨⟨c1, h1⟩, ⟨c2, h2⟩, -⟩ := hA
  refine sfit_mk hw (by show List.Nodup [127, 128]; decide) (fun q hq => ?_) fun a kd n X hm => ?_
  · simp only [wS, List.mem_cons, List.not_mem_nil, or_false] at hq
    rcases hq with rfl | rfl <;> rfl
  · simp only [wS, List.mem_cons, List.not_mem_nil, or_false, Prod.mk.injEq] at hm
    rcases hm with ⟨rfl, rfl, rfl, rfl⟩ | ⟨rfl, rfl, rfl, rfl⟩
    · exact sct_in h1 hO
    · exact sct_in h2 (ovP_nil _ _)
/-- a judgement of the whole, as the law calls it -/
theorem tc_of {Q Q2 : dH → Prop} {ρ : Nat → Nat} {r a e : Nat} (he : 600000 ≤ e) (hw : ∀ u, Q2 u → hwf u) (h : ∀ u, Q u → ∀ e, ∃ u2, drun dProg (600000 + e) 60 261 0 [(0, .inr (.inr 1)), (1, .inl r), (2, .inl 0)] [] u = some (some (.inl a), u2) ∧ Q2 u2 ∧ FQ u u2) : tcOK ρ opL 5000 e Q Q2 (60, 261, [(0, .inr (.inr 1)), (1, .inl (r, [])), (2, .inl (0, []))], some (.inl (a, []))) := by
  intro f u _ _ hq
  obtain ⟨u2, h1, h2, h6⟩ := h u hq (f + e - 600000)
  refine ⟨u2, ?_, h2, hw u2 h2, h6.1, h6.2.1, fun a ha => h6.2.2 a (by have := opL_f ha; omega)⟩
  show drun dProg (f + e) 60 261 0 [(0, .inr (.inr 1)), (1, .inl r), (2, .inl 0)] [] u = some (some (.inl a), u2)
  rw [show 600000 + (f + e - 600000) = f + e by omega] at h1
  exact h1
theorem JS_hw {cs : List (Nat × Nat)} {b : Nat} {u : dH} (h : JS cs b u) : hwf u := h.1.1.1
theorem js5 {cs : List (Nat × Nat)} (hc : csOK cs) {b : Nat} (hb : b ≤ 8192) (u : dH) (h : JS cs b u) (e : Nat) : ∃ u2, drun dProg (600000 + e) 60 261 0 [(0, .inr (.inr 1)), (1, .inl 5), (2, .inl 0)] [] u = some (some (.inl (b2n (allB someB cs))), u2) ∧ JS cs b u2 ∧ FQ u u2 := by
  obtain ⟨u2, h1, h2, h3, h4, h5⟩ := whole5 hc hb h.1 h.2.1 h.2.2 e
  exact ⟨u2, h1, ⟨h2, h3, h4⟩, KP_FQ h5⟩
theorem js7 {cs : List (Nat × Nat)} (hc : csOK cs) {b : Nat} (hb : b ≤ 8192) (u : dH) (h : JS cs b u) (e : Nat) : ∃ u2, drun dProg (600000 + e) 60 261 0 [(0, .inr (.inr 1)), (1, .inl 7), (2, .inl 0)] [] u = some (some (.inl (b2n (allB onlyB cs))), u2) ∧ JS cs b u2 ∧ FQ u u2 := by
  obtain ⟨u2, h1, h2, h3, h4, h5⟩ := whole7 hc hb h.1 h.2.1 h.2.2 e
  exact ⟨u2, h1, ⟨h2, h3, h4⟩, KP_FQ h5⟩
theorem js6 {cs : List (Nat × Nat)} (hc : csOK cs) (u : dH) (h : JS cs 1 u) (e : Nat) : ∃ u2, drun dProg (600000 + e) 60 261 0 [(0, .inr (.inr 1)), (1, .inl 6), (2, .inl 0)] [] u = some (some (.inl (b2n (two cs))), u2) ∧ JS cs 8192 u2 ∧ FQ u u2 := by
  obtain ⟨u2, h1, h2, h3, h4, h5⟩ := whole6 hc h.1 h.2.1 h.2.2 e
  exact ⟨u2, h1, ⟨h2, h3, h4⟩, KP_FQ h5⟩
theorem tc_len {cs : List (Nat × Nat)} (hc : csOK cs) {b e : Nat} {ρ : Nat → Nat} (hρ : ρ 2 = cs.length) : tcOK ρ opL 5000 e (JS cs b) (JS cs b) (60, 260, [(0, .inr (.inr 1)), (1, .inl (0, [])), (2, .inl (1, []))], some (.inr (.inl (0, [2])))) := by
  intro f u hf _ hq
  have hf : 5000 ≤ f := hf
  obtain ⟨u2, h1, h2, h6⟩ := node_len hc hq (f + e - 500)
  refine ⟨u2, ?_, h2, h2.1.1.1, h6.1, h6.2.1, fun a ha => h6.2.2 a (by have := opL_f ha; omega)⟩
  show drun dProg (f + e) 60 260 0 [(0, .inr (.inr 1)), (1, .inl 0), (2, .inl 1)] [] u = some (some (.inr (.inl (0 + (ρ 2 + 0)))), u2)
  rw [show f + e = 500 + (f + e - 500) by omega, h1, hρ, Nat.add_zero, Nat.zero_add]
def jD5 (a b c d e : Nat) : dL := [(16, .inl a), (15, .inl b), (14, .inl c), (13, .inl d), (12, .inl e)]
def isX5 (cs : List (Nat × Nat)) (X : dL) : Prop := (cs = [] ∧ X = []) ∨ (cs ≠ [] ∧ ∃ a b c d e, (a < 4294967296 ∧ b < 4294967296 ∧ c < 4294967296 ∧ d < 4294967296 ∧ e < 4294967296) ∧ X = jD5 a b c d e)
theorem sgB_get {e : Nat} (he : e ≤ 1) : sgB [] [] e = true ∧ sgB jX jX5 e = true := by
  have h := sgB_ok
  simp only [Bool.and_eq_true] at h
  obtain ⟨h1, h2, h3, h4⟩ := h
  rcases Nat.le_one_iff_eq_zero_or_eq_one.mp he with rfl | rfl
  · exact ⟨h1, h3⟩
  · exact ⟨h2, h4⟩
/-- from the cells' loop to the next -/
theorem stepB {cs : List (Nat × Nat)} (hc : csOK cs) {u : dH} {X : dL} {F : Nat} {G : dR → Prop} (hX : isX X) (hX0 : X = [] → cs = []) (hX1 : cs = [] → X = []) (hA : AR cs u) (hw : hwf u) (hq : JS cs 1 u) (hF : 700000 ≤ F) (k : ∀ f u2 X5, 5000 ≤ f → WS opL u u2 → hwf u2 → JS cs 1 u2 → isX5 cs X5 → G (drun dProg (f + (F - 10001)) 61 274 914 (yAn 0 1 ++ rBD X5 (1 + nOf cs) (b2n (allB someB cs)) (inn cs) cs.length) [] u2)) : G (drun dProg F 61 274 491 (mD X cs.length (1 + nOf cs) (b2n (allB someB cs)) (inn cs) cs.length) [] u) := by
  have h20 := hc.2
  have hin := inn_le cs
  have hno := nOf_inn (fun c h => (hc.1 c h).1)
  have hb1 := b2n_le (allB someB cs)
  obtain ⟨g0, g1⟩ := sgB_get hb1
  have he9 : 600000 ≤ F - 10001 := Nat.le_sub_of_add_le (Nat.le_trans (by decide) hF)
  have key : ∀ (Xs X5s : sL) (ρ : Nat → Nat), sok ρ BL → ρ 2 = cs.length → ρ 4 = inn cs → slD ρ Xs = X → isX5 cs (slD ρ X5s) → sgB Xs X5s (b2n (allB someB cs)) = true → G (drun dProg F 61 274 491 (mD X cs.length (1 + nOf cs) (b2n (allB someB cs)) (inn cs) cs.length) [] u) := by
    intro Xs X5s ρ hB p2 p4 hXs hX5 hit
    have e0 : slD ρ (lM Xs (0, [2]) (1, [2, 4]) (b2n (allB someB cs), []) (0, [2])) = mD X cs.length (1 + nOf cs) (b2n (allB someB cs)) (inn cs) cs.length := by
      rw [mD_of, hXs]
      show mD X (0 + (ρ 2 + 0)) (1 + (ρ 2 + (ρ 4 + 0))) (b2n (allB someB cs)) (0 + (ρ 4 + 0)) (0 + (ρ 2 + 0)) = _
      rw [show 0 + (ρ 2 + 0) = cs.length by omega, show 1 + (ρ 2 + (ρ 4 + 0)) = 1 + nOf cs by omega, show 0 + (ρ 4 + 0) = inn cs by omega]
    have e1 : slD ρ ((11, .inl (1, [])) :: (10, .inl (0, [])) :: rB X5s (1, [2, 4]) (b2n (allB someB cs), []) (0, [4]) (0, [2])) = yAn 0 1 ++ rBD (slD ρ X5s) (1 + nOf cs) (b2n (allB someB cs)) (inn cs) cs.length := by
      show (11, Sum.inl 1) :: (10, Sum.inl 0) :: slD ρ (rB X5s (1, [2, 4]) (b2n (allB someB cs), []) (0, [4]) (0, [2])) = _
      rw [rB_d]
      show (11, Sum.inl 1) :: (10, Sum.inl 0) :: rBD (slD ρ X5s) (1 + (ρ 2 + (ρ 4 + 0))) (b2n (allB someB cs)) (0 + (ρ 4 + 0)) (0 + (ρ 2 + 0)) = _
      rw [show 0 + (ρ 2 + 0) = cs.length by omega, show 1 + (ρ 2 + (ρ 4 + 0)) = 1 + nOf cs by omega, show 0 + (ρ 4 + 0) = inn cs by omega]
      rfl
    have h := law_step (e := F - 10001) (Qs := fun _ => JS cs 1) (S0 := lwS0) rfl b491 hB (fun _ => okJS cs 1) hit (fun j c hj => by
      match j, hj with
      | 0, hj => cases hj; exact tc_of he9 (fun u h => JS_hw h) (js5 hc (by decide))
      | 1, hj => cases hj; exact tc_len hc p2
      | n + 2, hj => cases hj) (AR_S0 hA hw) hq (G := G) (fun f u2 hf h1 h2 h3 => by
      rw [e1]
      exact k f u2 _ hf h1 h2 h3 hX5)
    rw [e0, show 10001 + (F - 10001) = F by omega] at h
    exact h
  rcases hX with rfl | ⟨x1, x2, x3, x4, x5, x6, hx, rfl⟩
  · exact key [] [] (rl [0, 1, cs.length, 0, inn cs, 0, 0, 0, 0, 0, 0]) (rl_ok (by decide) (by omega) (by decide) (by omega) (by decide)) rfl rfl rfl (Or.inl ⟨hX0 rfl, rfl⟩) g0
  · refine key jX jX5 (rl [0, 1, cs.length, 0, inn cs, x1, x2, x3, x4, x5, x6]) (rl_ok (by decide) (by omega) (by decide) (by omega) hx) rfl rfl ?_ (Or.inr ⟨fun w => ?_, x1, x2, x3, x4, x5, ⟨hx.1, hx.2.1, hx.2.2.1, hx.2.2.2.1, hx.2.2.2.2.1⟩, ?_⟩) g1
    · show [(16, Sum.inl (0 + (x1 + 0))), (15, Sum.inl (0 + (x2 + 0))), (14, Sum.inl (0 + (x3 + 0))), (13, Sum.inl (0 + (x4 + 0))), (12, Sum.inl (0 + (x5 + 0))), (11, Sum.inl (0 + (x6 + 0)))] = jD x1 x2 x3 x4 x5 x6
      simp only [Nat.add_zero, Nat.zero_add]
      rfl
    · have := hX1 w
      cases this
    · show [(16, Sum.inl (0 + (x1 + 0))), (15, Sum.inl (0 + (x2 + 0))), (14, Sum.inl (0 + (x3 + 0))), (13, Sum.inl (0 + (x4 + 0))), (12, Sum.inl (0 + (x5 + 0)))] = jD5 x1 x2 x3 x4 x5
      simp only [Nat.add_zero, Nat.zero_add]
      rfl
theorem it4_get (b : Bool) : it4i b 0 = true ∧ it4i b 1 = true ∧ it4k b 2 = true ∧ it4k b 3 = true ∧ it4k b 4 = true := by
  have h := List.all_eq_true.mp it4_ok b (by cases b <;> simp)
  simp only [Bool.and_eq_true] at h
  exact h
theorem it4i_k (b : Bool) {k : Nat} (hk : k < 2) : it4i b k = true := by
  match k, hk with
  | 0, _ => exact (it4_get b).1
  | 1, _ => exact (it4_get b).2.1
theorem it4k_k (b : Bool) {k : Nat} (h2 : 2 ≤ k) (hk : k < 5) : it4k b k = true := by
  rcases (show k = 2 ∨ k = 3 ∨ k = 4 by omega) with rfl | rfl | rfl
  · exact (it4_get b).2.2.1
  · exact (it4_get b).2.2.2.1
  · exact (it4_get b).2.2.2.2
theorem it4n_k (b : Bool) {k m : Nat} (h2 : 2 ≤ k) (hk : k < 5) (hm : m < 5) (hm2 : m ≠ 2) : it4n b k m = true := by
  have h := it4k_k b h2 hk
  unfold it4k at h
  simp only [Bool.and_eq_true] at h
  rcases (show m = 0 ∨ m = 1 ∨ m = 3 ∨ m = 4 by omega) with rfl | rfl | rfl | rfl
  · exact h.2.2.1
  · exact h.2.2.2.1
  · exact h.2.2.2.2.1
  · exact h.2.2.2.2.2
def y4n (b : Bool) (k : Nat) : dL := cond b (yAn k 1) (yBn k 1)
theorem y4_d (ρ : Nat → Nat) (b : Bool) (k : Nat) (h : ρ 3 = k) : slD ρ (y4 b) = y4n b k := by
  have e : sden ρ (0, [3]) = k := by
    show 0 + (ρ 3 + 0) = k
    omega
  cases b with
  | true => show yAn (sden ρ (0, [3])) 1 = _; rw [e]; rfl
  | false => show yBn (sden ρ (0, [3])) 1 = _; rw [e]; rfl
/-- the loop that goes through the row -/
theorem loop4 {cs : List (Nat × Nat)} (hc : csOK cs) {a e i x1 x2 x3 x4 x5 : Nat} (ha : 1 ≤ a ∧ a ≤ 42) (hi : i ≤ 60) (hx : x1 < 4294967296 ∧ x2 < 4294967296 ∧ x3 < 4294967296 ∧ x4 < 4294967296 ∧ x5 < 4294967296 ∧ e < 4294967296) {Q : dH → Prop} (hQ : okQ Q) {u0 : dH} {G : dR → Prop} {F0 : Nat} (hG1 : ∀ F u, F0 ≤ F → WS opL u0 u → hwf u → AR cs u → Q u → two cs = true → G (drun dProg F 61 274 914 (yBn cs.length 1 ++ rBD (jD5 x1 x2 x3 x4 x5) a e i cs.length) [] u)) (hG2 : ∀ F u k, F0 ≤ F → WS opL u0 u → hwf u → AR cs u → Q u → k < cs.length → two cs = false → G (drun dProg F 61 274 914 (yAn k 0 ++ rBD (jD5 x1 x2 x3 x4 x5) a e i cs.length) [] u)) : ∀ (m k : Nat) (b : Bool) (F : Nat) (u : dH), cs.length - k ≤ m → k ≤ cs.length → (k = cs.length → b = false) → two cs = two (cs.drop k) → WS opL u0 u → hwf u → AR cs u → Q u → F0 + 10001 * m ≤ F → G (drun dProg F 61 274 914 (y4n b k ++ rBD (jD5 x1 x2 x3 x4 x5) a e i cs.length) [] u) := by
  have h20 := hc.2
  have hend : ∀ (k : Nat) (b : Bool) (F : Nat) (u : dH), k = cs.length → (k = cs.length → b = false) → two cs = two (cs.drop k) → WS opL u0 u → hwf u → AR cs u → Q u → F0 ≤ F → G (drun dProg F 61 274 914 (y4n b k ++ rBD (jD5 x1 x2 x3 x4 x5) a e i cs.length) [] u) := by
    intro k b F u hk hb ht hW hw hA hq hF
    have hb := hb hk
    subst hb hk
    rw [List.drop_length] at ht
    exact hG1 F u hF hW hw hA hq ht
  intro m
  induction m with
  | zero =>
    intro k b F u hm hk hb ht hW hw hA hq hF
    exact hend k b F u (by omega) hb ht hW hw hA hq (by omega)
  | succ m ih =>
    intro k b F u hm hk hb ht hW hw hA hq hF
    by_cases hkl : k = cs.length
    · exact hend k b F u hkl hb ht hW hw hA hq (by omega)
    · obtain ⟨s, hs, s1, s2⟩ := cs_k hc (show k < cs.length by omega)
      have hd := drop_of hs
      have hAk := (hA.2.2 k s hs).1
      have key : ∀ (r : Nat) (n : sN) (O : List (sN × sN)) (Y2 : sL) (Y2n : dL), r ≤ 20 → (∀ ρ : Nat → Nat, ρ 2 = r → ρ 3 = k → sden ρ n = cs.length ∧ ovP u 127 (den ρ O) ∧ slD ρ Y2 = Y2n) → itG (y4 b) n O Y2 = true → (∀ f u2, 5000 ≤ f → WS opL u u2 → hwf u2 → Q u2 → G (drun dProg (f + (F - 10001)) 61 274 914 (Y2n ++ rBD (jD5 x1 x2 x3 x4 x5) a e i cs.length) [] u2)) → G (drun dProg F 61 274 914 (y4n b k ++ rBD (jD5 x1 x2 x3 x4 x5) a e i cs.length) [] u) := by
        intro r n O Y2 Y2n hr hρ hit kk
        generalize hρ0 : rl [0, a, r, k, i, x1, x2, x3, x4, x5, e] = ρ
        have hB : sok ρ BL := by rw [← hρ0]; exact rl_ok ha hr (by omega) hi hx
        have p3 : ρ 3 = k := by rw [← hρ0]; rfl
        have p2 : ρ 2 = r := by rw [← hρ0]; rfl
        obtain ⟨q1, q2, q3⟩ := hρ ρ p2 p3
        have er : ∀ Y : sL, slD ρ (Y ++ r4 n) = slD ρ Y ++ rBD (jD5 x1 x2 x3 x4 x5) a e i cs.length := by
          intro Y
          rw [slD_app]
          congr 1
          show slD ρ (rB jX5 (0, [1]) (0, [10]) (0, [4]) n) = _
          rw [rB_d, q1, ← hρ0]
          show rBD [(16, Sum.inl (0 + (x1 + 0))), (15, Sum.inl (0 + (x2 + 0))), (14, Sum.inl (0 + (x3 + 0))), (13, Sum.inl (0 + (x4 + 0))), (12, Sum.inl (0 + (x5 + 0)))] (0 + (a + 0)) (0 + (e + 0)) (0 + (i + 0)) cs.length = _
          simp only [Nat.add_zero, Nat.zero_add]
          rfl
        have h := law_step (e := F - 10001) (Qs := fun _ => Q) (S0 := wS O) rfl b914 hB (fun _ => hQ) hit (fun j c hj => nomatch hj) (AR_wS hA hw q2) hq (G := G) (fun f u2 hf h1 h2 h3 => by
          rw [er, q3]
          exact kk f u2 hf h1 h2 h3)
        rw [er, y4_d ρ b k p3, show 10001 + (F - 10001) = F by omega] at h
        exact h
      have e3 : ∀ ρ : Nat → Nat, ρ 3 = k → ∀ c, sden ρ (c, [3]) = c + k := fun ρ h c => by
        show c + (ρ 3 + 0) = _
        omega
      by_cases hlt : s.1 < 2
      · refine key (cs.length - k - 1) (1, [2, 3]) [((0, [3]), (s.1, []))] (yB (1, [3]) (1, [])) (yBn (k + 1) 1) (by omega) (fun ρ p2 p3 => ⟨?_, ?_, ?_⟩) (it4i_k b hlt) fun f u2 hf h1 h2 h3 => ?_
        · show 1 + (ρ 2 + (ρ 3 + 0)) = _
          omega
        · show ovP u 127 [(sden ρ (0, [3]), s.1)]
          rw [e3 ρ p3, Nat.zero_add]
          exact ovP_1 hAk
        · rw [yB_d, e3 ρ p3, Nat.add_comm]; rfl
        · refine ih (k + 1) false _ u2 (by omega) (by omega) (fun _ => rfl) ?_ (WS_tr hW h1) h2 (AR_WS h1 hA) h3 (by omega)
          rw [ht, hd, (st6_int (p := 0) hlt).2]
      · have hge : 2 ≤ s.1 := by omega
        have hk4 := it4k_k b hge s1
        unfold it4k at hk4
        simp only [Bool.and_eq_true] at hk4
        cases hs2 : cs[k + 1]? with
        | none =>
          have hl := List.getElem?_eq_none_iff.mp hs2
          refine key 0 (1, [3]) [((0, [3]), (s.1, []))] (yA (0, [3]) (0, [])) (yAn k 0) (by omega) (fun ρ p2 p3 => ⟨?_, ?_, ?_⟩) hk4.1 fun f u2 hf h1 h2 h3 => ?_
          · show 1 + (ρ 3 + 0) = _
            omega
          · show ovP u 127 [(sden ρ (0, [3]), s.1)]
            rw [e3 ρ p3, Nat.zero_add]
            exact ovP_1 hAk
          · rw [yA_d, e3 ρ p3, Nat.zero_add]; rfl
          · refine hG2 _ u2 k (by omega) (WS_tr hW h1) h2 (AR_WS h1 hA) h3 (by omega) ?_
            rw [ht, hd, List.drop_eq_nil_of_le hl, (st6_end (p := 0) hge).2]
        | some s2 =>
          have hd2 := drop_of hs2
          have hAk2 := (hA.2.2 (k + 1) s2 hs2).1
          have hl2 := (List.getElem?_eq_some_iff.mp hs2).1
          have hm5 := (hc.1 s2 (List.mem_of_getElem? hs2)).1
          rw [hd2] at hd
          have hO : ∀ (m : Nat), m = s2.1 → ∀ ρ : Nat → Nat, ρ 3 = k → ovP u 127 (den ρ [((0, [3]), (s.1, [])), ((1, [3]), (m, []))]) := by
            intro m hm ρ p3
            show ovP u 127 [(sden ρ (0, [3]), s.1), (sden ρ (1, [3]), m)]
            rw [e3 ρ p3, e3 ρ p3, Nat.zero_add, Nat.add_comm 1 k]
            exact ovP_2 hAk (by rw [hm]; exact hAk2) (by omega)
          by_cases ht2 : s2.1 = 2
          · refine key (cs.length - k - 2) (2, [2, 3]) [((0, [3]), (s.1, [])), ((1, [3]), (2, []))] (yB (2, [3]) (1, [])) (yBn (k + 2) 1) (by omega) (fun ρ p2 p3 => ⟨?_, hO 2 ht2.symm ρ p3, ?_⟩) hk4.2.1 fun f u2 hf h1 h2 h3 => ?_
            · show 2 + (ρ 2 + (ρ 3 + 0)) = _
              omega
            · rw [yB_d, e3 ρ p3, Nat.add_comm]; rfl
            · refine ih (k + 2) false _ u2 (by omega) (by omega) (fun _ => rfl) ?_ (WS_tr hW h1) h2 (AR_WS h1 hA) h3 (by omega)
              rw [ht, hd, (st6_txt (p := 0) hge ht2).2]
          · refine key (cs.length - k - 2) (2, [2, 3]) [((0, [3]), (s.1, [])), ((1, [3]), (s2.1, []))] (yA (0, [3]) (0, [])) (yAn k 0) (by omega) (fun ρ p2 p3 => ⟨?_, hO s2.1 rfl ρ p3, ?_⟩) (it4n_k b hge s1 hm5 ht2) fun f u2 hf h1 h2 h3 => ?_
            · show 2 + (ρ 2 + (ρ 3 + 0)) = _
              omega
            · rw [yA_d, e3 ρ p3, Nat.zero_add]; rfl
            · refine hG2 _ u2 k (by omega) (WS_tr hW h1) h2 (AR_WS h1 hA) h3 (by omega) ?_
              rw [ht, hd, (st6_no (p := 0) hge ht2).2]
/-- between the loops -/
theorem stepC {cs : List (Nat × Nat)} {Y X5 X3 : sL} {a e i n : sN} {ρ : Nat → Nat} {Q : dH → Prop} (hQ : okQ Q) (hB : sok ρ BL) (hit : sgC Y X5 X3 a e i n = true) {u : dH} (hA : AR cs u) (hw : hwf u) (hq : Q u) {F : Nat} (hF : 10001 ≤ F) {G : dR → Prop} (k : ∀ f u2, 5000 ≤ f → WS opL u u2 → hwf u2 → Q u2 → G (drun dProg (f + (F - 10001)) 61 274 980 ((13, .inl 0) :: (12, .inl 1) :: (slD ρ Y ++ slD ρ (rB X3 a e i n))) [] u2)) : G (drun dProg F 61 274 914 (slD ρ Y ++ slD ρ (rB X5 a e i n)) [] u) := by
  have h := law_step (e := F - 10001) (Qs := fun _ => Q) (S0 := lwS0) rfl b914 hB (fun _ => hQ) hit (fun j c hj => nomatch hj) (AR_S0 hA hw) hq (G := G) (fun f u2 hf h1 h2 h3 => by
    have h9 := k f u2 hf h1 h2 h3
    rw [← slD_app] at h9
    exact h9)
  rw [slD_app, show 10001 + (F - 10001) = F by omega] at h
  exact h
theorem itF_ok {k v : Nat} (hk : k < 5) (hv : v < 16) : it5s k v = true := by
  have h : ((List.range 16).all fun v => it5s k v) = true := by
    match k, hk with
    | 0, _ => exact it5_0
    | 1, _ => exact it5_1
    | 2, _ => exact it5_2
    | 3, _ => exact it5_3
    | 4, _ => exact it5_4
  exact List.all_eq_true.mp h v (List.mem_range.mpr hv)
theorem itF_get {k v : Nat} (hk : k < 5) (hv : v < 16) (b : Bool) {o : Nat} (ho : o ≤ 1) : itF b o k v = true := by
  have h := itF_ok hk hv
  unfold it5s at h
  simp only [Bool.and_eq_true] at h
  rcases Nat.le_one_iff_eq_zero_or_eq_one.mp ho with rfl | rfl
  · cases b with
    | true => exact h.1
    | false => exact h.2.2.1
  · cases b with
    | true => exact h.2.1
    | false => exact h.2.2.2
def y5n (b : Bool) (k g : Nat) : dL := cond b (yAn k g) (yBn k g)
def jD3 (a b c : Nat) : dL := [(16, .inl a), (15, .inl b), (14, .inl c)]
/-- the loop over the arrays -/
theorem loop5L {cs : List (Nat × Nat)} (hc : csOK cs) {a e i x1 x2 x3 kk g : Nat} {b : Bool} (hi : i ≤ 60) (hx : x1 < 4294967296 ∧ x2 < 4294967296 ∧ x3 < 4294967296 ∧ g < 4294967296 ∧ a < 4294967296 ∧ e < 4294967296) (hkk : kk < 4294967296) {Q : dH → Prop} (hQ : okQ Q) {u0 : dH} {G : dR → Prop} {F0 : Nat} (hG : ∀ F u, F0 ≤ F → WS opL u0 u → hwf u → AR cs u → Q u → G (drun dProg F 61 274 980 ((13, .inl cs.length) :: (12, .inl (b2n (allB onlyB cs))) :: (y5n b kk g ++ rBD (jD3 x1 x2 x3) a e i cs.length)) [] u)) : ∀ (m k o F : Nat) (u : dH), cs.length - k = m → k ≤ cs.length → o ≤ 1 → b2n (allB onlyB cs) = o * b2n (allB onlyB (cs.drop k)) → WS opL u0 u → hwf u → AR cs u → Q u → F0 + 10001 * m ≤ F → G (drun dProg F 61 274 980 ((13, .inl k) :: (12, .inl o) :: (y5n b kk g ++ rBD (jD3 x1 x2 x3) a e i cs.length)) [] u) := by
  have h20 := hc.2
  intro m
  induction m with
  | zero =>
    intro k o F u hm hk ho ho2 hW hw hA hq hF
    have hkl : k = cs.length := by omega
    rw [hkl, List.drop_length] at ho2
    have ho3 : b2n (allB onlyB cs) = o := by rw [ho2]; show o * 1 = o; omega
    rw [hkl, ← ho3]
    exact hG F u (by omega) hW hw hA hq
  | succ m ih =>
    intro k o F u hm hk ho ho2 hW hw hA hq hF
    obtain ⟨s, hs, s1, s2⟩ := cs_k hc (show k < cs.length by omega)
    have hit := itF_get s1 s2 b ho
    generalize hρ0 : rl [0, 1, cs.length - k - 1, k, i, x1, x2, x3, g, a, e, kk] = ρ
    have hB : sok ρ BL := by rw [← hρ0]; exact rl_ok2 (by decide) (by omega) (by omega) hi hx hkk
    have p2 : ρ 2 = cs.length - k - 1 := by rw [← hρ0]; rfl
    have p3 : ρ 3 = k := by rw [← hρ0]; rfl
    have hS : sfit ρ opL (mS (s.1, []) (s.2, [])) u := AR_fit hA hw hs p3 rfl rfl
    have hn : sden ρ (1, [2, 3]) = cs.length := by
      show 1 + (ρ 2 + (ρ 3 + 0)) = _
      omega
    have er : slD ρ (y5 b ++ r5 (1, [2, 3])) = y5n b kk g ++ rBD (jD3 x1 x2 x3) a e i cs.length := by
      rw [slD_app]
      congr 1
      · rw [← hρ0]
        cases b with
        | true =>
          show yAn (0 + (kk + 0)) (0 + (g + 0)) = _
          rw [Nat.add_zero, Nat.zero_add, Nat.add_zero, Nat.zero_add]; rfl
        | false =>
          show yBn (0 + (kk + 0)) (0 + (g + 0)) = _
          rw [Nat.add_zero, Nat.zero_add, Nat.add_zero, Nat.zero_add]; rfl
      · show slD ρ (rB jX3 (0, [9]) (0, [10]) (0, [4]) (1, [2, 3])) = _
        rw [rB_d, hn, ← hρ0]
        show rBD [(16, Sum.inl (0 + (x1 + 0))), (15, Sum.inl (0 + (x2 + 0))), (14, Sum.inl (0 + (x3 + 0)))] (0 + (a + 0)) (0 + (e + 0)) (0 + (i + 0)) cs.length = _
        simp only [Nat.add_zero, Nat.zero_add]
        rfl
    have e0 : ∀ (c d : sN), slD ρ ((13, .inl c) :: (12, .inl d) :: (y5 b ++ r5 (1, [2, 3]))) = (13, .inl (sden ρ c)) :: (12, .inl (sden ρ d)) :: (y5n b kk g ++ rBD (jD3 x1 x2 x3) a e i cs.length) := by
      intro c d
      show (13, Sum.inl (sden ρ c)) :: (12, Sum.inl (sden ρ d)) :: slD ρ (y5 b ++ r5 (1, [2, 3])) = _
      rw [er]
    have h := law_step (e := F - 10001) (Qs := fun _ => Q) (mS_inr _ _) b980 hB (fun _ => hQ) hit (fun j c hj => nomatch hj) hS hq (G := G) (fun f u2 hf h1 h2 h3 => by
      rw [e0]
      show G (drun dProg (f + (F - 10001)) 61 274 980 ((13, .inl (1 + (ρ 3 + 0))) :: (12, .inl (o * b2n (onlyB s.1 s.2))) :: (y5n b kk g ++ rBD (jD3 x1 x2 x3) a e i cs.length)) [] u2)
      rw [show 1 + (ρ 3 + 0) = k + 1 by omega]
      have hb9 := b2n_le (onlyB s.1 s.2)
      refine ih (k + 1) _ _ u2 (by omega) (by omega) ?_ ?_ (WS_tr hW h1) h2 (AR_WS h1 hA) h3 (by omega)
      · have : o * b2n (onlyB s.1 s.2) ≤ 1 * 1 := Nat.mul_le_mul ho hb9
        omega
      · rw [ho2, drop_of hs]
        show o * b2n (cond (onlyB s.1 s.2) (allB onlyB (cs.drop (k + 1))) false) = _
        cases onlyB s.1 s.2 with
        | true => show o * b2n (allB onlyB (cs.drop (k + 1))) = o * 1 * b2n (allB onlyB (cs.drop (k + 1))); rw [Nat.mul_one]
        | false => show o * 0 = o * 0 * b2n (allB onlyB (cs.drop (k + 1))); rw [Nat.mul_zero, Nat.zero_mul])
    rw [e0] at h
    have e9 : sden ρ (0, [3]) = k := by
      show 0 + (ρ 3 + 0) = k
      omega
    rw [e9, show 10001 + (F - 10001) = F by omega] at h
    exact h
/-- the end -/
theorem stepD {cs : List (Nat × Nat)} (hc : csOK cs) {Y X3 : sL} {n : sN} {ρ : Nat → Nat} (hB : sok ρ BL) (hit : sgD Y X3 (b2n (two cs)) (b2n (allB onlyB cs)) n = true) {u : dH} (hA : AR cs u) (hw : hwf u) (hq : JS cs 1 u) {F : Nat} (hF : 700000 ≤ F) {G : dR → Prop} (k : ∀ u2, WS opL u u2 → G (some (some (.inl 1), u2))) : G (drun dProg F 61 274 980 (slD ρ ((13, .inl n) :: (12, .inl (b2n (allB onlyB cs), [])) :: (Y ++ rB X3 (0, [9]) (0, [10]) (0, [4]) n))) [] u) := by
  have he9 : 600000 ≤ F - 10001 := Nat.le_sub_of_add_le (Nat.le_trans (by decide) hF)
  have hQ : ∀ j, okQ ((fun j => match j with | 0 => JS cs 1 | _ => JS cs 8192 : Nat → dH → Prop) j) := by
    intro j
    cases j with
    | zero => exact okJS cs 1
    | succ j => exact okJS cs 8192
  have h := law_go (e := F - 10001) (Qs := fun j => match j with | 0 => JS cs 1 | _ => JS cs 8192) (S0 := lwS0) rfl b980 hB hQ hit (fun j c hj => by
    match j, hj with
    | 0, hj => cases hj; exact tc_of he9 (fun u h => JS_hw h) (js6 hc)
    | 1, hj => cases hj; exact tc_of he9 (fun u h => JS_hw h) (js7 hc (by decide))
    | n + 2, hj => cases hj) (AR_S0 hA hw) hq (G := G) (fun z hz => by
    cases z with
    | inl q => cases hz
    | inr q =>
      obtain ⟨v, S⟩ := q
      have hz : v = some (.inl (1, [])) := @of_decide_eq_true _ (dqO _ _) hz
      subst hz
      exact fun u2 h1 h2 h3 => k u2 h1)
  rw [show 10001 + (F - 10001) = F by omega] at h
  exact h
theorem b2n_01 (b : Bool) : b2n b = 0 ∨ b2n b = 1 := by cases b <;> simp [b2n]
/-- the law, from the end of its loop over the cells to its answer -/
theorem law_tail {cs : List (Nat × Nat)} (hc : csOK cs) {u : dH} {X : dL} {F : Nat} {G : dR → Prop} (hX : isX X) (hX0 : X = [] → cs = []) (hX1 : cs = [] → X = []) (hA : AR cs u) (hw : hwf u) (hq : JS cs 1 u) (hF : 2000000 ≤ F) (k : ∀ u2, WS opL u u2 → G (some (some (.inl 1), u2))) : G (drun dProg F 61 274 491 (mD X cs.length (1 + nOf cs) (b2n (allB someB cs)) (inn cs) cs.length) [] u) := by
  have h20 := hc.2
  have hin := inn_le cs
  have hno := nOf_inn (fun c h => (hc.1 c h).1)
  have hb1 := b2n_le (allB someB cs)
  refine stepB hc hX hX0 hX1 hA hw hq (by omega) fun f u2 X5 hf h1 h2 h3 hX5 => ?_
  have hC := sgC_ok
  have hD := sgD_ok
  simp only [Bool.and_eq_true] at hC hD
  obtain ⟨c0, c1, c2⟩ := hC
  obtain ⟨d0, ⟨d1, d2⟩, d3, d4⟩ := hD
  rcases hX5 with ⟨rfl, rfl⟩ | ⟨hne, x1, x2, x3, x4, x5, hx, rfl⟩
  · have hB : sok (rl [0, 1, 0, 0, 0, 0, 0, 0, 0, 1, 1]) BL := rl_ok (by decide) (by decide) (by decide) (by decide) (by decide)
    have g := stepC (cs := []) (okJS [] 1) hB c0 (AR_WS h1 hA) h2 h3 (F := f + (F - 10001)) (by omega) (G := G) (fun f2 u3 hf2 i1 i2 i3 => by
      exact stepD hc hB d0 (AR_WS i1 (AR_WS h1 hA)) i2 i3 (F := f2 + (f + (F - 10001) - 10001)) (by omega) fun u4 j1 => k u4 (WS_tr h1 (WS_tr i1 j1)))
    exact g
  · have hpos : 0 < cs.length := List.length_pos_iff.mpr hne
    have hB5 : ∀ r k : Nat, r ≤ 20 → k ≤ 19 → sok (rl [0, 1, r, k, inn cs, x1, x2, x3, x4, x5, b2n (allB someB cs)]) BL := fun r k h1 h2 => rl_ok (by decide) h1 h2 (by omega) ⟨hx.1, hx.2.1, hx.2.2.1, hx.2.2.2.1, hx.2.2.2.2, by omega⟩
    have hB3 : ∀ r k g : Nat, r ≤ 20 → k ≤ 19 → g ≤ 1 → sok (rl [0, 1, r, k, inn cs, x1, x2, x3, g, 1 + nOf cs, b2n (allB someB cs)]) BL := fun r k g h1 h2 h3 => rl_ok (by decide) h1 h2 (by omega) ⟨hx.1, hx.2.1, hx.2.2.1, by omega, by omega, by omega⟩
    have eC5 : ∀ r k : Nat, r = cs.length → slD (rl [0, 1, r, k, inn cs, x1, x2, x3, x4, x5, b2n (allB someB cs)]) (rB jX5 (1, [2, 4]) (0, [10]) (0, [4]) (0, [2])) = rBD (jD5 x1 x2 x3 x4 x5) (1 + nOf cs) (b2n (allB someB cs)) (inn cs) cs.length := by
      intro r k hr
      rw [rB_d]
      show rBD [(16, Sum.inl (0 + (x1 + 0))), (15, Sum.inl (0 + (x2 + 0))), (14, Sum.inl (0 + (x3 + 0))), (13, Sum.inl (0 + (x4 + 0))), (12, Sum.inl (0 + (x5 + 0)))] (1 + (r + (inn cs + 0))) (0 + (b2n (allB someB cs) + 0)) (0 + (inn cs + 0)) (0 + (r + 0)) = _
      rw [show 1 + (r + (inn cs + 0)) = 1 + nOf cs by omega, show 0 + (r + 0) = cs.length by omega]
      simp only [Nat.add_zero, Nat.zero_add]
      rfl
    have eC3 : ∀ r k : Nat, r = cs.length → slD (rl [0, 1, r, k, inn cs, x1, x2, x3, x4, x5, b2n (allB someB cs)]) (rB jX3 (1, [2, 4]) (0, [10]) (0, [4]) (0, [2])) = rBD (jD3 x1 x2 x3) (1 + nOf cs) (b2n (allB someB cs)) (inn cs) cs.length := by
      intro r k hr
      rw [rB_d]
      show rBD [(16, Sum.inl (0 + (x1 + 0))), (15, Sum.inl (0 + (x2 + 0))), (14, Sum.inl (0 + (x3 + 0)))] (1 + (r + (inn cs + 0))) (0 + (b2n (allB someB cs) + 0)) (0 + (inn cs + 0)) (0 + (r + 0)) = _
      rw [show 1 + (r + (inn cs + 0)) = 1 + nOf cs by omega, show 0 + (r + 0) = cs.length by omega]
      simp only [Nat.add_zero, Nat.zero_add]
      rfl
    have eD3 : ∀ (r k g : Nat) (n : sN), sden (rl [0, 1, r, k, inn cs, x1, x2, x3, g, 1 + nOf cs, b2n (allB someB cs)]) n = cs.length → slD (rl [0, 1, r, k, inn cs, x1, x2, x3, g, 1 + nOf cs, b2n (allB someB cs)]) (rB jX3 (0, [9]) (0, [10]) (0, [4]) n) = rBD (jD3 x1 x2 x3) (1 + nOf cs) (b2n (allB someB cs)) (inn cs) cs.length := by
      intro r k g n hn
      rw [rB_d, hn]
      show rBD [(16, Sum.inl (0 + (x1 + 0))), (15, Sum.inl (0 + (x2 + 0))), (14, Sum.inl (0 + (x3 + 0)))] (0 + (1 + nOf cs + 0)) (0 + (b2n (allB someB cs) + 0)) (0 + (inn cs + 0)) cs.length = _
      simp only [Nat.add_zero, Nat.zero_add]
      rfl
    have hx6 : ∀ g : Nat, g ≤ 1 → (x1 < 4294967296 ∧ x2 < 4294967296 ∧ x3 < 4294967296 ∧ g < 4294967296 ∧ 1 + nOf cs < 4294967296 ∧ b2n (allB someB cs) < 4294967296) := fun g hg => ⟨hx.1, hx.2.1, hx.2.2.1, by omega, by omega, by omega⟩
    have hob : b2n (allB onlyB cs) = 1 * b2n (allB onlyB (cs.drop 0)) := (Nat.one_mul _).symm
    refine loop4 hc (a := 1 + nOf cs) (e := b2n (allB someB cs)) (i := inn cs) (F0 := 1500000) (u0 := u) (by omega) (by omega) ⟨hx.1, hx.2.1, hx.2.2.1, hx.2.2.2.1, hx.2.2.2.2, by omega⟩ (okJS cs 1) (fun F2 u3 hF2 i1 i2 i3 i4 ht => ?_) (fun F2 u3 k3 hF2 i1 i2 i3 i4 hk3 ht => ?_) cs.length 0 true _ u2 (by omega) (by omega) (fun h => by omega) rfl h1 h2 (AR_WS h1 hA) h3 (by omega)
    · have hYc : slD (rl [0, 1, cs.length, 0, inn cs, x1, x2, x3, x4, x5, b2n (allB someB cs)]) (yB (0, [2]) (1, [])) = yBn cs.length 1 := by
        show yBn (0 + (cs.length + 0)) 1 = _
        rw [Nat.add_zero, Nat.zero_add]
      have g1 := stepC (okJS cs 1) (hB5 cs.length 0 h20 (by omega)) c2 i3 i2 i4 (F := F2) (by omega) (G := G) (fun f2 u4 hf2 j1 j2 j3 => by
        rw [hYc, eC3 cs.length 0 rfl]
        refine loop5L hc (b := false) (kk := cs.length) (g := 1) (F0 := 1000000) (u0 := u) (by omega) (hx6 1 (by decide)) (by omega) (okJS cs 1) (fun F3 u5 hF3 l1 l2 l3 l4 => ?_) cs.length 0 1 _ u4 (by omega) (by omega) (by decide) hob (WS_tr i1 j1) j2 (AR_WS j1 i3) j3 (by omega)
        have hb2 : b2n (two cs) = 1 := by rw [ht]; rfl
        have hit : sgD (yB (0, [2]) (1, [])) jX3 (b2n (two cs)) (b2n (allB onlyB cs)) (0, [2]) = true := by
          rw [hb2]
          rcases b2n_01 (allB onlyB cs) with h | h
          · rw [h]; exact d3
          · rw [h]; exact d4
        have hn9 : sden (rl [0, 1, cs.length, 0, inn cs, x1, x2, x3, 1, 1 + nOf cs, b2n (allB someB cs)]) (0, [2]) = cs.length := by
          show 0 + (cs.length + 0) = cs.length
          omega
        have g2 := stepD hc (hB3 (cs.length) (0) 1 (by omega) (by omega) (by decide)) hit l3 l2 l4 (F := F3) (by omega) (G := G) fun u6 m1 => k u6 (WS_tr l1 m1)
        have e9 : slD (rl [0, 1, cs.length, 0, inn cs, x1, x2, x3, 1, 1 + nOf cs, b2n (allB someB cs)]) ((13, .inl (0, [2])) :: (12, .inl (b2n (allB onlyB cs), [])) :: (yB (0, [2]) (1, []) ++ rB jX3 (0, [9]) (0, [10]) (0, [4]) (0, [2]))) = (13, .inl cs.length) :: (12, .inl (b2n (allB onlyB cs))) :: (y5n false (cs.length) 1 ++ rBD (jD3 x1 x2 x3) (1 + nOf cs) (b2n (allB someB cs)) (inn cs) cs.length) := by
          show (13, Sum.inl (sden _ (0, [2]))) :: (12, Sum.inl (b2n (allB onlyB cs))) :: slD _ (yB (0, [2]) (1, []) ++ rB jX3 (0, [9]) (0, [10]) (0, [4]) (0, [2])) = _
          rw [slD_app, eD3 _ _ _ _ hn9, hn9]
          show (13, Sum.inl cs.length) :: (12, Sum.inl (b2n (allB onlyB cs))) :: (yBn (0 + (cs.length + 0)) 1 ++ _) = _
          rw [Nat.add_zero, Nat.zero_add]
          rfl
        rw [e9] at g2
        exact g2)
      rw [hYc, eC5 cs.length 0 rfl] at g1
      exact g1
    · have hYc : slD (rl [0, 1, cs.length, k3, inn cs, x1, x2, x3, x4, x5, b2n (allB someB cs)]) (yA (0, [3]) (0, [])) = yAn k3 0 := by
        show yAn (0 + (k3 + 0)) 0 = _
        rw [Nat.add_zero, Nat.zero_add]
      have g1 := stepC (okJS cs 1) (hB5 cs.length k3 h20 (by omega)) c1 i3 i2 i4 (F := F2) (by omega) (G := G) (fun f2 u4 hf2 j1 j2 j3 => by
        rw [hYc, eC3 cs.length k3 rfl]
        refine loop5L hc (b := true) (kk := k3) (g := 0) (F0 := 1000000) (u0 := u) (by omega) (hx6 0 (by decide)) (by omega) (okJS cs 1) (fun F3 u5 hF3 l1 l2 l3 l4 => ?_) cs.length 0 1 _ u4 (by omega) (by omega) (by decide) hob (WS_tr i1 j1) j2 (AR_WS j1 i3) j3 (by omega)
        have hb2 : b2n (two cs) = 0 := by rw [ht]; rfl
        have hit : sgD (yA (0, [3]) (0, [])) jX3 (b2n (two cs)) (b2n (allB onlyB cs)) (1, [2, 3]) = true := by
          rw [hb2]
          rcases b2n_01 (allB onlyB cs) with h | h
          · rw [h]; exact d1
          · rw [h]; exact d2
        have hn9 : sden (rl [0, 1, cs.length - k3 - 1, k3, inn cs, x1, x2, x3, 0, 1 + nOf cs, b2n (allB someB cs)]) (1, [2, 3]) = cs.length := by
          show 1 + (cs.length - k3 - 1 + (k3 + 0)) = cs.length
          omega
        have g2 := stepD hc (hB3 (cs.length - k3 - 1) (k3) 0 (by omega) (by omega) (by decide)) hit l3 l2 l4 (F := F3) (by omega) (G := G) fun u6 m1 => k u6 (WS_tr l1 m1)
        have e9 : slD (rl [0, 1, cs.length - k3 - 1, k3, inn cs, x1, x2, x3, 0, 1 + nOf cs, b2n (allB someB cs)]) ((13, .inl (1, [2, 3])) :: (12, .inl (b2n (allB onlyB cs), [])) :: (yA (0, [3]) (0, []) ++ rB jX3 (0, [9]) (0, [10]) (0, [4]) (1, [2, 3]))) = (13, .inl cs.length) :: (12, .inl (b2n (allB onlyB cs))) :: (y5n true (k3) 0 ++ rBD (jD3 x1 x2 x3) (1 + nOf cs) (b2n (allB someB cs)) (inn cs) cs.length) := by
          show (13, Sum.inl (sden _ (1, [2, 3]))) :: (12, Sum.inl (b2n (allB onlyB cs))) :: slD _ (yA (0, [3]) (0, []) ++ rB jX3 (0, [9]) (0, [10]) (0, [4]) (1, [2, 3])) = _
          rw [slD_app, eD3 _ _ _ _ hn9, hn9]
          show (13, Sum.inl cs.length) :: (12, Sum.inl (b2n (allB onlyB cs))) :: (yAn (0 + (k3 + 0)) 0 ++ _) = _
          rw [Nat.add_zero, Nat.zero_add]
          rfl
        rw [e9] at g2
        exact g2)
      rw [hYc, eC5 cs.length k3 rfl] at g1
      exact g1

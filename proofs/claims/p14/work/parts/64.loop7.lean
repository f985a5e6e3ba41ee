/-! ===== judge(7, 0) ===== -/
theorem W7w {cs : List (Nat × Nat)} (hc : csOK cs) {b : Nat} {ρ : Nat → Nat} {tab : List (sN × sN)} {B : List (Nat × Nat)} {u : dH} (hB : sok ρ B) (h3 : ρ 3 ≤ 20) (ht : tOK ρ (T14 cs b) tab) (hJ : JJ u) : sFor B fx7 kdf pgm pghm (orcM tab) 2000 20 dProg ρ opM u (MI (T14 cs b)) :=
  W7_of (fun key a h => K14_all hc key a h) K14_len (fun key x y => T14_fun hc key x y) hB h3 ht hJ.2.2.2.2.2.1
theorem cE7 : chkT tE_fail tj = true ∧ chkT tF_fail tj = true ∧ chkT tE_full tj = true ∧ chkT tF_full tj = true ∧ chkT tE_none tj = true ∧ chkT tF_none tj = true := by decide +kernel
/-- an end of the run -/
theorem fin7 {cs : List (Nat × Nat)} {b n st : Nat} {ρ : Nat → Nat} {B : List (Nat × Nat)} {tab : List (sN × sN)} {S SF : sH} {a : sN} {fr : List (sN × sN)} (hc : csOK cs) (hB : sok ρ B) (h3 : ρ 3 ≤ 20) (h4 : ρ 4 = st) (ht : tOK ρ (T14 cs b) tab) (hr : sAll (run7e B tab S) (end7 n SF) = true) (hS : chkT S tj = true) (hF : chkT SF tj = true) (oS : ovs S = oj r2l fr [((0, []), (4, []))] a [] [((0, []), a)] []) (oF : ovs SF = oj (o108 []) [] [((0, []), (4, []))] a [] [((0, []), a)] [])
    {u : dH} (hJ : JJ u) (hR : RS cs u) (hM : MI (T14 cs b) u) (h108 : ovP u 108 n2l) (h114 : ovP u 114 (den ρ fr)) (ha : sden ρ a = 1 + nOf cs) {F : Nat} (hFu : 10001 ≤ F) {G : dR → Prop} (k : ∀ u2, JJ u2 → RS cs u2 → MI (T14 cs b) u2 → KP u u2 → G (some (some (.inl n), u2))) : G (drun dProg F 59 62 31 (dLs 47 4294967292 st) [] u) := by
  obtain ⟨lv, l1, l2⟩ := sAll_s hr
  have hov : ovF ρ u (oj r2l fr [((0, []), (4, []))] a [] [((0, []), a)] []) := by
    refine ov_oj hJ h108 h114 (ovP_1 hR.2.1) (by rw [hR.2.2.2.1, ha]) (ovP_nil _ _) (ovP_1 ?_) (ovP_nil _ _)
    rw [ha]
    exact hR.2.2.1
  have hSf : sfit ρ opM S u := sfit_TJ hS hJ.1 (by rw [oS]; exact hov)
  have hgo := saysG (W7w hc hB h3 ht hJ) l1 hSf hM (F - 10001) (G := G) (fun x hx => by
    obtain ⟨p, rfl, hp⟩ := l2 x hx
    obtain ⟨p1, p2⟩ := p
    obtain ⟨v1, v2, v3⟩ := end7_s hp
    intro u2 hS2 hI2
    obtain ⟨j1, j2, j3, -, -⟩ := J_next hJ hR hov hF oF hS2 v2 v3 (by decide)
    show G (some (p1.map (svd ρ), u2))
    have v1 : p1 = some (.inl (n, [])) := v1
    rw [v1]
    exact k u2 j1 j2 hI2 j3)
  rw [show 10001 + (F - 10001) = F by omega, lS7_d] at hgo
  have e9 : sden ρ (0, [4]) = st := by
    show 0 + (ρ 4 + 0) = st
    omega
  rw [e9] at hgo
  exact hgo
/-- says, to the end: cell by cell -/
theorem run7_all {cs : List (Nat × Nat)} (hc : csOK cs) {b : Nat} {G : dR → Prop} {u0 : dH} (hG : ∀ u2, JJ u2 → RS cs u2 → MI (T14 cs b) u2 → KP u0 u2 → G (some (some (.inl (b2n (allB onlyB cs))), u2))) : ∀ (m k st F : Nat) (u : dH), cs.length - k = m → k ≤ cs.length → stB onlyB 1 cs = stB onlyB (atc cs k) (cs.drop k) → allB onlyB cs = allB onlyB (cs.drop k) → JJ u → RS cs u → MI (T14 cs b) u → KP u0 u → ovP u 108 n2l → ovP u 114 (frN 207 208 209 (atc cs k) k) → st ≤ 1000 * (k + 1) → 10001 * (m + 2) ≤ F → G (drun dProg F 59 62 31 (dLs 47 4294967292 st) [] u) := by
  intro m
  induction m with
  | zero =>
    intro k st F u hm hk hs1 hs2 hJ hR hM hK h108 h114 hst hF
    have hkl : k = cs.length := by omega
    have hat : atc cs k = 1 + nOf cs := atc_len cs (by omega)
    have hd : cs.drop k = [] := List.drop_eq_nil_of_le (by omega)
    rw [hd] at hs1 hs2
    have hall : allB onlyB cs = true := hs2
    have hstp : stB onlyB 1 cs = 1 + nOf cs := hs1.trans hat
    have hv : b2n (allB onlyB cs) = 1 := by rw [hall]; rfl
    have h20 := hc.2
    have hn := nOf_le cs
    rw [hv] at hG
    by_cases h0 : nOf cs = 0
    · have hk0 : k = 0 := by
        cases cs with
        | nil => simp at hkl; exact hkl
        | cons c t =>
          have := (cCn_pos c.1).1
          have h9 : nOf (c :: t) = cCn c.1 + nOf t := rfl
          omega
      subst hk0
      refine fin7 (ρ := rj 1 0 0 st) hc (rj_ok (by omega) (by omega) (by omega) (by omega)) (Nat.zero_le _) rfl (b := b) ?_ t_none cE7.2.2.2.2.1 cE7.2.2.2.2.2 (a := (1, [])) rfl rfl hJ hR hM h108 (fr := frL 207 208 209 (1, []) (0, [])) ?_ (by rw [h0]; rfl) (by omega) fun u2 a1 a2 a3 a4 => hG u2 a1 a2 a3 (KP_tr hK a4)
      · refine tOK_whole fun e he => ?_
        simp only [List.mem_cons, List.not_mem_nil, or_false] at he
        rcases he with rfl | rfl
        · exact ⟨(by dsimp only; rw [sd0]; decide), (by dsimp only; rw [sd0]; decide), by show (2365595647, 1 + 0) ∈ tW cs; simp [tW], (by dsimp only; rw [sd0]; decide)⟩
        · refine ⟨(by dsimp only; rw [sd0]; decide), (by dsimp only; rw [sd0]; decide), ?_, (by dsimp only; rw [sd0]; decide)⟩
          show (1290797056, 1 + 1) ∈ tW cs
          simp [tW, hv]
      · rw [frL_d]
        have h9 : atc cs 0 = 1 := rfl
        rw [h9] at h114
        exact h114
    · refine fin7 (ρ := rj (1 + nOf cs) 0 k st) hc (rj_okf (by omega) (by omega) (by omega) (by omega)) (show k ≤ 20 by omega) rfl (b := b) ?_ t_full cE7.2.2.1 cE7.2.2.2.1 (a := (0, [1])) rfl rfl hJ hR hM h108 (fr := frL 207 208 209 (0, [1]) (0, [3])) ?_ (by show 0 + (1 + nOf cs + 0) = _; omega) (by omega) fun u2 a1 a2 a3 a4 => hG u2 a1 a2 a3 (KP_tr hK a4)
      · refine tOK_whole fun e he => ?_
        simp only [List.mem_cons, List.not_mem_nil, or_false] at he
        rcases he with rfl | rfl
        · refine ⟨(by dsimp only; rw [sd0]; decide), by show 0 + (1 + nOf cs + 0) < 1000; omega, ?_, (by dsimp only; rw [sd0]; decide)⟩
          show (2365587457, 1 + (0 + (1 + nOf cs + 0))) ∈ tW cs
          rw [show 0 + (1 + nOf cs + 0) = stB onlyB 1 cs by omega]; simp [tW]
        · refine ⟨(by dsimp only; rw [sd0]; decide), (by dsimp only; rw [sd0]; decide), ?_, (by dsimp only; rw [sd0]; decide)⟩
          show (1290797056, 1 + 1) ∈ tW cs
          simp [tW, hv]
      · rw [frL_d]
        show ovP u 114 (frN 207 208 209 (0 + (1 + nOf cs + 0)) (0 + (k + 0)))
        rw [show 0 + (1 + nOf cs + 0) = atc cs k by omega, show 0 + (k + 0) = k by omega]
        exact h114
  | succ m ih =>
    intro k st F u hm hk hs1 hs2 hJ hR hM hK h108 h114 hst hF
    obtain ⟨s, hs⟩ : ∃ s, cs[k]? = some s := ⟨_, List.getElem?_eq_getElem (show k < cs.length by omega)⟩
    obtain ⟨n1, n2, n3, n4, n5, n6, n7, n8, n9, n10⟩ := at_num hc hs
    have hd : cs.drop k = s :: cs.drop (k + 1) := by
      rw [List.drop_eq_getElem_cons n10]
      rw [List.getElem?_eq_getElem n10] at hs
      rw [Option.some.inj hs]
    rw [hd] at hs1 hs2
    obtain ⟨tab, S, S2, h1, h2, h3, h4, h5, h6⟩ := ok7 n8 n9
    generalize hρ : rj (atc cs k) (1 + nOf cs - atc cs k - cCn s.1) k st = ρ
    have hB : sok ρ B7 := by rw [← hρ]; exact rj_ok ⟨n1, n3⟩ (by omega) (by omega) (by omega)
    have p1 : ρ 1 = atc cs k := by rw [← hρ]; rfl
    have p2 : ρ 2 = 1 + nOf cs - atc cs k - cCn s.1 := by rw [← hρ]; rfl
    have p3 : ρ 3 = k := by rw [← hρ]; rfl
    have p4 : ρ 4 = st := by rw [← hρ]; rfl
    have hCF := RS_cell hR hs
    have htop : sden ρ (cCn s.1, [1, 2]) = 1 + nOf cs := by
      show cCn s.1 + (ρ 1 + (ρ 2 + 0)) = _
      omega
    have hov : ovF ρ u (oj r2l (frL 207 208 209 (0, [1]) (0, [3])) (c95 s.1) (cCn s.1, [1, 2]) (c105 s.1 s.2) (((0, []), (cCn s.1, [1, 2])) :: c100 s.1) (c96 s.1)) := by
      have h100 : ovP u 100 (den ρ (c100 s.1)) := by rw [← hρ]; exact ov_c100 n8 hCF
      refine ov_oj hJ h108 ?_ (by rw [← hρ]; exact ov_c95 n8 hCF) (by rw [htop]; exact hR.2.2.2.1) (by rw [← hρ]; exact ov_c105 n8 hCF) ?_ (by rw [← hρ]; exact ov_c96 n8 hCF)
      · rw [frL_d]
        show ovP u 114 (frN 207 208 209 (0 + (ρ 1 + 0)) (0 + (ρ 3 + 0)))
        rw [p1, p3, Nat.add_zero, Nat.zero_add, Nat.add_zero, Nat.zero_add]
        exact h114
      · show ovP u 100 ((0, sden ρ (cCn s.1, [1, 2])) :: den ρ (c100 s.1))
        refine ovP_cons (by rw [htop]; exact hR.2.2.1) h100 fun e he => ?_
        obtain ⟨q, hq, rfl⟩ := List.mem_map.mp he
        have : 0 < sden ρ q.1 := by
          match hk5 : s.1, n8 with
          | 0, _ => rw [hk5] at hq; simp only [c100, List.mem_cons, List.not_mem_nil, or_false] at hq; subst hq; show 0 < 0 + (ρ 1 + 0); omega
          | 1, _ => rw [hk5] at hq; simp only [c100, List.mem_cons, List.not_mem_nil, or_false] at hq; subst hq; show 0 < 0 + (ρ 1 + 0); omega
          | 2, _ => rw [hk5] at hq; simp only [c100, List.mem_cons, List.not_mem_nil, or_false] at hq; subst hq; show 0 < 0 + (ρ 1 + 0); omega
          | 3, _ => rw [hk5] at hq; simp only [c100, List.mem_cons, List.not_mem_nil, or_false] at hq; subst hq; show 0 < 0 + (ρ 1 + 0); omega
          | 4, _ =>
            rw [hk5] at hq
            simp only [c100, List.mem_cons, List.not_mem_nil, or_false] at hq
            rcases hq with rfl | rfl
            · show 0 < 0 + (ρ 1 + 0); omega
            · show 0 < 1 + (ρ 1 + 0); omega
        show sden ρ q.1 ≠ 0
        omega
    have hS : sfit ρ opM S u := sfit_TJ h3 hJ.1 (by rw [h5]; exact hov)
    have hgo := says7 (fun key a h => K14_all hc key a h) K14_len (fun key x y => T14_fun hc key x y) hB (by omega) (tOK_cell (b := b) hc hs p1 h2) h1 hJ.2.2.2.2.2.1 hS hM (F - 10001) (G := G) (fun u2 c f S9 c1 f1 w1 w2 hS2 hI2 => by
      obtain ⟨j1, j2, j3, j4, j5⟩ := J_next hJ hR hov h4 h6 hS2 w1 w2 (by decide)
      rw [r2_d] at j4
      have e8 : sden ρ (c, [4]) = c + st := by
        show c + (ρ 4 + 0) = _
        omega
      rw [lS7_d, e8]
      cases hf : onlyB s.1 s.2 with
      | true =>
        rw [hf] at j5
        have j5 : ovP u2 114 (frN 207 208 209 (cCn s.1 + (ρ 1 + 0)) (1 + (ρ 3 + 0))) := j5
        refine ih (k + 1) (c + st) (f + (F - 10001)) u2 (by omega) (by omega) ?_ ?_ j1 j2 hI2 (KP_tr hK j3) j4 ?_ (by omega) (by omega)
        · rw [hs1, atc_succ hs]
          show cond (onlyB s.1 s.2) _ _ = _
          rw [hf]; rfl
        · rw [hs2]
          show cond (onlyB s.1 s.2) _ _ = _
          rw [hf]; rfl
        · rw [atc_succ hs, show atc cs k + cCn s.1 = cCn s.1 + (ρ 1 + 0) by omega, show k + 1 = 1 + (ρ 3 + 0) by omega]
          exact j5
      | false =>
        rw [hf] at j5
        have j5 : ovP u2 114 (frN 207 208 4294967295 (0 + (ρ 1 + 0)) 0) := j5
        have hv : b2n (allB onlyB cs) = 0 := by
          rw [hs2]
          show b2n (cond (onlyB s.1 s.2) _ _) = 0
          rw [hf]; rfl
        have hp : stB onlyB 1 cs = atc cs k := by
          rw [hs1]
          show cond (onlyB s.1 s.2) _ _ = _
          rw [hf]; rfl
        rw [hv] at hG
        refine fin7 (ρ := rj (atc cs k) (nOf cs - atc cs k) 0 (c + st)) hc (rj_ok ⟨n1, n3⟩ (by omega) (by omega) (by omega)) (Nat.zero_le _) rfl (b := b) ?_ t_fail cE7.1 cE7.2.1 (a := (1, [1, 2])) rfl rfl j1 j2 hI2 j4 (fr := frL 207 208 4294967295 (0, [1]) (0, [])) ?_ (by show 1 + (atc cs k + (nOf cs - atc cs k + 0)) = _; omega) (by omega) fun u3 a1 a2 a3 a4 => hG u3 a1 a2 a3 (KP_tr hK (KP_tr j3 a4))
        · refine tOK_whole fun e he => ?_
          simp only [List.mem_cons, List.not_mem_nil, or_false] at he
          rcases he with rfl | rfl
          · refine ⟨(by dsimp only; rw [sd0]; decide), by show 0 + (atc cs k + 0) < 1000; omega, ?_, (by dsimp only; rw [sd0]; decide)⟩
            show (2365587457, 1 + (0 + (atc cs k + 0))) ∈ tW cs
            rw [show 0 + (atc cs k + 0) = stB onlyB 1 cs by omega]; simp [tW]
          · refine ⟨(by dsimp only; rw [sd0]; decide), (by dsimp only; rw [sd0]; decide), ?_, (by dsimp only; rw [sd0]; decide)⟩
            show (1290797056, 1 + 0) ∈ tW cs
            simp [tW, hv]
        · rw [frL_d]
          show ovP u2 114 (frN 207 208 4294967295 (0 + (atc cs k + 0)) 0)
          rw [p1] at j5
          exact j5)
    rw [show 10001 + (F - 10001) = F by omega, lS7_d] at hgo
    have e9 : sden ρ (0, [4]) = st := by
      show 0 + (ρ 4 + 0) = st
      omega
    rw [e9] at hgo
    exact hgo

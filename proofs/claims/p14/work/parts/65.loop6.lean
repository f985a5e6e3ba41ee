/-! ===== judge(6, 0) ===== -/
def tl6 : List (sN × sN) := [((8, []), (199, [])), ((9, []), (0, [])), ((10, []), (0, [1]))]
def r3l : List (sN × sN) := o108 [((7, []), (3, []))] ++ tl6
def th6 : List (sN × sN) := [((22, []), (4, [])), ((23, []), (197, [])), ((24, []), (0, [])), ((25, []), (0, [1])), ((28, []), (0, [])), ((29, []), (197, [])), ((27, []), (0, [])), ((30, []), (0, [1])), ((26, []), (198, [])), ((31, []), (0, [])), ((32, []), (0, []))]
def fr6L : List (sN × sN) := frL 194 195 196 (0, [1]) (0, [3])
theorem fr6_d (p rest t st : Nat) : den (rj p rest t st) fr6L = frN 194 195 196 (0 + (p + 0)) (0 + (t + 0)) := rfl
theorem orcU_ok {ρ : Nat → Nat} {T : Nat → Nat → Prop} {key0 : sN} (hk : sden ρ key0 < 2 ^ 32) (hno : ∀ a, ¬ T (sden ρ key0) a) {g : dH} :
    ∀ y as outs, orcU key0 y as = some outs → ∀ f d u S, 2000 ≤ f → 20 ≤ d → ssat ρ opM g S u → MI T u → ∃ o ∈ outs, ∃ u2, (dargs (as.map (svd ρ)) 0 fun L _ => drun dProg f d y 0 L [] u) = some (o.map (svd ρ), u2) ∧ MI T u2 ∧ hwf u2 ∧ u2.1 = u.1 ∧ u2.2.1 = u.2.1 ∧ ∀ a, opM a = false → hat u2 a = hat u a := by
  intro y as outs ho f d u S hf hd hS hM
  unfold orcU at ho
  obtain ⟨f9, rfl⟩ : ∃ f9, f = f9 + 1029 := ⟨f - 1029, by omega⟩
  obtain ⟨d9, rfl⟩ : ∃ d9, d = Nat.succ (Nat.succ d9) := ⟨d - 2, by omega⟩
  obtain ⟨e1, ho⟩ := scd_t ho
  have := Nat.eq_of_beq_eq_true e1
  subst this
  obtain ⟨key, rfl, ho2⟩ := sarg2_s ho
  obtain ⟨e2, ho3⟩ := scd_t ho2
  cases ho3
  simp only [Bool.and_eq_true] at e2
  have ek : key = key0 := by
    obtain ⟨a1, a2⟩ := key
    obtain ⟨b1, b2⟩ := key0
    have q1 : a1 = b1 := Nat.eq_of_beq_eq_true e2.1
    have q2 : a2 = b2 := eq_of_beq e2.2
    rw [q1, q2]
  subst ek
  obtain ⟨v, hv, hv2⟩ := MI_find (f := f9) (d := d9) hM hk
  have e9 : (dargs ([(.inr (.inr 107) : sV), .inr (.inl key)].map (svd ρ)) 0 fun L _ => drun dProg (f9 + 1029) (Nat.succ (Nat.succ d9)) 140 0 L [] u) = drun dProg (f9 + 1029) (Nat.succ (Nat.succ d9)) 140 0 [(0, .inr (.inr 107)), (1, .inr (.inl (sden ρ key)))] [] u := by
    rw [dargs_eq]
    rfl
  rcases hv2 with hv3 | ⟨a2, h1, h2, hv3⟩
  · rw [hv3] at hv
    exact ⟨some (.inl (4294967294, [])), List.mem_cons_self, u, e9.trans hv, hM, hS.1, rfl, rfl, fun _ _ => rfl⟩
  · exact (hno a2 h1).elim
theorem W6U {cs : List (Nat × Nat)} (hc : csOK cs) {k : Nat} (hk : k < cs.length) {ρ : Nat → Nat} (hρ : ρ 1 = atc cs k) (hB : sok ρ B5) (h3 : ρ 3 ≤ 20) {u : dH} (hJ : JJ u) : sFor B5 fx5 kdf pgm pghm (orcU (2354053120, [1])) 2000 20 dProg ρ opM u (MI (T14 cs (atc cs k))) := by
  obtain ⟨w1, w2, w3, w4, w5, w6, -⟩ := W5w hc (b := atc cs k) hB h3 (tab := []) (fun e he => absurd he List.not_mem_nil) hJ
  have e : sden ρ (2354053120, [1]) = 2354053120 + atc cs k := by
    show 2354053120 + (ρ 1 + 0) = _
    omega
  have hn := nOf_le cs
  have h20 := hc.2
  have ha := atc_le cs k
  exact ⟨w1, w2, w3, w4, w5, w6, orcU_ok (by rw [e]; omega) (by rw [e]; exact T14_no hc hk (Nat.le_refl _))⟩
theorem c6 : chkT pA tj = true ∧ chkT pB tj = true ∧ chkT pE_fail tj = true ∧ chkT pF_fail tj = true ∧ chkT pE_full tj = true ∧ chkT pF_full tj = true ∧ chkT pE_none tj = true ∧ chkT pF_none tj = true := by decide +kernel
/-- a step: by the first item, and by the one behind it -/
def OK6 (k : Nat) (maj aft : List (sN × sN)) (ans tot : sN) (fr2 : List (sN × sN)) : Prop := ∃ S S2, allL (chk6 46 4294967292 S2) (run6 (orcM [((2354053120, [1]), ans)]) B5 sta6 4294967294 S) = true ∧ chkT S tj = true ∧ chkT S2 tj = true ∧ ovs S = oj r3l (fr6L ++ th6) (((0, [1]), (cMa k, [])) :: maj) tot [] (((0, []), tot) :: ((0, [1]), (cCn k, [1])) :: aft) [] ∧ ovs S2 = oj r2l fr2 (((0, [1]), (cMa k, [])) :: maj) tot [] (((0, []), tot) :: ((0, [1]), (cCn k, [1])) :: aft) []
def fr6F : List (sN × sN) := frL 194 195 4294967295 (0, [1]) (0, [])
theorem ok6i {k : Nat} (hk : k < 2) : OK6 k [] [] (1, [1]) (1, [1, 2]) (frL 194 195 196 (1, [1]) (1, [3])) := by
  match k, hk with
  | 0, _ => exact ⟨pS_0, pT_0, p_0, by decide +kernel, by decide +kernel, rfl, rfl⟩
  | 1, _ => exact ⟨pS_1, pT_1, p_1, by decide +kernel, by decide +kernel, rfl, rfl⟩
theorem ok6e {k : Nat} (h2 : 2 ≤ k) (hk : k < 5) : OK6 k [] [] (4294967295, []) (cCn k, [1]) fr6F := by
  match k, h2, hk with
  | 2, _, _ => exact ⟨pS_2_e, pT_2_e, p_2_e, by decide +kernel, by decide +kernel, rfl, rfl⟩
  | 3, _, _ => exact ⟨pS_3_e, pT_3_e, p_3_e, by decide +kernel, by decide +kernel, rfl, rfl⟩
  | 4, _, _ => exact ⟨pS_4_e, pT_4_e, p_4_e, by decide +kernel, by decide +kernel, rfl, rfl⟩
theorem ok6t {k : Nat} (h2 : 2 ≤ k) (hk : k < 5) : OK6 k [((cCn k, [1]), (3, []))] [((cCn k, [1]), (cCn k + 1, [1]))] (cCn k + 1, [1]) (cCn k + 1, [1, 2]) (frL 194 195 196 (cCn k + 1, [1]) (1, [3])) := by
  match k, h2, hk with
  | 2, _, _ => exact ⟨pS_2_2, pT_2_2, p_2_2, by decide +kernel, by decide +kernel, rfl, rfl⟩
  | 3, _, _ => exact ⟨pS_3_2, pT_3_2, p_3_2, by decide +kernel, by decide +kernel, rfl, rfl⟩
  | 4, _, _ => exact ⟨pS_4_2, pT_4_2, p_4_2, by decide +kernel, by decide +kernel, rfl, rfl⟩
theorem ok6n {k m : Nat} (h2 : 2 ≤ k) (hk : k < 5) (hm : m < 5) (hm2 : m ≠ 2) : OK6 k [((cCn k, [1]), (cMa m, []))] [] (4294967295, []) (cCn k + 1, [1, 2]) fr6F := by
  rcases (show k = 2 ∨ k = 3 ∨ k = 4 by omega) with rfl | rfl | rfl
  · rcases (show m = 0 ∨ m = 1 ∨ m = 3 ∨ m = 4 by omega) with rfl | rfl | rfl | rfl
    · exact ⟨pS_2_0, pT_2_0, p_2_0, by decide +kernel, by decide +kernel, rfl, rfl⟩
    · exact ⟨pS_2_1, pT_2_1, p_2_1, by decide +kernel, by decide +kernel, rfl, rfl⟩
    · exact ⟨pS_2_3, pT_2_3, p_2_3, by decide +kernel, by decide +kernel, rfl, rfl⟩
    · exact ⟨pS_2_4, pT_2_4, p_2_4, by decide +kernel, by decide +kernel, rfl, rfl⟩
  · rcases (show m = 0 ∨ m = 1 ∨ m = 3 ∨ m = 4 by omega) with rfl | rfl | rfl | rfl
    · exact ⟨pS_3_0, pT_3_0, p_3_0, by decide +kernel, by decide +kernel, rfl, rfl⟩
    · exact ⟨pS_3_1, pT_3_1, p_3_1, by decide +kernel, by decide +kernel, rfl, rfl⟩
    · exact ⟨pS_3_3, pT_3_3, p_3_3, by decide +kernel, by decide +kernel, rfl, rfl⟩
    · exact ⟨pS_3_4, pT_3_4, p_3_4, by decide +kernel, by decide +kernel, rfl, rfl⟩
  · rcases (show m = 0 ∨ m = 1 ∨ m = 3 ∨ m = 4 by omega) with rfl | rfl | rfl | rfl
    · exact ⟨pS_4_0, pT_4_0, p_4_0, by decide +kernel, by decide +kernel, rfl, rfl⟩
    · exact ⟨pS_4_1, pT_4_1, p_4_1, by decide +kernel, by decide +kernel, rfl, rfl⟩
    · exact ⟨pS_4_3, pT_4_3, p_4_3, by decide +kernel, by decide +kernel, rfl, rfl⟩
    · exact ⟨pS_4_4, pT_4_4, p_4_4, by decide +kernel, by decide +kernel, rfl, rfl⟩
/-- the key of the group before an item, and its answer -/
theorem tOK_197 {cs : List (Nat × Nat)} (hc : csOK cs) {k : Nat} (hk : k < cs.length) {ρ : Nat → Nat} (hρ : ρ 1 = atc cs k) {ans : sN} (ha : sden ρ ans = nx cs k) (hn : nx cs k < 1000 ∨ nx cs k = 4294967295) : tOK ρ (T14 cs (atc cs k + 1)) [((2354053120, [1]), ans)] := by
  intro e he
  rw [List.mem_singleton.mp he]
  have hl := nOf_le cs
  have h20 := hc.2
  have h9 := atc_le cs k
  have e1 : sden ρ (2354053120, [1]) = 2354053120 + atc cs k := by
    show 2354053120 + (ρ 1 + 0) = _
    omega
  refine ⟨by show sden ρ (2354053120, [1]) < _; rw [e1]; omega, dAdd (nx cs k) 1, Or.inr (Or.inl ⟨k, hk, Nat.lt_succ_self _, e1, rfl⟩), zad hn, ?_⟩
  show sden ρ ans = _
  rw [ha]
  exact (zsa (by omega)).symm
/-- an end of the run -/
theorem fin6 {cs : List (Nat × Nat)} {b n st : Nat} {ρ : Nat → Nat} {B : List (Nat × Nat)} {tab : List (sN × sN)} {S SF : sH} {a : sN} {fr : List (sN × sN)} (hc : csOK cs) (hB : sok ρ B) (h3 : ρ 3 ≤ 20) (h4 : ρ 4 = st) (ht : tOK ρ (T14 cs b) tab) (hr : sAll (run6 (orcM tab) B noSt 4294967292 S) (end5 n SF) = true) (hS : chkT S tj = true) (hF : chkT SF tj = true) (oS : ovs S = oj r2l fr [((0, []), (4, []))] a [] [((0, []), a)] []) (oF : ovs SF = oj (o108 []) [] [((0, []), (4, []))] a [] [((0, []), a)] [])
    {u : dH} (hJ : JJ u) (hR : RS cs u) (hM : MI (T14 cs b) u) (h108 : ovP u 108 n2l) (h114 : ovP u 114 (den ρ fr)) (ha : sden ρ a = 1 + nOf cs) {F : Nat} (hFu : 10001 ≤ F) {G : dR → Prop} (k : ∀ u2, JJ u2 → RS cs u2 → MI (T14 cs b) u2 → KP u u2 → G (some (some (.inl n), u2))) : G (drun dProg F 59 62 31 (dLs 46 4294967292 st) [] u) := by
  obtain ⟨lv, l1, l2⟩ := sAll_s hr
  have hov : ovF ρ u (oj r2l fr [((0, []), (4, []))] a [] [((0, []), a)] []) := by
    refine ov_oj hJ h108 h114 (ovP_1 hR.2.1) (by rw [hR.2.2.2.1, ha]) (ovP_nil _ _) (ovP_1 ?_) (ovP_nil _ _)
    rw [ha]
    exact hR.2.2.1
  have hSf : sfit ρ opM S u := sfit_TJ hS hJ.1 (by rw [oS]; exact hov)
  have hgo := saysG (W5w hc hB h3 ht hJ) l1 hSf hM (F - 10001) (G := G) (fun x hx => by
    obtain ⟨p, rfl, hp⟩ := l2 x hx
    obtain ⟨p1, p2⟩ := p
    obtain ⟨v1, v2, v3⟩ := end5_s hp
    intro u2 hS2 hI2
    obtain ⟨j1, j2, j3, -, -⟩ := J_next hJ hR hov hF oF hS2 v2 v3 (by decide)
    show G (some (p1.map (svd ρ), u2))
    have v1 : p1 = some (.inl (n, [])) := v1
    rw [v1]
    exact k u2 j1 j2 hI2 j3)
  rw [show 10001 + (F - 10001) = F by omega, lSr_d] at hgo
  have e9 : sden ρ (0, [4]) = st := by
    show 0 + (ρ 4 + 0) = st
    omega
  rw [e9] at hgo
  exact hgo
/-- the group is looked up and begun -/
theorem go6 {cs : List (Nat × Nat)} (hc : csOK cs) {k t st F : Nat} (hk : k < cs.length) (ht : t ≤ 20) {u : dH} (hJ : JJ u) (hR : RS cs u) (hM : MI (T14 cs (atc cs k)) u) (h108 : ovP u 108 n2l) (h114 : ovP u 114 (frN 194 195 196 (atc cs k) t)) (hst : st ≤ 900000) (hF : 10001 ≤ F) {G : dR → Prop} (h : ∀ u2 c f, JJ u2 → RS cs u2 → MI (T14 cs (atc cs k)) u2 → KP u u2 → (∀ rest, ovP u2 108 (den (rj (atc cs k) rest t st) r3l)) → (∀ rest, ovP u2 114 (den (rj (atc cs k) rest t st) (fr6L ++ th6))) → c < 1000 → 5000 ≤ f → G (drun dProg (f + (F - 10001)) 59 62 31 (dLs 46 4294967294 (c + st)) [] u2)) : G (drun dProg F 59 62 31 (dLs 46 4294967292 st) [] u) := by
  obtain ⟨s, hs⟩ : ∃ s, cs[k]? = some s := ⟨_, List.getElem?_eq_getElem hk⟩
  obtain ⟨n1, n2, n3, n4, n5, n6, n7, n8, n9, n10⟩ := at_num hc hs
  generalize hρ : rj (atc cs k) (nOf cs - atc cs k) t st = ρ
  have hB : sok ρ B5 := by rw [← hρ]; exact rj_ok ⟨n1, n3⟩ (by omega) (by omega) (by omega)
  have p1 : ρ 1 = atc cs k := by rw [← hρ]; rfl
  have p2 : ρ 2 = nOf cs - atc cs k := by rw [← hρ]; rfl
  have p3 : ρ 3 = t := by rw [← hρ]; rfl
  have p4 : ρ 4 = st := by rw [← hρ]; rfl
  have htop : sden ρ (1, [1, 2]) = 1 + nOf cs := by
    show 1 + (ρ 1 + (ρ 2 + 0)) = _
    omega
  have oA : ovs pA = oj r2l fr6L [] (1, [1, 2]) [] [((0, []), (1, [1, 2]))] [] := rfl
  have oB : ovs pB = oj r3l (fr6L ++ th6) [] (1, [1, 2]) [] [((0, []), (1, [1, 2]))] [] := rfl
  have hov : ovF ρ u (oj r2l fr6L [] (1, [1, 2]) [] [((0, []), (1, [1, 2]))] []) := by
    refine ov_oj hJ h108 ?_ (ovP_nil _ _) (by rw [hR.2.2.2.1, htop]) (ovP_nil _ _) (ovP_1 (by rw [htop]; exact hR.2.2.1)) (ovP_nil _ _)
    rw [← hρ, fr6_d, Nat.add_zero, Nat.zero_add, Nat.add_zero, Nat.zero_add]
    exact h114
  have hSf : sfit ρ opM pA u := sfit_TJ c6.1 hJ.1 (by rw [oA]; exact hov)
  obtain ⟨lv, l1, l2⟩ := allL_s p_go
  have hgo := saysG (W6U hc hk p1 hB (by omega) hJ) l1 hSf hM (F - 10001) (G := G) (fun x hx => by
    refine chk6_s (l2 x hx) fun u2 c f S9 c1 f1 w1 w2 hS2 hI2 => ?_
    obtain ⟨j1, j2, j3, j4, j5⟩ := J_next hJ hR hov c6.2.1 oB hS2 w1 w2 (by decide)
    rw [p4]
    rw [← hρ] at j4 j5
    exact h u2 c f j1 j2 hI2 j3 (fun rest => j4) (fun rest => j5) c1 f1)
  rw [show 10001 + (F - 10001) = F by omega, lSr_d] at hgo
  have e9 : sden ρ (0, [4]) = st := by
    show 0 + (ρ 4 + 0) = st
    omega
  rw [e9] at hgo
  exact hgo
/-- the group is gone through -/
theorem st6_step {cs : List (Nat × Nat)} (hc : csOK cs) {k t st F rest : Nat} (ht : t ≤ 20) {s : Nat × Nat} (hs : cs[k]? = some s) {maj aft fr2 : List (sN × sN)} {ans tot : sN} (hok : OK6 s.1 maj aft ans tot fr2) {u : dH} (hJ : JJ u) (hR : RS cs u) (hM : MI (T14 cs (atc cs k + 1)) u) (h108 : ovP u 108 (den (rj (atc cs k) rest t st) r3l)) (h114 : ovP u 114 (den (rj (atc cs k) rest t st) (fr6L ++ th6))) {st2 : Nat} (hst : st2 ≤ 900000) (hrest : rest ≤ 60) (htot : sden (rj (atc cs k) rest t st2) tot = 1 + nOf cs) (hans : sden (rj (atc cs k) rest t st2) ans = nx cs k) (hnx : nx cs k < 1000 ∨ nx cs k = 4294967295) (h95 : ovP u 95 (den (rj (atc cs k) rest t st2) (((0, [1]), (cMa s.1, [])) :: maj))) (h100 : ovP u 100 (den (rj (atc cs k) rest t st2) (((0, []), tot) :: ((0, [1]), (cCn s.1, [1])) :: aft))) (hF : 10001 ≤ F) {G : dR → Prop} (h : ∀ u2 c f, JJ u2 → RS cs u2 → MI (T14 cs (atc cs k + 1)) u2 → KP u u2 → ovP u2 108 n2l → ovP u2 114 (den (rj (atc cs k) rest t st2) fr2) → c < 1000 → 5000 ≤ f → G (drun dProg (f + (F - 10001)) 59 62 31 (dLs 46 4294967292 (c + st2)) [] u2)) : G (drun dProg F 59 62 31 (dLs 46 4294967294 st2) [] u) := by
  obtain ⟨n1, n2, n3, n4, n5, n6, n7, n8, n9, n10⟩ := at_num hc hs
  obtain ⟨S, S2, h1, h2, h3, h4, h5⟩ := hok
  have d1 : den (rj (atc cs k) rest t st) r3l = den (rj (atc cs k) rest t st2) r3l := rfl
  have d2 : den (rj (atc cs k) rest t st) (fr6L ++ th6) = den (rj (atc cs k) rest t st2) (fr6L ++ th6) := rfl
  rw [d1] at h108
  rw [d2] at h114
  generalize hρ : rj (atc cs k) rest t st2 = ρ at *
  have hB : sok ρ B5 := by rw [← hρ]; exact rj_ok ⟨n1, n3⟩ hrest (by omega) (by omega)
  have p1 : ρ 1 = atc cs k := by rw [← hρ]; rfl
  have p3 : ρ 3 = t := by rw [← hρ]; rfl
  have p4 : ρ 4 = st2 := by rw [← hρ]; rfl
  have hov : ovF ρ u (oj r3l (fr6L ++ th6) (((0, [1]), (cMa s.1, [])) :: maj) tot [] (((0, []), tot) :: ((0, [1]), (cCn s.1, [1])) :: aft) []) := ov_oj hJ h108 h114 h95 (by rw [hR.2.2.2.1, htot]) (ovP_nil _ _) h100 (ovP_nil _ _)
  have hSf : sfit ρ opM S u := sfit_TJ h2 hJ.1 (by rw [h4]; exact hov)
  obtain ⟨lv, l1, l2⟩ := allL_s h1
  have hgo := saysG (W5w hc hB (by omega) (tOK_197 hc n10 p1 hans hnx) hJ) l1 hSf hM (F - 10001) (G := G) (fun x hx => by
    refine chk6_s (l2 x hx) fun u2 c f S9 c1 f1 w1 w2 hS2 hI2 => ?_
    obtain ⟨j1, j2, j3, j4, j5⟩ := J_next hJ hR hov h3 h5 hS2 w1 w2 (by decide)
    rw [p4]
    exact h u2 c f j1 j2 hI2 j3 j4 j5 c1 f1)
  rw [show 10001 + (F - 10001) = F by omega, lSr_d] at hgo
  have e9 : sden ρ (0, [4]) = st2 := by
    show 0 + (ρ 4 + 0) = st2
    omega
  rw [e9] at hgo
  exact hgo
theorem CF_95 {u : dH} {p k v : Nat} (hk : k < 5) (h : CF 0 u p k v) : aw u 95 p = cMa k := by
  match k, hk with
  | 0, _ => have h1 := h 95 (by decide) ((0, [2]), (0, [])) List.mem_cons_self; simp only [sden, ssum, rc, Nat.zero_add, Nat.add_zero] at h1; exact h1
  | 1, _ => have h1 := h 95 (by decide) ((0, [2]), (1, [])) List.mem_cons_self; simp only [sden, ssum, rc, Nat.zero_add, Nat.add_zero] at h1; exact h1
  | 2, _ => have h1 := h 95 (by decide) ((0, [2]), (3, [])) List.mem_cons_self; simp only [sden, ssum, rc, Nat.zero_add, Nat.add_zero] at h1; exact h1
  | 3, _ => have h1 := h 95 (by decide) ((0, [2]), (7, [])) List.mem_cons_self; simp only [sden, ssum, rc, Nat.zero_add, Nat.add_zero] at h1; exact h1
  | 4, _ => have h1 := h 95 (by decide) ((0, [2]), (4, [])) List.mem_cons_self; simp only [sden, ssum, rc, Nat.zero_add, Nat.add_zero] at h1; exact h1
theorem CF_100 {u : dH} {p k v : Nat} (hk : k < 5) (h : CF 0 u p k v) : aw u 100 p = cCn k + p := by
  match k, hk with
  | 0, _ => have h1 := h 100 (by decide) ((0, [2]), (1, [2])) List.mem_cons_self; simp only [sden, ssum, rc, Nat.zero_add, Nat.add_zero] at h1; exact h1
  | 1, _ => have h1 := h 100 (by decide) ((0, [2]), (1, [2])) List.mem_cons_self; simp only [sden, ssum, rc, Nat.zero_add, Nat.add_zero] at h1; exact h1
  | 2, _ => have h1 := h 100 (by decide) ((0, [2]), (1, [2])) List.mem_cons_self; simp only [sden, ssum, rc, Nat.zero_add, Nat.add_zero] at h1; exact h1
  | 3, _ => have h1 := h 100 (by decide) ((0, [2]), (1, [2])) List.mem_cons_self; simp only [sden, ssum, rc, Nat.zero_add, Nat.add_zero] at h1; exact h1
  | 4, _ => have h1 := h 100 (by decide) ((0, [2]), (2, [2])) (List.mem_cons_of_mem _ List.mem_cons_self); simp only [sden, ssum, rc, Nat.zero_add, Nat.add_zero] at h1; exact h1
theorem nx_int {cs : List (Nat × Nat)} {k : Nat} {s : Nat × Nat} (hs : cs[k]? = some s) (h : s.1 < 2) : nx cs k = atc cs (k + 1) := by
  unfold nx
  rw [hs]
  show cond (Nat.blt s.1 2) _ _ = _
  rw [di_blt.mpr h]; rfl
theorem blt_f {a b : Nat} (h : b ≤ a) : Nat.blt a b = false := by
  cases e : Nat.blt a b with
  | false => rfl
  | true => have := di_blt.mp e; omega
theorem nx_end {cs : List (Nat × Nat)} {k : Nat} {s : Nat × Nat} (hs : cs[k]? = some s) (h : 2 ≤ s.1) (h2 : cs[k + 1]? = none) : nx cs k = 4294967295 := by
  unfold nx
  rw [hs]
  show cond (Nat.blt s.1 2) _ _ = _
  rw [blt_f h, h2]; rfl
theorem nx_txt {cs : List (Nat × Nat)} {k : Nat} {s s2 : Nat × Nat} (hs : cs[k]? = some s) (h : 2 ≤ s.1) (h2 : cs[k + 1]? = some s2) (h3 : s2.1 = 2) : nx cs k = atc cs (k + 2) := by
  unfold nx
  rw [hs]
  show cond (Nat.blt s.1 2) _ _ = _
  rw [blt_f h, h2]
  show cond (Nat.beq s2.1 2) _ _ = _
  rw [h3]; rfl
theorem beq_f {a b : Nat} (h : a ≠ b) : Nat.beq a b = false := by
  cases e : Nat.beq a b with
  | false => rfl
  | true => exact absurd (Nat.eq_of_beq_eq_true e) h
theorem nx_no {cs : List (Nat × Nat)} {k : Nat} {s s2 : Nat × Nat} (hs : cs[k]? = some s) (h : 2 ≤ s.1) (h2 : cs[k + 1]? = some s2) (h3 : s2.1 ≠ 2) : nx cs k = 4294967295 := by
  unfold nx
  rw [hs]
  show cond (Nat.blt s.1 2) _ _ = _
  rw [blt_f h, h2]
  show cond (Nat.beq s2.1 2) _ _ = _
  rw [beq_f h3]; rfl
theorem drop_of {cs : List (Nat × Nat)} {k : Nat} {s : Nat × Nat} (hs : cs[k]? = some s) : cs.drop k = s :: cs.drop (k + 1) := by
  have n10 := (List.getElem?_eq_some_iff.mp hs).1
  rw [List.drop_eq_getElem_cons n10]
  rw [List.getElem?_eq_getElem n10] at hs
  rw [Option.some.inj hs]
theorem st6_int {p : Nat} {c : Nat × Nat} {t : List (Nat × Nat)} (h : c.1 < 2) : st6 p (c :: t) = st6 (p + cCn c.1) t ∧ two (c :: t) = two t := by
  cases t with
  | nil =>
    refine ⟨?_, ?_⟩
    · show cond (Nat.blt c.1 2) _ _ = _
      rw [di_blt.mpr h]; rfl
    · show Nat.blt c.1 2 = _
      rw [di_blt.mpr h]; rfl
  | cons d t =>
    refine ⟨?_, ?_⟩
    · show cond (Nat.blt c.1 2) _ _ = _
      rw [di_blt.mpr h]; rfl
    · show cond (Nat.blt c.1 2) _ _ = _
      rw [di_blt.mpr h]; rfl
theorem st6_end {p : Nat} {c : Nat × Nat} (h : 2 ≤ c.1) : st6 p [c] = p ∧ two [c] = false := by
  refine ⟨?_, blt_f h⟩
  show cond (Nat.blt c.1 2) _ _ = _
  rw [blt_f h]; rfl
theorem st6_txt {p : Nat} {c d : Nat × Nat} {t : List (Nat × Nat)} (h : 2 ≤ c.1) (h2 : d.1 = 2) : st6 p (c :: d :: t) = st6 (p + cCn c.1 + cCn d.1) t ∧ two (c :: d :: t) = two t := by
  refine ⟨?_, ?_⟩
  · show cond (Nat.blt c.1 2) _ (cond (Nat.beq d.1 2) _ _) = _
    rw [blt_f h, h2]; rfl
  · show cond (Nat.blt c.1 2) _ (cond (Nat.beq d.1 2) _ _) = _
    rw [blt_f h, h2]; rfl
theorem st6_no {p : Nat} {c d : Nat × Nat} {t : List (Nat × Nat)} (h : 2 ≤ c.1) (h2 : d.1 ≠ 2) : st6 p (c :: d :: t) = p ∧ two (c :: d :: t) = false := by
  refine ⟨?_, ?_⟩
  · show cond (Nat.blt c.1 2) _ (cond (Nat.beq d.1 2) _ _) = _
    rw [blt_f h, beq_f h2]; rfl
  · show cond (Nat.blt c.1 2) _ (cond (Nat.beq d.1 2) _ _) = _
    rw [blt_f h, beq_f h2]; rfl
/-- a group has failed -/
theorem fail6 {cs : List (Nat × Nat)} (hc : csOK cs) {G : dR → Prop} {u0 : dH} (hG : ∀ u2, JJ u2 → RS cs u2 → MI (T14 cs 8192) u2 → KP u0 u2 → G (some (some (.inl (b2n (two cs))), u2))) {k st F : Nat} {s : Nat × Nat} (hs : cs[k]? = some s) (h1 : st6 1 cs = atc cs k) (h2 : two cs = false) {u : dH} (hJ : JJ u) (hR : RS cs u) (hM : MI (T14 cs (atc cs k + 1)) u) (hK : KP u0 u) (h108 : ovP u 108 n2l) (h114 : ovP u 114 (frN 194 195 4294967295 (atc cs k) 0)) (hst : st ≤ 900000) (hF : 10001 ≤ F) : G (drun dProg F 59 62 31 (dLs 46 4294967292 st) [] u) := by
  obtain ⟨n1, n2, n3, n4, n5, n6, n7, n8, n9, n10⟩ := at_num hc hs
  have hv : b2n (two cs) = 0 := by rw [h2]; rfl
  rw [hv] at hG
  refine fin6 (ρ := rj (atc cs k) (nOf cs - atc cs k) 0 st) hc (rj_ok ⟨n1, n3⟩ (by omega) (by omega) (by omega)) (Nat.zero_le _) rfl (b := 8192) ?_ p_fail c6.2.2.1 c6.2.2.2.1 (a := (1, [1, 2])) rfl rfl hJ hR (MI_mono (fun key a h => T14_mono (by omega) (Nat.le_refl _) h) hM) h108 (fr := fr6F) ?_ (by show 1 + (atc cs k + (nOf cs - atc cs k + 0)) = _; omega) hF fun u3 a1 a2 a3 a4 => hG u3 a1 a2 a3 (KP_tr hK a4)
  · refine tOK_whole fun e he => ?_
    simp only [List.mem_cons, List.not_mem_nil, or_false] at he
    rcases he with rfl | rfl
    · refine ⟨(by dsimp only; rw [sd0]; decide), by show 0 + (atc cs k + 0) < 1000; omega, ?_, (by dsimp only; rw [sd0]; decide)⟩
      show (2351955969, 1 + (0 + (atc cs k + 0))) ∈ tW cs
      rw [show 0 + (atc cs k + 0) = st6 1 cs by omega]; simp [tW]
    · refine ⟨(by dsimp only; rw [sd0]; decide), (by dsimp only; rw [sd0]; decide), ?_, (by dsimp only; rw [sd0]; decide)⟩
      show (1277165568, 1 + 0) ∈ tW cs
      simp [tW, hv]
  · show ovP u 114 (frN 194 195 4294967295 (0 + (atc cs k + 0)) 0)
    rw [Nat.add_zero, Nat.zero_add]
    exact h114
theorem tOK_n197 {cs : List (Nat × Nat)} {ρ : Nat → Nat} : tOK ρ (T14 cs 8192) [((2354061311, []), (4294967295, []))] := by
  intro e he
  rw [List.mem_singleton.mp he]
  exact ⟨(by dsimp only; rw [sd0]; decide), 0, Or.inr (Or.inr ⟨by show (2354061311, 0) ∈ tW cs; simp [tW], fun _ => rfl⟩), by decide, rfl⟩
/-- all has been gone through -/
theorem end6 {cs : List (Nat × Nat)} (hc : csOK cs) {G : dR → Prop} {u0 : dH} (hG : ∀ u2, JJ u2 → RS cs u2 → MI (T14 cs 8192) u2 → KP u0 u2 → G (some (some (.inl (b2n (two cs))), u2))) {k t st F : Nat} (hk : k = cs.length) (ht : t ≤ k) (h1 : st6 1 cs = st6 (atc cs k) (cs.drop k)) (h2 : two cs = two (cs.drop k)) {u : dH} (hJ : JJ u) (hR : RS cs u) (hM : MI (T14 cs (atc cs k)) u) (hK : KP u0 u) (h108 : ovP u 108 n2l) (h114 : ovP u 114 (frN 194 195 196 (atc cs k) t)) (hst : st ≤ 900000) (hF : 10001 ≤ F) : G (drun dProg F 59 62 31 (dLs 46 4294967292 st) [] u) := by
  have hat : atc cs k = 1 + nOf cs := atc_len cs (by omega)
  have hd : cs.drop k = [] := List.drop_eq_nil_of_le (by omega)
  rw [hd] at h1 h2
  have hv : b2n (two cs) = 1 := by rw [h2]; rfl
  have h1 : st6 1 cs = 1 + nOf cs := h1.trans hat
  have h20 := hc.2
  have hn := nOf_le cs
  rw [hv] at hG
  have hM2 : MI (T14 cs 8192) u := MI_mono (fun key a h => T14_mono (by omega) (Nat.le_refl _) h) hM
  by_cases h0 : nOf cs = 0
  · have hk0 : k = 0 := by
      cases cs with
      | nil => exact hk
      | cons c t =>
        have := (cCn_pos c.1).1
        have h9 : nOf (c :: t) = cCn c.1 + nOf t := rfl
        omega
    have ht0 : t = 0 := by omega
    rw [hat, h0, ht0] at h114
    refine fin6 (ρ := rj 1 0 0 st) hc (rj_ok (by omega) (by omega) (by omega) (by omega)) (Nat.zero_le _) rfl (b := 8192) (tOK_app tOK_n197 ?_) p_none c6.2.2.2.2.2.2.1 c6.2.2.2.2.2.2.2 (a := (1, [])) rfl rfl hJ hR hM2 h108 (fr := frL 194 195 196 (1, []) (0, [])) h114 (by rw [h0]; rfl) hF fun u2 a1 a2 a3 a4 => hG u2 a1 a2 a3 (KP_tr hK a4)
    refine tOK_whole fun e he => ?_
    simp only [List.mem_cons, List.not_mem_nil, or_false] at he
    rcases he with rfl | rfl
    · exact ⟨(by dsimp only; rw [sd0]; decide), (by dsimp only; rw [sd0]; decide), by show (2351964159, 1 + 0) ∈ tW cs; simp [tW], (by dsimp only; rw [sd0]; decide)⟩
    · refine ⟨(by dsimp only; rw [sd0]; decide), (by dsimp only; rw [sd0]; decide), ?_, (by dsimp only; rw [sd0]; decide)⟩
      show (1277165568, 1 + 1) ∈ tW cs
      simp [tW, hv]
  · refine fin6 (ρ := rj (1 + nOf cs) 0 t st) hc (rj_okf (by omega) (by omega) (by omega) (by omega)) (show t ≤ 20 by omega) rfl (b := 8192) (tOK_app tOK_n197 ?_) p_full c6.2.2.2.2.1 c6.2.2.2.2.2.1 (a := (0, [1])) rfl rfl hJ hR hM2 h108 (fr := fr6L) ?_ (by show 0 + (1 + nOf cs + 0) = _; omega) hF fun u2 a1 a2 a3 a4 => hG u2 a1 a2 a3 (KP_tr hK a4)
    · refine tOK_whole fun e he => ?_
      simp only [List.mem_cons, List.not_mem_nil, or_false] at he
      rcases he with rfl | rfl
      · refine ⟨(by dsimp only; rw [sd0]; decide), by show 0 + (1 + nOf cs + 0) < 1000; omega, ?_, (by dsimp only; rw [sd0]; decide)⟩
        show (2351955969, 1 + (0 + (1 + nOf cs + 0))) ∈ tW cs
        rw [show 0 + (1 + nOf cs + 0) = st6 1 cs by omega]; simp [tW]
      · refine ⟨(by dsimp only; rw [sd0]; decide), (by dsimp only; rw [sd0]; decide), ?_, (by dsimp only; rw [sd0]; decide)⟩
        show (1277165568, 1 + 1) ∈ tW cs
        simp [tW, hv]
    · rw [fr6_d, Nat.add_zero, Nat.zero_add, Nat.add_zero, Nat.zero_add, ← hat]
      exact h114
theorem cCn_1 {k : Nat} (h : k < 4) : cCn k = 1 := by
  match k, h with
  | 0, _ => rfl
  | 1, _ => rfl
  | 2, _ => rfl
  | 3, _ => rfl
/-- says, to the end -/
theorem run6_all {cs : List (Nat × Nat)} (hc : csOK cs) {G : dR → Prop} {u0 : dH} (hG : ∀ u2, JJ u2 → RS cs u2 → MI (T14 cs 8192) u2 → KP u0 u2 → G (some (some (.inl (b2n (two cs))), u2))) : ∀ (m k t st F : Nat) (u : dH), cs.length - k ≤ m → k ≤ cs.length → t ≤ k → st6 1 cs = st6 (atc cs k) (cs.drop k) → two cs = two (cs.drop k) → JJ u → RS cs u → MI (T14 cs (atc cs k)) u → KP u0 u → ovP u 108 n2l → ovP u 114 (frN 194 195 196 (atc cs k) t) → st ≤ 2000 * (t + 1) → 20002 * (m + 2) ≤ F → G (drun dProg F 59 62 31 (dLs 46 4294967292 st) [] u) := by
  have h20 := hc.2
  intro m
  induction m with
  | zero =>
    intro k t st F u hm hk ht h1 h2 hJ hR hM hK h108 h114 hst hF
    exact end6 hc hG (by omega) ht h1 h2 hJ hR hM hK h108 h114 (by omega) (by omega)
  | succ m ih =>
    intro k t st F u hm hk ht h1 h2 hJ hR hM hK h108 h114 hst hF
    by_cases hkl : k = cs.length
    · exact end6 hc hG hkl ht h1 h2 hJ hR hM hK h108 h114 (by omega) (by omega)
    · have hk2 : k < cs.length := by omega
      obtain ⟨s, hs⟩ : ∃ s, cs[k]? = some s := ⟨_, List.getElem?_eq_getElem hk2⟩
      obtain ⟨n1, n2, n3, n4, n5, n6, n7, n8, n9, n10⟩ := at_num hc hs
      have hd := drop_of hs
      refine go6 hc hk2 (t := t) (by omega) hJ hR hM h108 h114 (by omega) (by omega) fun u2 c f j1 j2 j3 j4 j5 j6 c1 f1 => ?_
      have hM2 : MI (T14 cs (atc cs k + 1)) u2 := MI_mono (fun key a h => T14_mono (by omega) (by omega) h) j3
      have hC := RS_cell j2 hs
      have e95 : aw u2 95 (atc cs k) = cMa s.1 := CF_95 n8 hC
      have e100 : aw u2 100 (atc cs k) = cCn s.1 + atc cs k := CF_100 n8 hC
      have e0 : aw u2 100 0 = 1 + nOf cs := j2.2.2.1
      have hsu := atc_succ hs
      by_cases hi : s.1 < 2
      · have hc1 : cCn s.1 = 1 := cCn_1 (by omega)
        have hnx := nx_int hs hi
        refine st6_step hc (t := t) (st := st) (rest := nOf cs - atc cs k) (by omega) hs (ok6i hi) j1 j2 hM2 (j5 _) (j6 _) (st2 := c + st) (by omega) (by omega) (by show 1 + (atc cs k + (nOf cs - atc cs k + 0)) = _; omega) (by rw [hnx]; show 1 + (atc cs k + 0) = _; omega) (Or.inl (by omega)) ?_ ?_ (by omega) fun u3 c2 f2 i1 i2 i3 i4 i5 i6 c3 f3 => ?_
        · show ovP u2 95 [(0 + (atc cs k + 0), cMa s.1)]
          rw [Nat.add_zero, Nat.zero_add]
          exact ovP_1 e95
        · show ovP u2 100 [(0, 1 + (atc cs k + (nOf cs - atc cs k + 0))), (0 + (atc cs k + 0), cCn s.1 + (atc cs k + 0))]
          exact ovP_2 (by rw [e0]; omega) (by rw [Nat.add_zero, Nat.zero_add]; exact e100) (by omega)
        · have g1 := (st6_int (p := atc cs k) (t := cs.drop (k + 1)) hi)
          refine ih (k + 1) (t + 1) (c2 + (c + st)) _ u3 (by omega) (by omega) (by omega) ?_ ?_ i1 i2 (MI_mono (fun key a h => T14_mono (by omega) (by omega) h) i3) (KP_tr hK (KP_tr j4 i4)) i5 ?_ (by omega) (by omega)
          · rw [h1, hd, g1.1, hsu]
          · rw [h2, hd, g1.2]
          · have i6 : ovP u3 114 (frN 194 195 196 (1 + (atc cs k + 0)) (1 + (t + 0))) := i6
            rw [hsu, hc1, show atc cs k + 1 = 1 + (atc cs k + 0) by omega, show t + 1 = 1 + (t + 0) by omega]
            exact i6
      · have hi2 : 2 ≤ s.1 := by omega
        cases hs2 : cs[k + 1]? with
        | none =>
          have hl := List.getElem?_eq_none_iff.mp hs2
          have hal := atc_len cs hl
          have hnx := nx_end hs hi2 hs2
          refine st6_step hc (t := t) (st := st) (rest := 0) (by omega) hs (ok6e hi2 n8) j1 j2 hM2 (j5 _) (j6 _) (st2 := c + st) (by omega) (by omega) (by show cCn s.1 + (atc cs k + 0) = _; omega) (by rw [hnx]; rfl) (Or.inr hnx) ?_ ?_ (by omega) fun u3 c2 f2 i1 i2 i3 i4 i5 i6 c3 f3 => ?_
          · show ovP u2 95 [(0 + (atc cs k + 0), cMa s.1)]
            rw [Nat.add_zero, Nat.zero_add]
            exact ovP_1 e95
          · show ovP u2 100 [(0, cCn s.1 + (atc cs k + 0)), (0 + (atc cs k + 0), cCn s.1 + (atc cs k + 0))]
            exact ovP_2 (by rw [e0]; omega) (by rw [Nat.add_zero, Nat.zero_add]; exact e100) (by omega)
          · have hdn : cs.drop (k + 1) = [] := List.drop_eq_nil_of_le hl
            rw [hdn] at hd
            have g1 := st6_end (p := atc cs k) (c := s) hi2
            have i6 : ovP u3 114 (frN 194 195 4294967295 (0 + (atc cs k + 0)) 0) := i6
            rw [Nat.add_zero, Nat.zero_add] at i6
            exact fail6 hc hG hs (by rw [h1, hd, g1.1]) (by rw [h2, hd, g1.2]) i1 i2 i3 (KP_tr hK (KP_tr j4 i4)) i5 i6 (by omega) (by omega)
        | some s2 =>
          obtain ⟨m1, m2, m3, m4, m5, m6, m7, m8, m9, m10⟩ := at_num hc hs2
          have hd2 := drop_of hs2
          rw [hd2] at hd
          have hC2 := RS_cell j2 hs2
          rw [hsu] at hC2
          have f95 : aw u2 95 (atc cs k + cCn s.1) = cMa s2.1 := CF_95 m8 hC2
          have f100 : aw u2 100 (atc cs k + cCn s.1) = cCn s2.1 + (atc cs k + cCn s.1) := CF_100 m8 hC2
          have hsu2 : atc cs (k + 2) = atc cs (k + 1) + cCn s2.1 := atc_succ hs2
          by_cases ht2 : s2.1 = 2
          · have hc2 : cCn s2.1 = 1 := by rw [ht2]; rfl
            have hnx := nx_txt hs hi2 hs2 ht2
            refine st6_step hc (t := t) (st := st) (rest := nOf cs - atc cs k - cCn s.1) (by omega) hs (ok6t hi2 n8) j1 j2 hM2 (j5 _) (j6 _) (st2 := c + st) (by omega) (by omega) (by show cCn s.1 + 1 + (atc cs k + (nOf cs - atc cs k - cCn s.1 + 0)) = _; omega) (by rw [hnx]; show cCn s.1 + 1 + (atc cs k + 0) = _; omega) (Or.inl (by omega)) ?_ ?_ (by omega) fun u3 c2 f2 i1 i2 i3 i4 i5 i6 c3 f3 => ?_
            · show ovP u2 95 [(0 + (atc cs k + 0), cMa s.1), (cCn s.1 + (atc cs k + 0), 3)]
              refine ovP_2 (by rw [Nat.add_zero, Nat.zero_add]; exact e95) ?_ (by omega)
              rw [show cCn s.1 + (atc cs k + 0) = atc cs k + cCn s.1 by omega, f95, ht2]; rfl
            · show ovP u2 100 [(0, cCn s.1 + 1 + (atc cs k + (nOf cs - atc cs k - cCn s.1 + 0))), (0 + (atc cs k + 0), cCn s.1 + (atc cs k + 0)), (cCn s.1 + (atc cs k + 0), cCn s.1 + 1 + (atc cs k + 0))]
              refine ovP_cons (by rw [e0]; omega) (ovP_2 (by rw [Nat.add_zero, Nat.zero_add]; exact e100) ?_ (by omega)) ?_
              · rw [show cCn s.1 + (atc cs k + 0) = atc cs k + cCn s.1 by omega, f100]; omega
              · intro e he
                simp only [List.mem_cons, List.not_mem_nil, or_false] at he
                rcases he with rfl | rfl
                · show 0 + (atc cs k + 0) ≠ 0; omega
                · show cCn s.1 + (atc cs k + 0) ≠ 0; omega
            · have g1 := (st6_txt (p := atc cs k) (c := s) (d := s2) (t := cs.drop (k + 1 + 1)) hi2 ht2)
              refine ih (k + 2) (t + 1) (c2 + (c + st)) _ u3 (by omega) (by omega) (by omega) ?_ ?_ i1 i2 (MI_mono (fun key a h => T14_mono (by omega) (by omega) h) i3) (KP_tr hK (KP_tr j4 i4)) i5 ?_ (by omega) (by omega)
              · rw [h1, hd, g1.1, hsu2, hsu]
              · rw [h2, hd, g1.2]
              · have i6 : ovP u3 114 (frN 194 195 196 (cCn s.1 + 1 + (atc cs k + 0)) (1 + (t + 0))) := i6
                rw [hsu2, hsu, hc2, show atc cs k + cCn s.1 + 1 = cCn s.1 + 1 + (atc cs k + 0) by omega, show t + 1 = 1 + (t + 0) by omega]
                exact i6
          · have hnx := nx_no hs hi2 hs2 ht2
            refine st6_step hc (t := t) (st := st) (rest := nOf cs - atc cs k - cCn s.1) (by omega) hs (ok6n hi2 n8 m8 ht2) j1 j2 hM2 (j5 _) (j6 _) (st2 := c + st) (by omega) (by omega) (by show cCn s.1 + 1 + (atc cs k + (nOf cs - atc cs k - cCn s.1 + 0)) = _; omega) (by rw [hnx]; rfl) (Or.inr hnx) ?_ ?_ (by omega) fun u3 c2 f2 i1 i2 i3 i4 i5 i6 c3 f3 => ?_
            · show ovP u2 95 [(0 + (atc cs k + 0), cMa s.1), (cCn s.1 + (atc cs k + 0), cMa s2.1)]
              refine ovP_2 (by rw [Nat.add_zero, Nat.zero_add]; exact e95) ?_ (by omega)
              rw [show cCn s.1 + (atc cs k + 0) = atc cs k + cCn s.1 by omega, f95]
            · show ovP u2 100 [(0, cCn s.1 + 1 + (atc cs k + (nOf cs - atc cs k - cCn s.1 + 0))), (0 + (atc cs k + 0), cCn s.1 + (atc cs k + 0))]
              exact ovP_2 (by rw [e0]; omega) (by rw [Nat.add_zero, Nat.zero_add]; exact e100) (by omega)
            · have g1 := st6_no (p := atc cs k) (c := s) (d := s2) (t := cs.drop (k + 1 + 1)) hi2 ht2
              have i6 : ovP u3 114 (frN 194 195 4294967295 (0 + (atc cs k + 0)) 0) := i6
              rw [Nat.add_zero, Nat.zero_add] at i6
              exact fail6 hc hG hs (by rw [h1, hd, g1.1]) (by rw [h2, hd, g1.2]) i1 i2 i3 (KP_tr hK (KP_tr j4 i4)) i5 i6 (by omega) (by omega)

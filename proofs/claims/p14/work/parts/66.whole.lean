/-! ===== judge(5, 0), (6, 0), (7, 0): from entry to answer ===== -/
theorem cJ0 : chkT sJ0 tj = true ∧ chkT sJ_5 tj = true ∧ chkT sJ_6 tj = true ∧ chkT sJ_7 tj = true := by decide +kernel
theorem oJ0 : ovs sJ0 = oj (o108 []) [] [((0, []), (4, []))] (1, [2]) [] [((0, []), (1, [2]))] [] := rfl
theorem ovJ0 {cs : List (Nat × Nat)} {u : dH} {ρ : Nat → Nat} (hρ : ρ 2 = nOf cs) (hJ : JJ u) (hR : RS cs u) : ovF ρ u (oj (o108 []) [] [((0, []), (4, []))] (1, [2]) [] [((0, []), (1, [2]))] []) := by
  have e : sden ρ (1, [2]) = 1 + nOf cs := by
    show 1 + (ρ 2 + 0) = _
    omega
  exact ov_oj hJ hJ.2.2.2.2.1 (ovP_nil _ _) (ovP_1 hR.2.1) (by rw [hR.2.2.2.1, e]) (ovP_nil _ _) (ovP_1 (by rw [e]; exact hR.2.2.1)) (ovP_nil _ _)
theorem back_s {cs : List (Nat × Nat)} (hc : csOK cs) {b v e : Nat} {ρ : Nat → Nat} {K : List sFr} (hρ : ρ 2 = nOf cs) (hB : sok ρ B5) (h3 : ρ 3 ≤ 20) (h : back sJ0 K v = true) {u : dH} (hJ : JJ u) (hR : RS cs u) (hM : MI (T14 cs b) u) {G : dR → Prop} (k : ∀ u2, JJ u2 → RS cs u2 → MI (T14 cs b) u2 → KP u u2 → G (some (some (.inl v), u2))) : kGoal G (K.map (kden pgm dProg ρ e)) (some (some (.inl v), u)) := by
  unfold back at h
  obtain ⟨lv, l1, l2⟩ := sAll_s h
  have hov := ovJ0 hρ hJ hR
  have hS : sfit ρ opM sJ0 u := sfit_TJ cJ0.1 hJ.1 (by rw [oJ0]; exact hov)
  exact sbackL_go (W5w hc (b := b) hB h3 (tab := []) (fun e he => absurd he List.not_mem_nil) hJ) l1 e (G := G) (fun x hx => by
    obtain ⟨p, rfl, hp⟩ := l2 x hx
    obtain ⟨p1, p2⟩ := p
    obtain ⟨v1, v2, v3⟩ := end5_s hp
    intro u2 hS2 hI2
    obtain ⟨j1, j2, j3, -, -⟩ := J_next hJ hR hov cJ0.1 oJ0 hS2 v2 v3 (by decide)
    show G (some (p1.map (svd ρ), u2))
    have v1 : p1 = some (.inl (v, [])) := v1
    rw [v1]
    exact k u2 j1 j2 hI2 j3) hS hM
def frW (root grp entry : Nat) : List (sN × sN) := [((0, []), (3, [])), ((1, []), (root, [])), ((2, []), (0, [])), ((3, []), (0, [])), ((11, []), (4, [])), ((12, []), (grp, [])), ((13, []), (0, [])), ((14, []), (1, [])), ((17, []), (0, [])), ((18, []), (grp, [])), ((16, []), (0, [])), ((19, []), (1, [])), ((15, []), (entry, [])), ((20, []), (0, [])), ((21, []), (0, []))]
def rWl : List (sN × sN) := o108 [] ++ [((7, []), (2, []))]
theorem oJ5 : ovs sJ_5 = oj rWl (frW 188 189 190) [((0, []), (4, []))] (1, [2]) [] [((0, []), (1, [2]))] [] := rfl
theorem oJ6 : ovs sJ_6 = oj rWl (frW 194 195 196) [((0, []), (4, []))] (1, [2]) [] [((0, []), (1, [2]))] [] := rfl
theorem oJ7 : ovs sJ_7 = oj rWl (frW 207 208 209) [((0, []), (4, []))] (1, [2]) [] [((0, []), (1, [2]))] [] := rfl
theorem rW_n {ρ : Nat → Nat} {u : dH} (h : ovP u 108 (den ρ rWl)) : ovP u 108 n2l := by
  have h2 : ovP u 108 [(0, 44), (1, 53), (2, 67), (3, 94), (4, 107), (5, 110), (6, 115), (13, 116), (15, 117), (16, 118), (7, 2)] := h
  exact ovP_sub h2 (by decide) (by decide)
theorem frW_n {ρ : Nat → Nat} {u : dH} {root grp entry : Nat} (h : ovP u 114 (den ρ (frW root grp entry))) : ovP u 114 (frN root grp entry 1 0) := by
  have h2 : ovP u 114 [(0, 3), (1, root), (2, 0), (3, 0), (11, 4), (12, grp), (13, 0), (14, 1), (17, 0), (18, grp), (16, 0), (19, 1), (15, entry), (20, 0), (21, 0)] := h
  refine ovP_sub h2 (by show List.Nodup [0, 1, 2, 3, 11, 12, 13, 14, 15, 16, 17, 18, 19, 20, 21]; decide) fun e he => ?_
  simp only [frN, List.mem_cons, List.not_mem_nil, or_false] at he ⊢
  rcases he with rfl | rfl | rfl | rfl | rfl | rfl | rfl | rfl | rfl | rfl | rfl | rfl | rfl | rfl | rfl <;> simp
/-- from entry to answer, once the frames' run is known -/
theorem whole_go {cs : List (Nat × Nat)} (hc : csOK cs) {r n b b2 key root grp entry e : Nat} {SA : sH} (hn : n ≤ 1) (hq : allL (chkS r n SA sJ0) (runS r [((key, []), (n, []))] sJ0) = true) (hcA : chkT SA tj = true) (hoA : ovs SA = oj rWl (frW root grp entry) [((0, []), (4, []))] (1, [2]) [] [((0, []), (1, [2]))] []) (ht : tOK (rj 1 (nOf cs) 0 0) (T14 cs b) [((key, []), (n, []))]) {u : dH} (hJ : JJ u) (hR : RS cs u) (hM : MI (T14 cs b) u) (hb : b ≤ b2 ∧ b2 ≤ 8192)
    (hrun : ∀ (G : dR → Prop) (u1 : dH) (st F : Nat), (∀ u2, JJ u2 → RS cs u2 → MI (T14 cs b2) u2 → KP u u2 → G (some (some (.inl n), u2))) → JJ u1 → RS cs u1 → MI (T14 cs b) u1 → KP u u1 → ovP u1 108 n2l → ovP u1 114 (frN root grp entry 1 0) → st ≤ 1000 → 550000 ≤ F → G (drun dProg F 59 62 31 (dLs (40 + r) 4294967292 st) [] u1)) :
    ∃ u2, drun dProg (600000 + e) 60 261 0 [(0, .inr (.inr 1)), (1, .inl r), (2, .inl 0)] [] u = some (some (.inl n), u2) ∧ JJ u2 ∧ RS cs u2 ∧ MI (T14 cs b2) u2 ∧ KP u u2 := by
  obtain ⟨lv, l1, l2⟩ := allL_s hq
  have hl := nOf_le cs
  have h20 := hc.2
  generalize hρ : rj 1 (nOf cs) 0 0 = ρ at ht
  have hB : sok ρ B5 := by rw [← hρ]; exact rj_ok (by omega) (by omega) (by omega) (by omega)
  have p2 : ρ 2 = nOf cs := by rw [← hρ]; rfl
  have p3 : ρ 3 = 0 := by rw [← hρ]; rfl
  have hov := ovJ0 p2 hJ hR
  have hS : sfit ρ opM sJ0 u := sfit_TJ cJ0.1 hJ.1 (by rw [oJ0]; exact hov)
  have hmono : ∀ u, MI (T14 cs b) u → MI (T14 cs b2) u := fun u h => MI_mono (fun key a h => T14_mono hb.1 hb.2 h) h
  have hgo := sexL_jmp (W5w hc hB (by omega) ht hJ) l1 (500000 + e) (G := fun z => ∃ u2, z = some (some (.inl n), u2) ∧ JJ u2 ∧ RS cs u2 ∧ MI (T14 cs b2) u2 ∧ KP u u2) (fun x hx => by
    have h := l2 x hx
    unfold chkS at h
    split at h
    · rename_i f d y pc L st S9 K9
      simp only [Bool.and_eq_true] at h
      obtain ⟨q1, q2, q3, q4, q5, ⟨q6, q7⟩, ⟨q8, q9⟩, q10⟩ := h
      have q2 := Nat.eq_of_beq_eq_true q2
      have q3 := Nat.eq_of_beq_eq_true q3
      have q4 := Nat.eq_of_beq_eq_true q4
      have q5 : st = [] := List.isEmpty_iff.mp q5
      have q1 := Nat.le_of_ble_eq_true q1
      subst q2 q3 q4 q5
      split at q10
      · rename_i c a2 r2
        simp only [Bool.and_eq_true] at q10
        obtain ⟨g1, g2, g3⟩ := q10
        have g1 := di_blt.mp g1
        have g2 := Nat.eq_of_beq_eq_true g2
        have g3 : r2 = 40 + r := Nat.eq_of_beq_eq_true g3
        subst g2 g3
        intro u1 hS1 hI1
        obtain ⟨j1, j2, j3, j4, j5⟩ := J_next hJ hR hov hcA hoA hS1 q8 q9 (by decide)
        refine hrun (fun z => kGoal _ (K9.map (kden pgm dProg ρ (500000 + e))) z) u1 c (f + (500000 + e)) (fun u2 i1 i2 i3 i4 => ?_) j1 j2 hI1 j3 (rW_n j4) (frW_n j5) (by omega) (by omega)
        have hbk : back sJ0 K9 n = true := by
          rcases Nat.le_one_iff_eq_zero_or_eq_one.mp hn with rfl | rfl
          · exact q6
          · exact q7
        exact back_s hc p2 hB (by omega) hbk i1 i2 i3 fun u3 k1 k2 k3 k4 => ⟨u3, rfl, k1, k2, k3, KP_tr i4 k4⟩
      · cases q10
    · rename_i p
      obtain ⟨p1, p9⟩ := p
      obtain ⟨v1, v2, v3⟩ := end5_s h
      intro u1 hS1 hI1
      obtain ⟨j1, j2, j3, -, -⟩ := J_next hJ hR hov cJ0.1 oJ0 hS1 v2 v3 (by decide)
      have v1 : p1 = some (.inl (n, [])) := v1
      refine ⟨u1, ?_, j1, j2, hmono _ hI1, j3⟩
      show some (p1.map (svd ρ), u1) = _
      rw [v1]
      rfl) hS hM
  rw [show 100000 + (500000 + e) = 600000 + e by omega] at hgo
  exact hgo
theorem b2n_le (b : Bool) : b2n b ≤ 1 := by cases b <;> decide
theorem whole5 {cs : List (Nat × Nat)} (hc : csOK cs) {b : Nat} (hb : b ≤ 8192) {u : dH} (hJ : JJ u) (hR : RS cs u) (hM : MI (T14 cs b) u) (e : Nat) : ∃ u2, drun dProg (600000 + e) 60 261 0 [(0, .inr (.inr 1)), (1, .inl 5), (2, .inl 0)] [] u = some (some (.inl (b2n (allB someB cs))), u2) ∧ JJ u2 ∧ RS cs u2 ∧ MI (T14 cs b) u2 ∧ KP u u2 := by
  have h20 := hc.2
  have hq : allL (chkS 5 (b2n (allB someB cs)) sJ_5 sJ0) (runS 5 [((1270874112, []), (b2n (allB someB cs), []))] sJ0) = true := by
    cases allB someB cs with
    | true => exact q_5_1
    | false => exact q_5_0
  refine whole_go hc (b2n_le _) hq cJ0.2.1 oJ5 (tOK_whole fun e he => ?_) hJ hR hM (by omega) fun G u1 st F hG i1 i2 i3 i4 i5 i6 i7 i8 => ?_
  · rw [List.mem_singleton.mp he]
    refine ⟨by show 1270874112 + 0 < _; decide, by show b2n (allB someB cs) + 0 < 1000; have := b2n_le (allB someB cs); omega, ?_, by show 1270874112 + 0 ≠ _; decide⟩
    show (1270874112, 1 + b2n (allB someB cs)) ∈ tW cs
    simp [tW]
  · exact run5_all hc hG cs.length 0 st F u1 rfl (Nat.zero_le _) rfl rfl i1 i2 i3 i4 i5 i6 (by omega) (by omega)
theorem whole7 {cs : List (Nat × Nat)} (hc : csOK cs) {b : Nat} (hb : b ≤ 8192) {u : dH} (hJ : JJ u) (hR : RS cs u) (hM : MI (T14 cs b) u) (e : Nat) : ∃ u2, drun dProg (600000 + e) 60 261 0 [(0, .inr (.inr 1)), (1, .inl 7), (2, .inl 0)] [] u = some (some (.inl (b2n (allB onlyB cs))), u2) ∧ JJ u2 ∧ RS cs u2 ∧ MI (T14 cs b) u2 ∧ KP u u2 := by
  have h20 := hc.2
  have hq : allL (chkS 7 (b2n (allB onlyB cs)) sJ_7 sJ0) (runS 7 [((1290797056, []), (b2n (allB onlyB cs), []))] sJ0) = true := by
    cases allB onlyB cs with
    | true => exact q_7_1
    | false => exact q_7_0
  refine whole_go hc (b2n_le _) hq cJ0.2.2.2 oJ7 (tOK_whole fun e he => ?_) hJ hR hM (by omega) fun G u1 st F hG i1 i2 i3 i4 i5 i6 i7 i8 => ?_
  · rw [List.mem_singleton.mp he]
    refine ⟨by show 1290797056 + 0 < _; decide, by show b2n (allB onlyB cs) + 0 < 1000; have := b2n_le (allB onlyB cs); omega, ?_, by show 1290797056 + 0 ≠ _; decide⟩
    show (1290797056, 1 + b2n (allB onlyB cs)) ∈ tW cs
    simp [tW]
  · exact run7_all hc hG cs.length 0 st F u1 rfl (Nat.zero_le _) rfl rfl i1 i2 i3 i4 i5 i6 (by omega) (by omega)
theorem whole6 {cs : List (Nat × Nat)} (hc : csOK cs) {u : dH} (hJ : JJ u) (hR : RS cs u) (hM : MI (T14 cs 1) u) (e : Nat) : ∃ u2, drun dProg (600000 + e) 60 261 0 [(0, .inr (.inr 1)), (1, .inl 6), (2, .inl 0)] [] u = some (some (.inl (b2n (two cs))), u2) ∧ JJ u2 ∧ RS cs u2 ∧ MI (T14 cs 8192) u2 ∧ KP u u2 := by
  have h20 := hc.2
  have hq : allL (chkS 6 (b2n (two cs)) sJ_6 sJ0) (runS 6 [((1277165568, []), (b2n (two cs), []))] sJ0) = true := by
    cases two cs with
    | true => exact q_6_1
    | false => exact q_6_0
  refine whole_go hc (b2n_le _) hq cJ0.2.2.1 oJ6 (tOK_whole fun e he => ?_) hJ hR hM (by omega) fun G u1 st F hG i1 i2 i3 i4 i5 i6 i7 i8 => ?_
  · rw [List.mem_singleton.mp he]
    refine ⟨by show 1277165568 + 0 < _; decide, by show b2n (two cs) + 0 < 1000; have := b2n_le (two cs); omega, ?_, by show 1277165568 + 0 ≠ _; decide⟩
    show (1277165568, 1 + b2n (two cs)) ∈ tW cs
    simp [tW]
  · exact run6_all hc hG cs.length 0 0 st F u1 (by omega) (Nat.zero_le _) (Nat.le_refl _) rfl rfl i1 i2 i3 i4 i5 i6 (by omega) (by omega)

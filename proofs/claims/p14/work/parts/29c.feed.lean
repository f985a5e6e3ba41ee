/-! ===== bytes come in: putByte, feedNumber, feed ===== -/
theorem zbyte {a : Nat} (ha : a < 4294967296) : dI2b (dShr a 24) % 256 = a / 256 ^ 3 % 256 ∧ dI2b (dShr a 16) % 256 = a / 256 ^ 2 % 256 ∧ dI2b (dShr a 8) % 256 = a / 256 ^ 1 % 256 ∧ dI2b (dShr a 0) % 256 = a / 256 ^ 0 % 256 := by
  have h1 : ∀ x, dI2b x % 256 = x % 256 := by
    intro x
    show (cond (Nat.blt (x % 256) 128) (x % 256) (x % 256 + 4294967040)) % 256 = x % 256
    cases Nat.blt (x % 256) 128
    · show (x % 256 + 4294967040) % 256 = _
      omega
    · show (x % 256) % 256 = _
      omega
  have h2 : ∀ s, s < 32 → dShr a s = if a < 2147483648 then a / 2 ^ s else 4294967295 - (4294967295 - a) / 2 ^ s := by
    intro s hs
    show cond (Nat.blt (a % 4294967296) 2147483648) ((a % 4294967296) >>> (s % 32)) (4294967295 - (4294967295 - a % 4294967296) >>> (s % 32)) = _
    rw [Nat.mod_eq_of_lt ha, Nat.mod_eq_of_lt hs, Nat.shiftRight_eq_div_pow, Nat.shiftRight_eq_div_pow]
    by_cases e : a < 2147483648
    · rw [di_blt.mpr e, if_pos e]; rfl
    · rw [if_neg e]
      cases e2 : Nat.blt a 2147483648 with
      | true => exact absurd (di_blt.mp e2) e
      | false => rfl
  rw [h1, h1, h1, h1, h2 24 (by decide), h2 16 (by decide), h2 8 (by decide), h2 0 (by decide)]
  refine ⟨?_, ?_, ?_, ?_⟩ <;> split <;> omega
/-- the object and its tape -/
def oSt (nm c0 tc T : Nat) (u : dH) : Prop := hat u 0 = some (16, nm, c0) ∧ hat u 1 = some (2, 3000, tc) ∧ wd 64 c0 0 = 2 ∧ wd 64 c0 1 = T
def oUp (nm c0 tc : Nat) (u u2 : dH) : Prop := u2.1 = u.1 ∧ u2.2.1 = u.2.1 ∧ hwf u2 ∧ ∀ k, hat u2 k = if k = 1 then some (2, 3000, tc) else if k = 0 then some (16, nm, c0) else hat u k
theorem oUp_tr {nm a b a2 b2 : Nat} {u u1 u2 : dH} (h : oUp nm a b u u1) (h2 : oUp nm a2 b2 u1 u2) : oUp nm a2 b2 u u2 := by
  obtain ⟨e1, e2, w, ea⟩ := h
  obtain ⟨f1, f2, v, fa⟩ := h2
  refine ⟨f1.trans e1, f2.trans e2, v, fun k => ?_⟩
  rw [fa k, ea k]
  by_cases g : k = 1
  · rw [if_pos g, if_pos g]
  · rw [if_neg g, if_neg g, if_neg g]
    by_cases g2 : k = 0
    · rw [if_pos g2, if_pos g2]
    · rw [if_neg g2, if_neg g2, if_neg g2]
theorem oUp_st {nm c1 tc1 T1 : Nat} {u u1 : dH} (h : oUp nm c1 tc1 u u1) (h0 : wd 64 c1 0 = 2) (h1 : wd 64 c1 1 = T1) : oSt nm c1 tc1 T1 u1 := by
  obtain ⟨-, -, -, ea⟩ := h
  exact ⟨by rw [ea 0, if_neg (by decide), if_pos rfl], by rw [ea 1, if_pos rfl], h0, h1⟩
set_option maxRecDepth 100000 in
theorem lbyte {a n ct i v f d : Nat} {u : dH} (hw : hwf u) (ha : hat u a = some (2, n, ct)) (hi : i < n) (hn : n ≤ 1073741824) : ∃ u2 : dH, drun dProg (f + 2) d 269 0 [(0, .inr (.inr (Nat.succ a))), (1, .inl i), (2, .inl v)] [] u = some (none, u2) ∧ u2.1 = u.1 ∧ u2.2.1 = u.2.1 ∧ hwf u2 ∧ ∀ k, hat u2 k = if k = a then some (2, n, wst 8 ct i (dI2b v % 256)) else hat u k := by
  refine gof (G := fun z => ∃ u2 : dH, z = some (none, u2) ∧ u2.1 = u.1 ∧ u2.2.1 = u.2.1 ∧ hwf u2 ∧ ∀ k, hat u2 k = if k = a then some (2, n, wst 8 ct i (dI2b v % 256)) else hat u k) ?_
  refine grun (c := o_iload 269 1 (o_if .lt 269 15 (o_iload 269 1 (o_aload 269 0 (o_alen 269 0 (o_icmp .ge 269 15 (o_aload 269 0 (o_iload 269 1 (o_iload 269 2 (o_un dI2b 269 0 (o_bastore 269 0 (djmp 269 15)))))))))))) (by rfl) ?_
  refine gst (s_iload rfl) ?_
  refine gst (s_if_f (zlt_f (by omega))) ?_
  refine gst (s_iload rfl) ?_
  refine gst (s_aload rfl) ?_
  refine gst (s_alen ha rfl) ?_
  refine gst (s_icmp_f (zge_f hi (by omega))) ?_
  refine gst (s_aload rfl) ?_
  refine gst (s_iload rfl) ?_
  refine gst (s_iload rfl) ?_
  refine gst (s_un rfl) ?_
  refine gbastore hw ha (Nat.mod_eq_of_lt (by omega)) hi (by omega) ?_
  intro u2 z1 z2 w1 a1
  refine gst s_jmp ?_
  refine grun (c := o_return 269 0 (djmp 269 16)) (by rfl) ?_
  exact gst s_return ⟨u2, rfl, z1, z2, w1, a1⟩
set_option maxRecDepth 100000 in
theorem lround {G : dR → Prop} {ks : List (Option dV → dH → dR)} {nm c0 tc T s a f d : Nat} {u : dH} (hw : hwf u) (hm : oSt nm c0 tc T u) (hT : T < 3000) (hs : s < 32)
    (g : ∀ u2, oUp nm (wst 64 c0 1 (T + 1)) (wst 8 tc T (dI2b (dShr a s) % 256)) u u2 → dGoal G ks (drun dProg (f + 3) (Nat.succ d) 262 3 [(2, .inl (dAdd s 4294967288)), (0, .inr (.inr 1)), (1, .inl a)] [] u2)) : dGoal G ks (drun dProg (f + 4) (Nat.succ d) 262 3 [(2, .inl s), (0, .inr (.inr 1)), (1, .inl a)] [] u) := by
  obtain ⟨m1, m2, m3, m4⟩ := hm
  refine grun (c := o_iload 262 2 (o_if .lt 262 37 (o_aload 262 0 (o_getfield 262 12291 (o_aload 262 0 (o_getfield 262 12292 (o_iload 262 1 (o_iload 262 2 (o_bin dShr 262 0 (o_static 262 4408124 (o_aload 262 0 (o_dup 262 0 (o_getfield 262 12292 (o_int 262 1 (o_bin dAdd 262 0 (o_putfield 262 12292 (o_iinc 262 12884901880 (o_goto 262 3 (djmp 262 37))))))))))))))))))) (by rfl) ?_
  refine gst (s_iload rfl) ?_
  refine gst (s_if_f (zlt_f (by omega))) ?_
  refine gst (s_aload rfl) ?_
  refine gst (s_getfield (w := .inr (.inr 2)) m1 rfl (congrArg (fun z => (.inr (.inr z) : dV)) m3)) ?_
  refine gst (s_aload rfl) ?_
  refine gst (s_getfield (w := .inl (T)) m1 rfl (congrArg (fun z => (.inl z : dV)) m4)) ?_
  refine gst (s_iload rfl) ?_
  refine gst (s_iload rfl) ?_
  refine gst (s_bin rfl) ?_
  refine gstatic (as := [.inr (.inr 2), .inl T, .inl (dShr a s)]) (fun _ => rfl) rfl rfl ?_
  obtain ⟨u1, e1, z1, z2, w1, a1⟩ := lbyte (f := f + 1) (d := d) (v := dShr a s) hw m2 hT (by decide)
  refine gst e1 ?_
  refine gbacks0 ?_
  have n1 : hat u1 0 = some (16, nm, c0) := by rw [a1 0, if_neg (by decide)]; exact m1
  refine gst (s_aload rfl) ?_
  refine gst (s_dup rfl) ?_
  refine gst (s_getfield (w := .inl (T)) n1 rfl (congrArg (fun z => (.inl z : dV)) m4)) ?_
  refine gst (s_int) ?_
  refine gst (s_bin (v := T + 1) (dAdd_1 (by omega))) ?_
  refine gputfield (w := T + 1) w1 n1 rfl (fe_0 (Nat.mod_eq_of_lt (by omega))) ?_
  intro u2 y1 y2 w2 a2
  refine gst (s_iinc (n := s) (v := dAdd s 4294967288) (u := [(0, .inr (.inr 1)), (1, .inl a)]) rfl rfl rfl) ?_
  refine gst s_goto ?_
  exact g u2 ⟨y1.trans z1, y2.trans z2, w2, fun k => by
    rw [a2 k, a1 k]
    by_cases q : k = 0
    · rw [if_pos q, if_neg (by omega), if_pos q]
    · rw [if_neg q, if_neg q]⟩
set_option maxRecDepth 100000 in
theorem lnum {nm c0 tc T a f d : Nat} {u : dH} (hw : hwf u) (hm : oSt nm c0 tc T u) (hT : T + 4 ≤ 3000) (ha : a < 4294967296) : ∃ u2 c1 tc1, drun dProg (f + 8) (Nat.succ d) 262 0 [(0, .inr (.inr 1)), (1, .inl a)] [] u = some (none, u2) ∧ oUp nm c1 tc1 u u2 ∧ (∀ j, wd 64 c1 j = if j = 1 then T + 4 else wd 64 c0 j) ∧ (∀ i, wd 8 tc1 i = if T ≤ i ∧ i < T + 4 then a / 256 ^ (3 - (i - T)) % 256 else wd 8 tc i) ∧ (wcan 8 3000 tc → wcan 8 3000 tc1) := by
  refine gof (G := fun z => ∃ u2 c1 tc1, z = some (none, u2) ∧ oUp nm c1 tc1 u u2 ∧ (∀ j, wd 64 c1 j = if j = 1 then T + 4 else wd 64 c0 j) ∧ (∀ i, wd 8 tc1 i = if T ≤ i ∧ i < T + 4 then a / 256 ^ (3 - (i - T)) % 256 else wd 8 tc i) ∧ (wcan 8 3000 tc → wcan 8 3000 tc1)) ?_
  obtain ⟨b3, b2, b1, b0⟩ := zbyte ha
  have h03 := hm.2.2.1
  refine grun (c := o_int 262 24 (o_istore 262 2 (djmp 262 3))) (by rfl) ?_
  refine gst (s_int) ?_
  refine gst (s_istore (u := [(0, .inr (.inr 1)), (1, .inl a)]) rfl) ?_
  refine gst s_jmp ?_
  refine lround (f := f + 3) (s := 24) hw hm (by omega) (by decide) ?_
  intro u1 U1
  rw [b3] at U1
  have S1 : oSt nm (wst 64 (c0) 1 (T + 1)) (wst 8 (tc) (T + 0) (a / 256 ^ 3 % 256)) (T + 1) u1 := oUp_st (T1 := T + 1) U1 (by rw [wd_wst 0 (by omega), if_neg (by decide)]; exact h03) (by rw [wd_wst 1 (by omega), if_pos rfl])
  refine lround (f := f + 2) (s := 16) U1.2.2.1 S1 (by omega) (by decide) ?_
  intro u2 U2
  rw [b2] at U2
  have S2 : oSt nm (wst 64 (wst 64 (c0) 1 (T + 1)) 1 (T + 2)) (wst 8 (wst 8 (tc) (T + 0) (a / 256 ^ 3 % 256)) (T + 1) (a / 256 ^ 2 % 256)) (T + 2) u2 := oUp_st (T1 := T + 2) U2 (by rw [wd_wst 0 (by omega), if_neg (by decide), wd_wst 0 (by omega), if_neg (by decide)]; exact h03) (by rw [wd_wst 1 (by omega), if_pos rfl])
  refine lround (f := f + 1) (s := 8) U2.2.2.1 S2 (by omega) (by decide) ?_
  intro u3 U3
  rw [b1] at U3
  have S3 : oSt nm (wst 64 (wst 64 (wst 64 (c0) 1 (T + 1)) 1 (T + 2)) 1 (T + 3)) (wst 8 (wst 8 (wst 8 (tc) (T + 0) (a / 256 ^ 3 % 256)) (T + 1) (a / 256 ^ 2 % 256)) (T + 2) (a / 256 ^ 1 % 256)) (T + 3) u3 := oUp_st (T1 := T + 3) U3 (by rw [wd_wst 0 (by omega), if_neg (by decide), wd_wst 0 (by omega), if_neg (by decide), wd_wst 0 (by omega), if_neg (by decide)]; exact h03) (by rw [wd_wst 1 (by omega), if_pos rfl])
  refine lround (f := f + 0) (s := 0) U3.2.2.1 S3 (by omega) (by decide) ?_
  intro u4 U4
  rw [b0] at U4
  have S4 : oSt nm (wst 64 (wst 64 (wst 64 (wst 64 (c0) 1 (T + 1)) 1 (T + 2)) 1 (T + 3)) 1 (T + 4)) (wst 8 (wst 8 (wst 8 (wst 8 (tc) (T + 0) (a / 256 ^ 3 % 256)) (T + 1) (a / 256 ^ 2 % 256)) (T + 2) (a / 256 ^ 1 % 256)) (T + 3) (a / 256 ^ 0 % 256)) (T + 4) u4 := oUp_st (T1 := T + 4) U4 (by rw [wd_wst 0 (by omega), if_neg (by decide), wd_wst 0 (by omega), if_neg (by decide), wd_wst 0 (by omega), if_neg (by decide), wd_wst 0 (by omega), if_neg (by decide)]; exact h03) (by rw [wd_wst 1 (by omega), if_pos rfl])
  refine grun (c := o_iload 262 2 (o_if .lt 262 37 (o_aload 262 0 (o_getfield 262 12291 (o_aload 262 0 (o_getfield 262 12292 (o_iload 262 1 (o_iload 262 2 (o_bin dShr 262 0 (o_static 262 4408124 (o_aload 262 0 (o_dup 262 0 (o_getfield 262 12292 (o_int 262 1 (o_bin dAdd 262 0 (o_putfield 262 12292 (o_iinc 262 12884901880 (o_goto 262 3 (djmp 262 37))))))))))))))))))) (by rfl) ?_
  refine gst (s_iload rfl) ?_
  refine gst (s_if_t rfl) ?_
  refine grun (c := o_return 262 0 (djmp 262 38)) (by rfl) ?_
  refine gst s_return ⟨u4, _, _, rfl, oUp_tr (oUp_tr (oUp_tr U1 U2) U3) U4, fun j => ?_, fun i => ?_, fun hc => ?_⟩
  · rw [wd_wst j (by omega), wd_wst j (by omega), wd_wst j (by omega), wd_wst j (by omega)]
    by_cases g : j = 1
    · rw [if_pos g, if_pos g]
    · rw [if_neg g, if_neg g, if_neg g, if_neg g, if_neg g]
  · rw [wd_wst i (by omega), wd_wst i (by omega), wd_wst i (by omega), wd_wst i (by omega)]
    by_cases g0 : i = T + 0
    · rw [if_neg (by omega), if_neg (by omega), if_neg (by omega), if_pos g0, if_pos (by omega), show 3 - (i - T) = 3 by omega]
    · by_cases g1 : i = T + 1
      · rw [if_neg (by omega), if_neg (by omega), if_pos g1, if_pos (by omega), show 3 - (i - T) = 2 by omega]
      · by_cases g2 : i = T + 2
        · rw [if_neg (by omega), if_pos g2, if_pos (by omega), show 3 - (i - T) = 1 by omega]
        · by_cases g3 : i = T + 3
          · rw [if_pos g3, if_pos (by omega), show 3 - (i - T) = 0 by omega]
          · rw [if_neg g3, if_neg g2, if_neg g1, if_neg g0, if_neg (by omega)]
  · exact wcan_wst (wcan_wst (wcan_wst (wcan_wst hc (by omega) (by omega)) (by omega) (by omega)) (by omega) (by omega)) (by omega) (by omega)
set_option maxRecDepth 100000 in
theorem lfeed {nm c0 tc T f d : Nat} {V : Nat → Nat} {u : dH} (hw : hwf u) (hm : oSt nm c0 tc T u) (hT : T + 20 ≤ 3000) (hV : ∀ j, V j < 4294967296) : ∃ u2 c1 tc1, drun dProg (f + 18) (Nat.succ (Nat.succ d)) 256 0 [(0, .inr (.inr 1)), (1, .inl (V 0)), (2, .inl (V 1)), (3, .inl (V 2)), (4, .inl (V 3)), (5, .inl (V 4))] [] u = some (some (.inl (T + 20)), u2) ∧ oUp nm c1 tc1 u u2 ∧ (∀ j, wd 64 c1 j = if j = 1 then T + 20 else wd 64 c0 j) ∧ (∀ i, wd 8 tc1 i = if T ≤ i ∧ i < T + 20 then V ((i - T) / 4) / 256 ^ (3 - (i - T) % 4) % 256 else wd 8 tc i) ∧ (wcan 8 3000 tc → wcan 8 3000 tc1) := by
  refine gof (G := fun z => ∃ u2 c1 tc1, z = some (some (.inl (T + 20)), u2) ∧ oUp nm c1 tc1 u u2 ∧ (∀ j, wd 64 c1 j = if j = 1 then T + 20 else wd 64 c0 j) ∧ (∀ i, wd 8 tc1 i = if T ≤ i ∧ i < T + 20 then V ((i - T) / 4) / 256 ^ (3 - (i - T) % 4) % 256 else wd 8 tc i) ∧ (wcan 8 3000 tc → wcan 8 3000 tc1)) ?_
  obtain ⟨m1, m2, m3, m4⟩ := id hm
  refine grun (c := o_aload 256 0 (o_getfield 256 12292 (o_int 256 20 (o_bin dAdd 256 0 (o_int 256 3000 (o_icmp .le 256 15 (o_int 256 4294967295 (o_ireturn 256 1 (djmp 256 15))))))))) (by rfl) ?_
  refine gst (s_aload rfl) ?_
  refine gst (s_getfield (w := .inl (T)) m1 rfl (congrArg (fun z => (.inl z : dV)) m4)) ?_
  refine gst (s_int) ?_
  refine gst (s_bin (v := T + 20) (Nat.mod_eq_of_lt (by show T + 20 < _; omega))) ?_
  refine gst (s_int) ?_
  refine gst (s_icmp_t (zle_t (by omega) (by decide))) ?_
  refine grun (c := o_aload 256 0 (o_iload 256 1 (o_virtual 256 4293404 (o_aload 256 0 (o_iload 256 2 (o_virtual 256 4293404 (o_aload 256 0 (o_iload 256 3 (o_virtual 256 4293404 (o_aload 256 0 (o_iload 256 4 (o_virtual 256 4293404 (o_aload 256 0 (o_iload 256 5 (o_virtual 256 4293404 (o_aload 256 0 (o_getfield 256 12292 (o_ireturn 256 1 (djmp 256 47))))))))))))))))))) (by rfl) ?_
  refine gst (s_aload rfl) ?_
  refine gst (s_iload rfl) ?_
  refine gvirtual (as := [.inl (V 0)]) (fun _ => rfl) m1 rfl rfl rfl ?_
  obtain ⟨u1, c1, t1, e1, U1, C1, B1, K1⟩ := lnum (T := T + 0) (f := f + 8) (d := d) (a := V 0) hw hm (by omega) (hV 0)
  refine gst e1 ?_
  refine gbackv0 ?_
  have S1 : oSt nm c1 t1 (T + 4) u1 := oUp_st (T1 := T + 4) U1 (by rw [C1, if_neg (by decide)]; exact m3) (by rw [C1, if_pos rfl])
  refine gst (s_aload rfl) ?_
  refine gst (s_iload rfl) ?_
  refine gvirtual (as := [.inl (V 1)]) (fun _ => rfl) S1.1 rfl rfl rfl ?_
  obtain ⟨u2, c2, t2, e2, U2, C2, B2, K2⟩ := lnum (T := T + 4) (f := f + 8) (d := d) (a := V 1) U1.2.2.1 S1 (by omega) (hV 1)
  refine gst e2 ?_
  refine gbackv0 ?_
  have S2 : oSt nm c2 t2 (T + 8) u2 := oUp_st (T1 := T + 8) U2 (by rw [C2, if_neg (by decide)]; exact S1.2.2.1) (by rw [C2, if_pos rfl])
  refine gst (s_aload rfl) ?_
  refine gst (s_iload rfl) ?_
  refine gvirtual (as := [.inl (V 2)]) (fun _ => rfl) S2.1 rfl rfl rfl ?_
  obtain ⟨u3, c3, t3, e3, U3, C3, B3, K3⟩ := lnum (T := T + 8) (f := f + 8) (d := d) (a := V 2) U2.2.2.1 S2 (by omega) (hV 2)
  refine gst e3 ?_
  refine gbackv0 ?_
  have S3 : oSt nm c3 t3 (T + 12) u3 := oUp_st (T1 := T + 12) U3 (by rw [C3, if_neg (by decide)]; exact S2.2.2.1) (by rw [C3, if_pos rfl])
  refine gst (s_aload rfl) ?_
  refine gst (s_iload rfl) ?_
  refine gvirtual (as := [.inl (V 3)]) (fun _ => rfl) S3.1 rfl rfl rfl ?_
  obtain ⟨u4, c4, t4, e4, U4, C4, B4, K4⟩ := lnum (T := T + 12) (f := f + 8) (d := d) (a := V 3) U3.2.2.1 S3 (by omega) (hV 3)
  refine gst e4 ?_
  refine gbackv0 ?_
  have S4 : oSt nm c4 t4 (T + 16) u4 := oUp_st (T1 := T + 16) U4 (by rw [C4, if_neg (by decide)]; exact S3.2.2.1) (by rw [C4, if_pos rfl])
  refine gst (s_aload rfl) ?_
  refine gst (s_iload rfl) ?_
  refine gvirtual (as := [.inl (V 4)]) (fun _ => rfl) S4.1 rfl rfl rfl ?_
  obtain ⟨u5, c5, t5, e5, U5, C5, B5, K5⟩ := lnum (T := T + 16) (f := f + 8) (d := d) (a := V 4) U4.2.2.1 S4 (by omega) (hV 4)
  refine gst e5 ?_
  refine gbackv0 ?_
  have S5 : oSt nm c5 t5 (T + 20) u5 := oUp_st (T1 := T + 20) U5 (by rw [C5, if_neg (by decide)]; exact S4.2.2.1) (by rw [C5, if_pos rfl])
  refine gst (s_aload rfl) ?_
  refine gst (s_getfield (w := .inl (T + 20)) S5.1 rfl (congrArg (fun z => (.inl z : dV)) S5.2.2.2)) ?_
  refine gst (s_ireturn rfl) ⟨u5, c5, t5, rfl, oUp_tr (oUp_tr (oUp_tr (oUp_tr U1 U2) U3) U4) U5, fun j => ?_, fun i => ?_, fun hc => K5 (K4 (K3 (K2 (K1 hc))))⟩
  · rw [C5, C4, C3, C2, C1]
    by_cases g : j = 1
    · rw [if_pos g, if_pos g]
    · rw [if_neg g, if_neg g, if_neg g, if_neg g, if_neg g, if_neg g]
  · rw [B5, B4, B3, B2, B1]
    by_cases g0 : T + 0 ≤ i ∧ i < T + 0 + 4
    · rw [if_neg (by omega), if_neg (by omega), if_neg (by omega), if_neg (by omega), if_pos g0, if_pos (by omega), show (i - T) / 4 = 0 by omega, show (i - T) % 4 = i - (T + 0) by omega]
    · skip
      by_cases g1 : T + 4 ≤ i ∧ i < T + 4 + 4
      · rw [if_neg (by omega), if_neg (by omega), if_neg (by omega), if_pos g1, if_pos (by omega), show (i - T) / 4 = 1 by omega, show (i - T) % 4 = i - (T + 4) by omega]
      · skip
        by_cases g2 : T + 8 ≤ i ∧ i < T + 8 + 4
        · rw [if_neg (by omega), if_neg (by omega), if_pos g2, if_pos (by omega), show (i - T) / 4 = 2 by omega, show (i - T) % 4 = i - (T + 8) by omega]
        · skip
          by_cases g3 : T + 12 ≤ i ∧ i < T + 12 + 4
          · rw [if_neg (by omega), if_pos g3, if_pos (by omega), show (i - T) / 4 = 3 by omega, show (i - T) % 4 = i - (T + 12) by omega]
          · skip
            by_cases g4 : T + 16 ≤ i ∧ i < T + 16 + 4
            · rw [if_pos g4, if_pos (by omega), show (i - T) / 4 = 4 by omega, show (i - T) % 4 = i - (T + 16) by omega]
            · rw [if_neg g4, if_neg g3, if_neg g2, if_neg g1, if_neg g0, if_neg (by omega)]
theorem zput {old c : Nat} : dOr (dShl old 8) (dAnd c 255) % 4294967296 = old * 256 % 4294967296 + c % 256 := by
  have h1 : dAnd c 255 = c % 256 := by
    show (c % 4294967296) &&& 255 = _
    rw [show (255 : Nat) = 2 ^ 8 - 1 from rfl, Nat.and_two_pow_sub_one_eq_mod]
    omega
  have h2 : dShl old 8 = 2 ^ 8 * (old % 16777216) := by
    show (old <<< 8) % 4294967296 = _
    rw [Nat.shiftLeft_eq]
    omega
  rw [h1, h2]
  show ((2 ^ 8 * (old % 16777216) ||| c % 256) % 4294967296) % 4294967296 = _
  rw [← Nat.two_pow_add_eq_or_of_lt (show c % 256 < 2 ^ 8 by omega)]
  omega
theorem zdiv4 {k : Nat} (hk : k < 2147483648) : dDiv k 4 = k / 4 := by
  show cond (Nat.blt (k % 4294967296) 2147483648) ((k % 4294967296) / 4) _ = _
  rw [Nat.mod_eq_of_lt (show k < 4294967296 by omega), di_blt.mpr hk]; rfl
theorem zne19 {k : Nat} (hk : k < 2147483648) : (k ≠ 19 → dcd .ne k 19 = true) ∧ (k = 19 → dcd .ne k 19 = false) := by
  have h : ∀ b, dEq k 19 = b → dcd .ne k 19 = cond b false true := fun b e => by show cond (dEq k 19) false true = _; rw [e]
  constructor
  · intro e
    have h1 : dEq k 19 = false := by
      show Nat.beq (k % 4294967296) 19 = false
      cases e2 : Nat.beq (k % 4294967296) 19 with
      | false => rfl
      | true => have := Nat.eq_of_beq_eq_true e2; omega
    exact h _ h1
  · intro e
    subst e; rfl
/-- what put does to the row of words -/
def tPut (ct k c ct2 k2 : Nat) : Prop := wd 32 ct2 0 = k2 ∧ wd 32 ct2 (1 + k / 4) = wd 32 ct (1 + k / 4) * 256 % 4294967296 + c % 256 ∧ ∀ i, i ≠ 0 → i ≠ 1 + k / 4 → wd 32 ct2 i = wd 32 ct i
/-- what put comes to -/
def lPo (nm c0 tc T tq ct k c : Nat) (u u2 : dH) : Prop :=
  (k ≠ 19 ∧ ∃ ct2, tPut ct k c ct2 (k + 1) ∧ ∀ j, hat u2 j = if j = tq then some (0, 6, ct2) else hat u j) ∨
  (k = 19 ∧ ∃ ct2 c1 tc1, tPut ct k c ct2 0 ∧ (∀ j, hat u2 j = if j = tq then some (0, 6, ct2) else if j = 1 then some (2, 3000, tc1) else if j = 0 then some (16, nm, c1) else hat u j) ∧ (∀ j, wd 64 c1 j = if j = 1 then T + 20 else wd 64 c0 j) ∧ (∀ i, wd 8 tc1 i = if T ≤ i ∧ i < T + 20 then wd 32 ct2 (1 + (i - T) / 4) / 256 ^ (3 - (i - T) % 4) % 256 else wd 8 tc i) ∧ (wcan 8 3000 tc → wcan 8 3000 tc1))
set_option maxRecDepth 100000 in
theorem lput {nm c0 tc T tq ct k c f d : Nat} {u : dH} (hw : hwf u) (hm : oSt nm c0 tc T u) (hT : T + 20 ≤ 3000) (htq : tq ≠ 0 ∧ tq ≠ 1) (ht : hat u tq = some (0, 6, ct)) (hk : wd 32 ct 0 = k) (hk20 : k < 20) : ∃ u2, drun dProg (f + 19) (Nat.succ (Nat.succ (Nat.succ d))) 272 0 [(0, .inr (.inr 1)), (1, .inr (.inr (Nat.succ tq))), (2, .inl c)] [] u = some (none, u2) ∧ hwf u2 ∧ u2.1 = u.1 ∧ u2.2.1 = u.2.1 ∧ lPo nm c0 tc T tq ct k c u u2 := by
  obtain ⟨m1, m2, m3, m4⟩ := id hm
  obtain ⟨q0, q1⟩ := htq
  refine gof (G := fun z => ∃ u2, z = some (none, u2) ∧ hwf u2 ∧ u2.1 = u.1 ∧ u2.2.1 = u.2.1 ∧ lPo nm c0 tc T tq ct k c u u2) ?_
  refine grun (c := o_aload 272 1 (o_int 272 0 (o_iaload 272 0 (o_istore 272 3 (o_aload 272 1 (o_int 272 1 (o_iload 272 3 (o_int 272 4 (o_div dDiv 272 0 (o_bin dAdd 272 0 (o_aload 272 1 (o_int 272 1 (o_iload 272 3 (o_int 272 4 (o_div dDiv 272 0 (o_bin dAdd 272 0 (o_iaload 272 0 (o_int 272 8 (o_bin dShl 272 0 (o_iload 272 2 (o_int 272 255 (o_bin dAnd 272 0 (o_bin dOr 272 0 (o_iastore 272 0 (o_aload 272 1 (o_int 272 0 (o_iload 272 3 (o_int 272 1 (o_bin dAdd 272 0 (o_iastore 272 0 (o_iload 272 3 (o_int 272 19 (o_icmp .ne 272 63 (o_aload 272 0 (o_aload 272 1 (o_int 272 1 (o_iaload 272 0 (o_aload 272 1 (o_int 272 2 (o_iaload 272 0 (o_aload 272 1 (o_int 272 3 (o_iaload 272 0 (o_aload 272 1 (o_int 272 4 (o_iaload 272 0 (o_aload 272 1 (o_int 272 5 (o_iaload 272 0 (o_virtual 272 4195932 (o_pop 272 0 (o_aload 272 1 (o_int 272 0 (o_int 272 0 (o_iastore 272 0 (djmp 272 63)))))))))))))))))))))))))))))))))))))))))))))))))))))))) (by rfl) ?_
  refine gst (s_aload rfl) ?_
  refine gst (s_int) ?_
  refine gst (s_iaload (j := 0) ht rfl (by decide) (by decide) hk) ?_
  refine gst (s_istore (u := [(0, .inr (.inr 1)), (1, .inr (.inr (Nat.succ tq))), (2, .inl c)]) rfl) ?_
  refine gst (s_aload rfl) ?_
  refine gst (s_int) ?_
  refine gst (s_iload rfl) ?_
  refine gst (s_int) ?_
  refine gst (s_div (v := k / 4) rfl (zdiv4 (by omega))) ?_
  refine gst (s_bin (v := 1 + k / 4) (Nat.mod_eq_of_lt (by show 1 + k / 4 < _; omega))) ?_
  refine gst (s_aload rfl) ?_
  refine gst (s_int) ?_
  refine gst (s_iload rfl) ?_
  refine gst (s_int) ?_
  refine gst (s_div (v := k / 4) rfl (zdiv4 (by omega))) ?_
  refine gst (s_bin (v := 1 + k / 4) (Nat.mod_eq_of_lt (by show 1 + k / 4 < _; omega))) ?_
  refine gst (s_iaload (j := 1 + k / 4) ht (Nat.mod_eq_of_lt (by omega)) (by omega) (by omega) rfl) ?_
  refine gst (s_int) ?_
  refine gst (s_bin rfl) ?_
  refine gst (s_iload rfl) ?_
  refine gst (s_int) ?_
  refine gst (s_bin rfl) ?_
  refine gst (s_bin rfl) ?_
  refine giastore (j := 1 + k / 4) hw ht (Nat.mod_eq_of_lt (by omega)) (by omega) (by omega) ?_
  intro u1 z1 y1 w1 a1
  rw [zput] at a1
  have t1 : hat u1 tq = some (0, 6, wst 32 ct (1 + k / 4) (wd 32 ct (1 + k / 4) * 256 % 4294967296 + c % 256)) := by rw [a1 tq, if_pos rfl]
  refine gst (s_aload rfl) ?_
  refine gst (s_int) ?_
  refine gst (s_iload rfl) ?_
  refine gst (s_int) ?_
  refine gst (s_bin (v := k + 1) (dAdd_1 (by omega))) ?_
  refine giastore (j := 0) w1 t1 rfl (by decide) (by decide) ?_
  intro u2 z2 y2 w2 a2
  rw [Nat.mod_eq_of_lt (show k + 1 < 4294967296 by omega)] at a2
  have hx : wd 32 ct (1 + k / 4) * 256 % 4294967296 + c % 256 < 2 ^ 32 := by omega
  generalize hct2 : wst 32 (wst 32 ct (1 + k / 4) (wd 32 ct (1 + k / 4) * 256 % 4294967296 + c % 256)) 0 (k + 1) = ct2 at a2
  have t2 : hat u2 tq = some (0, 6, ct2) := by rw [a2 tq, if_pos rfl]
  have hp : tPut ct k c ct2 (k + 1) := by
    rw [← hct2]
    refine ⟨by rw [wd_wst 0 (by omega), if_pos rfl], by rw [wd_wst _ (by omega), if_neg (by omega), wd_wst _ hx, if_pos rfl], fun i i0 i1 => by rw [wd_wst _ (by omega), if_neg i0, wd_wst _ hx, if_neg i1]⟩
  have hu2 : ∀ j, j ≠ tq → hat u2 j = hat u j := fun j hj => by rw [a2 j, if_neg hj, a1 j, if_neg hj]
  refine gst (s_iload rfl) ?_
  refine gst (s_int) ?_
  by_cases e : k = 19
  · refine gst (s_icmp_f ((zne19 (by omega)).2 e)) ?_
    have S2 : oSt nm c0 tc T u2 := ⟨by rw [hu2 0 (fun q => q0 q.symm)]; exact m1, by rw [hu2 1 (fun q => q1 q.symm)]; exact m2, m3, m4⟩
    refine gst (s_aload rfl) ?_
    refine gst (s_aload rfl) ?_
    refine gst (s_int) ?_
    refine gst (s_iaload (j := 1) t2 rfl (by decide) (by decide) rfl) ?_
    refine gst (s_aload rfl) ?_
    refine gst (s_int) ?_
    refine gst (s_iaload (j := 2) t2 rfl (by decide) (by decide) rfl) ?_
    refine gst (s_aload rfl) ?_
    refine gst (s_int) ?_
    refine gst (s_iaload (j := 3) t2 rfl (by decide) (by decide) rfl) ?_
    refine gst (s_aload rfl) ?_
    refine gst (s_int) ?_
    refine gst (s_iaload (j := 4) t2 rfl (by decide) (by decide) rfl) ?_
    refine gst (s_aload rfl) ?_
    refine gst (s_int) ?_
    refine gst (s_iaload (j := 5) t2 rfl (by decide) (by decide) rfl) ?_
    refine gvirtual (as := [.inl (wd 32 ct2 (1 + 0)), .inl (wd 32 ct2 (1 + 1)), .inl (wd 32 ct2 (1 + 2)), .inl (wd 32 ct2 (1 + 3)), .inl (wd 32 ct2 (1 + 4))]) (fun _ => rfl) S2.1 rfl rfl rfl ?_
    obtain ⟨u3, c3, tc3, e3, U3, C3, B3, K3⟩ := lfeed (f := f) (d := d) (V := fun j => wd 32 ct2 (1 + j)) w2 S2 (by omega) (fun j => wd_lt 32 ct2 _)
    refine gst e3 ?_
    refine gbackv1 rfl ?_
    refine gst (s_pop rfl) ?_
    have t3 : hat u3 tq = some (0, 6, ct2) := by rw [U3.2.2.2 tq, if_neg q1, if_neg q0]; exact t2
    refine gst (s_aload rfl) ?_
    refine gst (s_int) ?_
    refine gst (s_int) ?_
    refine giastore (j := 0) U3.2.2.1 t3 rfl (by decide) (by decide) ?_
    intro u4 z4 y4 w4 a4
    refine gst s_jmp ?_
    refine grun (c := o_return 272 0 (djmp 272 64)) (by rfl) ?_
    refine gst s_return ⟨u4, rfl, w4, by rw [z4, U3.1, z2, z1], by rw [y4, U3.2.1, y2, y1], Or.inr ⟨e, wst 32 ct2 0 0, c3, tc3, ?_, fun j => ?_, C3, ?_, K3⟩⟩
    · refine ⟨by rw [wd_wst 0 (by omega), if_pos rfl], ?_, fun i i0 i1 => ?_⟩
      · rw [wd_wst _ (by omega), if_neg (by omega)]; exact hp.2.1
      · rw [wd_wst _ (by omega), if_neg i0]; exact hp.2.2 i i0 i1
    · rw [a4 j]
      by_cases g : j = tq
      · rw [if_pos g, if_pos g]
      · rw [if_neg g, if_neg g, U3.2.2.2 j]
        by_cases g1 : j = 1
        · rw [if_pos g1, if_pos g1]
        · rw [if_neg g1, if_neg g1, hu2 j g]
    · intro i
      rw [B3 i]
      by_cases g : T ≤ i ∧ i < T + 20
      · rw [if_pos g, if_pos g]
        show wd 32 ct2 (1 + (i - T) / 4) / _ % 256 = wd 32 (wst 32 ct2 0 0) (1 + (i - T) / 4) / _ % 256
        rw [wd_wst (1 + (i - T) / 4) (by omega), if_neg (by omega)]
      · rw [if_neg g, if_neg g]
  · refine gst (s_icmp_t ((zne19 (by omega)).1 e)) ?_
    refine grun (c := o_return 272 0 (djmp 272 64)) (by rfl) ?_
    exact gst s_return ⟨u2, rfl, w2, by rw [z2, z1], by rw [y2, y1], Or.inl ⟨e, ct2, hp, fun j => by
      by_cases g : j = tq
      · rw [if_pos g, g]; exact t2
      · rw [if_neg g]; exact hu2 j g⟩⟩

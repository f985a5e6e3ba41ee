/-! ===== an array without length is gone through, item by item ===== -/
theorem zb255 {b : Nat} (hb : b < 256) : dAnd (dI2b b) 255 = b := by
  show (dI2b b % 4294967296) &&& 255 = b
  rw [show (255 : Nat) = 2 ^ 8 - 1 from rfl, Nat.and_two_pow_sub_one_eq_mod]
  have h : dI2b b = b ∨ dI2b b = b + 4294967040 := by
    show cond (Nat.blt (b % 256) 128) (b % 256) (b % 256 + 4294967040) = b ∨ cond (Nat.blt (b % 256) 128) (b % 256) (b % 256 + 4294967040) = b + 4294967040
    rw [Nat.mod_eq_of_lt hb]
    cases Nat.blt b 128
    · exact Or.inr rfl
    · exact Or.inl rfl
  rcases h with h | h <;> rw [h] <;> omega
set_option maxRecDepth 100000 in
theorem lbyteAt {a n ct i f d : Nat} {u : dH} (ha : hat u a = some (2, n, ct)) (hi : i < n) (hn : n ≤ 1073741824) : drun dProg (f + 2) d 268 0 [(0, .inr (.inr (Nat.succ a))), (1, .inl i)] [] u = some (some (.inl (wd 8 ct i)), u) := by
  refine gof (G := fun z => z = some (some (.inl (wd 8 ct i)), u)) ?_
  refine grun (c := o_iload 268 1 (o_if .lt 268 20 (o_iload 268 1 (o_aload 268 0 (o_alen 268 0 (o_icmp .ge 268 20 (o_aload 268 0 (o_iload 268 1 (o_baload 268 0 (o_int 268 255 (o_bin dAnd 268 0 (o_goto 268 21 (djmp 268 20))))))))))))) (by rfl) ?_
  refine gst (s_iload rfl) ?_
  refine gst (s_if_f (zlt_f (by omega))) ?_
  refine gst (s_iload rfl) ?_
  refine gst (s_aload rfl) ?_
  refine gst (s_alen ha rfl) ?_
  refine gst (s_icmp_f (zge_f hi (by omega))) ?_
  refine gst (s_aload rfl) ?_
  refine gst (s_iload rfl) ?_
  refine gst (s_baload ha (Nat.mod_eq_of_lt (by omega)) hi (by omega) rfl) ?_
  refine gst (s_int) ?_
  refine gst (s_bin (v := wd 8 ct i) (zb255 (wd_lt 8 ct i))) ?_
  refine gst s_goto ?_
  refine grun (c := o_ireturn 268 1 (djmp 268 22)) (by rfl) ?_
  exact gst (s_ireturn rfl) rfl
theorem zlt_t {a b : Nat} (h : a < b) (hb : b < 2147483648) : dcd .lt a b = true := by
  show dLt a b = true
  show Nat.blt ((a + 2147483648) % 4294967296) ((b + 2147483648) % 4294967296) = true
  rw [di_blt]; omega
theorem zne_of {a b : Nat} (ha : a < 4294967296) (hb : b < 4294967296) (e : a ≠ b) : dcd .ne a b = true := by
  have h1 : dEq a b = false := by
    show Nat.beq (a % 4294967296) (b % 4294967296) = false
    cases e2 : Nat.beq (a % 4294967296) (b % 4294967296) with
    | false => rfl
    | true => have := Nat.eq_of_beq_eq_true e2; omega
  show cond (dEq a b) false true = true
  rw [h1]; rfl
theorem zne255 {a : Nat} (ha : a < 256) (e : a ≠ 255) : dcd .ne a 255 = true := zne_of (by omega) (by decide) e
theorem zge0 {a : Nat} (ha : a < 2147483648) : dcd .ge a 0 = true := by
  show cond (dLt a 0) false true = true
  have h : dLt a 0 = false := zlt_f ha
  rw [h]; rfl
def lR (i p : Nat) : dL := [(6, .inl 100), (5, .inl 1), (0, .inr (.inr 94)), (1, .inl i), (2, .inl p), (3, .inl 1), (4, .inl 1)]
/-- the object of items, where it stops, and its bytes -/
def iSt (stop dc : Nat) (u : dH) : Prop := ∃ n c, hat u 93 = some (6, n, c) ∧ wd 64 c 0 = 95 ∧ wd 64 c 17 = stop ∧ hat u 94 = some (2, 18000, dc) ∧ wd 64 c 11 = 106

set_option maxRecDepth 100000 in
theorem lone {G : dR → Prop} {ks : List (Option dV → dH → dR)} {T : dL} {k q q2 i p stop dc F d : Nat} {u u2 : dH} (hT : T = (7, .inl q) :: lR i p ∨ ∃ e, T = (9, .inl e) :: (7, .inl q) :: lR i p) (hk : k < 100) (hu : iSt stop dc u) (hlt : q < stop) (hs : stop ≤ 18000) (hb : wd 8 dc q ≠ 255) (hq2 : q2 < 2147483648)
    (hcall : drun dProg (F + 3) d 53 0 [(0, .inr (.inr 94)), (1, .inl q), (2, .inl i), (3, .inl 2)] [] u = some (some (.inl q2), u2))
    (g : dGoal G ks (drun dProg F (Nat.succ d) 59 47 ((8, .inl (k + 1)) :: (9, .inl 1) :: (7, .inl q2) :: lR i p) [] u2)) : dGoal G ks (drun dProg (F + 9) (Nat.succ d) 59 47 ((8, .inl k) :: T) [] u) := by
  obtain ⟨n0, c, n1, n2, n3, n4, -⟩ := hu
  have hF : ((8, .inl k) :: T).filter (dp1 9) = (8, .inl k) :: (7, .inl q) :: lR i p := by
    rcases hT with rfl | ⟨e, rfl⟩ <;> rfl
  have h0 : dlk ((8, .inl k) :: T) 0 = some (.inr (.inr 94)) := by
    rcases hT with rfl | ⟨e, rfl⟩ <;> rfl
  have h5 : dlk ((8, .inl k) :: T) 5 = some (.inl 1) := by
    rcases hT with rfl | ⟨e, rfl⟩ <;> rfl
  have h6 : dlk ((8, .inl k) :: T) 6 = some (.inl 100) := by
    rcases hT with rfl | ⟨e, rfl⟩ <;> rfl
  have h7 : dlk ((8, .inl k) :: T) 7 = some (.inl q) := by
    rcases hT with rfl | ⟨e, rfl⟩ <;> rfl
  have h1 : dlk ((8, .inl k) :: T) 1 = some (.inl i) := by
    rcases hT with rfl | ⟨e, rfl⟩ <;> rfl
  clear hT
  refine grun (c := o_iload 59 8 (o_int 59 100 (o_icmp .gt 59 178 (o_iload 59 5 (o_if .ne 59 69 (o_iload 59 8 (o_iload 59 6 (o_icmp .ne 59 69 (o_iload 59 7 (o_ireturn 59 1 (djmp 59 69))))))))))) (by rfl) ?_
  refine gst (s_iload rfl) ?_
  refine gst (s_int) ?_
  refine gst (s_icmp_f (zgt_f (by omega) (by decide))) ?_
  refine gst (s_iload h5) ?_
  refine gst (s_if_t rfl) ?_
  refine grun (c := o_iload 59 7 (o_aload 59 0 (o_getfield 59 2116 (o_icmp .lt 59 87 (o_aload 59 0 (o_aload 59 0 (o_getfield 59 2116 (o_virtual 59 852498 (o_ireturn 59 1 (djmp 59 87)))))))))) (by rfl) ?_
  refine gst (s_iload h7) ?_
  refine gst (s_aload h0) ?_
  refine gst (s_getfield (w := .inl (stop)) n1 rfl (congrArg (fun z => (.inl z : dV)) n3)) ?_
  refine gst (s_icmp_t (zlt_t hlt (by omega))) ?_
  refine grun (c := o_iload 59 5 (o_if .eq 59 123 (o_aload 59 0 (o_getfield 59 2051 (o_iload 59 7 (o_static 59 4391468 (o_int 59 255 (o_icmp .ne 59 123 (o_aload 59 0 (o_getfield 59 2095 (o_iload 59 1 (o_iload 59 8 (o_i2l 59 0 (o_static 59 4375612 (o_iload 59 7 (o_int 59 1 (o_bin dAdd 59 0 (o_ireturn 59 1 (djmp 59 123))))))))))))))))))) (by rfl) ?_
  refine gst (s_iload h5) ?_
  refine gst (s_if_f rfl) ?_
  refine gst (s_aload h0) ?_
  refine gst (s_getfield (w := .inr (.inr 95)) n1 rfl (congrArg (fun z => (.inr (.inr z) : dV)) n2)) ?_
  refine gst (s_iload h7) ?_
  refine gstatic (as := [.inr (.inr 95), .inl q]) (fun _ => rfl) rfl rfl ?_
  refine gst (lbyteAt (f := F + 4) (d := d) n4 (by omega) (by decide)) ?_
  refine gbacks1 rfl ?_
  refine gst (s_int) ?_
  refine gst (s_icmp_t (zne255 (wd_lt 8 dc q) hb)) ?_
  refine grun (c := o_iload 59 8 (o_iload 59 6 (o_icmp .ne 59 137 (o_aload 59 0 (o_iload 59 7 (o_virtual 59 852498 (o_ireturn 59 1 (djmp 59 137)))))))) (by rfl) ?_
  refine gst (s_iload rfl) ?_
  refine gst (s_iload h6) ?_
  refine gst (s_icmp_t (zne_of (by omega) (by decide) (by omega))) ?_
  refine grun (c := o_int 59 0 (o_istore 59 9 (djmp 59 140))) (by rfl) ?_
  refine gst (s_int) ?_
  refine gst (s_istore (u := (8, .inl k) :: (7, .inl q) :: lR i p) hF) ?_
  refine gst s_jmp ?_
  refine grun (c := o_iload 59 9 (o_iload 59 3 (o_icmp .ge 59 172 (o_aload 59 0 (o_iload 59 7 (o_iload 59 1 (o_iload 59 4 (o_int 59 1 (o_bin dAdd 59 0 (o_virtual 59 870194 (o_istore 59 7 (o_iload 59 7 (o_if .ge 59 166 (o_int 59 4294967295 (o_ireturn 59 1 (djmp 59 166)))))))))))))))) (by rfl) ?_
  refine gst (s_iload rfl) ?_
  refine gst (s_iload rfl) ?_
  refine gst (s_icmp_f rfl) ?_
  refine gst (s_aload rfl) ?_
  refine gst (s_iload rfl) ?_
  refine gst (s_iload rfl) ?_
  refine gst (s_iload rfl) ?_
  refine gst (s_int) ?_
  refine gst (s_bin (v := 2) rfl) ?_
  refine gvirtual (as := [.inl q, .inl i, .inl 2]) (fun _ => rfl) n1 rfl rfl rfl ?_
  refine gst hcall ?_
  refine gbackv1 rfl ?_
  refine gst (s_istore (u := (9, .inl 0) :: (8, .inl k) :: lR i p) rfl) ?_
  refine gst (s_iload rfl) ?_
  refine gst (s_if_t (zge0 (by omega))) ?_
  refine grun (c := o_iinc 59 38654705665 (o_goto 59 140 (djmp 59 172))) (by rfl) ?_
  refine gst (s_iinc (n := 0) (v := 1) (u := (7, .inl q2) :: (8, .inl k) :: lR i p) rfl rfl rfl) ?_
  refine gst s_goto ?_
  refine grun (c := o_iload 59 9 (o_iload 59 3 (o_icmp .ge 59 172 (o_aload 59 0 (o_iload 59 7 (o_iload 59 1 (o_iload 59 4 (o_int 59 1 (o_bin dAdd 59 0 (o_virtual 59 870194 (o_istore 59 7 (o_iload 59 7 (o_if .ge 59 166 (o_int 59 4294967295 (o_ireturn 59 1 (djmp 59 166)))))))))))))))) (by rfl) ?_
  refine gst (s_iload rfl) ?_
  refine gst (s_iload rfl) ?_
  refine gst (s_icmp_t rfl) ?_
  refine grun (c := o_iinc 59 34359738369 (o_goto 59 47 (djmp 59 178))) (by rfl) ?_
  refine gst (s_iinc (n := k) (v := k + 1) (u := (9, .inl 1) :: (7, .inl q2) :: lR i p) rfl (dAdd_1 (by omega)) rfl) ?_
  refine gst s_goto ?_
  exact g
theorem zi2l {k : Nat} (hk : k < 2147483648) : dI2l k = k := by
  show cond (Nat.blt (k % 4294967296) 2147483648) (k % 4294967296) _ = k
  rw [Nat.mod_eq_of_lt (show k < 4294967296 by omega), di_blt.mpr hk]; rfl

set_option maxRecDepth 100000 in
theorem llast {G : dR → Prop} {ks : List (Option dV → dH → dR)} {T : dL} {k q i p stop dc cn F d : Nat} {u : dH} (hT : T = (7, .inl q) :: lR i p ∨ ∃ e, T = (9, .inl e) :: (7, .inl q) :: lR i p) (hk : k < 100) (hw : hwf u) (hu : iSt stop dc u) (n6 : hat u 105 = some (1, 6257, cn)) (hi : i < 6257) (hlt : q < stop) (hs : stop ≤ 18000) (hb : wd 8 dc q = 255)
    (g : ∀ u2, u2.1 = u.1 → u2.2.1 = u.2.1 → hwf u2 → (∀ j, hat u2 j = if j = 105 then some (1, 6257, wst 64 cn i k) else hat u j) → dGoal G ks (some (some (.inl (q + 1)), u2))) : dGoal G ks (drun dProg (F + 5) (Nat.succ d) 59 47 ((8, .inl k) :: T) [] u) := by
  obtain ⟨n0, c, n1, n2, n3, n4, n5⟩ := hu
  have h0 : dlk ((8, .inl k) :: T) 0 = some (.inr (.inr 94)) := by
    rcases hT with rfl | ⟨e, rfl⟩ <;> rfl
  have h5 : dlk ((8, .inl k) :: T) 5 = some (.inl 1) := by
    rcases hT with rfl | ⟨e, rfl⟩ <;> rfl
  have h7 : dlk ((8, .inl k) :: T) 7 = some (.inl q) := by
    rcases hT with rfl | ⟨e, rfl⟩ <;> rfl
  have h1 : dlk ((8, .inl k) :: T) 1 = some (.inl i) := by
    rcases hT with rfl | ⟨e, rfl⟩ <;> rfl
  clear hT
  refine grun (c := o_iload 59 8 (o_int 59 100 (o_icmp .gt 59 178 (o_iload 59 5 (o_if .ne 59 69 (o_iload 59 8 (o_iload 59 6 (o_icmp .ne 59 69 (o_iload 59 7 (o_ireturn 59 1 (djmp 59 69))))))))))) (by rfl) ?_
  refine gst (s_iload rfl) ?_
  refine gst (s_int) ?_
  refine gst (s_icmp_f (zgt_f (by omega) (by decide))) ?_
  refine gst (s_iload h5) ?_
  refine gst (s_if_t rfl) ?_
  refine grun (c := o_iload 59 7 (o_aload 59 0 (o_getfield 59 2116 (o_icmp .lt 59 87 (o_aload 59 0 (o_aload 59 0 (o_getfield 59 2116 (o_virtual 59 852498 (o_ireturn 59 1 (djmp 59 87)))))))))) (by rfl) ?_
  refine gst (s_iload h7) ?_
  refine gst (s_aload h0) ?_
  refine gst (s_getfield (w := .inl (stop)) n1 rfl (congrArg (fun z => (.inl z : dV)) n3)) ?_
  refine gst (s_icmp_t (zlt_t hlt (by omega))) ?_
  refine grun (c := o_iload 59 5 (o_if .eq 59 123 (o_aload 59 0 (o_getfield 59 2051 (o_iload 59 7 (o_static 59 4391468 (o_int 59 255 (o_icmp .ne 59 123 (o_aload 59 0 (o_getfield 59 2095 (o_iload 59 1 (o_iload 59 8 (o_i2l 59 0 (o_static 59 4375612 (o_iload 59 7 (o_int 59 1 (o_bin dAdd 59 0 (o_ireturn 59 1 (djmp 59 123))))))))))))))))))) (by rfl) ?_
  refine gst (s_iload h5) ?_
  refine gst (s_if_f rfl) ?_
  refine gst (s_aload h0) ?_
  refine gst (s_getfield (w := .inr (.inr 95)) n1 rfl (congrArg (fun z => (.inr (.inr z) : dV)) n2)) ?_
  refine gst (s_iload h7) ?_
  refine gstatic (as := [.inr (.inr 95), .inl q]) (fun _ => rfl) rfl rfl ?_
  refine gst (lbyteAt (f := F) (d := d) n4 (by omega) (by decide)) ?_
  refine gbacks1 rfl ?_
  refine gst (s_int) ?_
  refine gst (s_icmp_f (by rw [hb]; rfl)) ?_
  refine gst (s_aload h0) ?_
  refine gst (s_getfield (w := .inr (.inr 106)) n1 rfl (congrArg (fun z => (.inr (.inr z) : dV)) n5)) ?_
  refine gst (s_iload h1) ?_
  refine gst (s_iload rfl) ?_
  refine gst (s_i2l (v := k) (zi2l (by omega))) ?_
  refine gstatic (as := [.inr (.inr 106), .inl i, .inr (.inl k)]) (fun _ => rfl) rfl rfl ?_
  obtain ⟨u2, e9, z1, z2, w2, a2⟩ := mput (f := F) (d := d) hw n6 hi (by decide) (show k < 18446744073709551616 by omega)
  refine gst e9 ?_
  refine gbacks0 ?_
  refine gst (s_iload h7) ?_
  refine gst (s_int) ?_
  refine gst (s_bin (v := q + 1) (dAdd_1 (by omega))) ?_
  exact gst (s_ireturn rfl) (g u2 z1 z2 w2 a2)

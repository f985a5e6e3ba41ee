/-! ===== the memory of answers: what find tells, what keep does ===== -/
section SL
variable {rec : dRec} {nxt : dCode} {y x d : Nat} {L : dL} {st : List dV} {h : dH}
theorem s_laload {a i j n ct v : Nat} (ha : hat h a = some (1, n, ct)) (hi : i % 4294967296 = j) (h1 : j < n) (h2 : j < 2147483648) (ev : wd 64 ct j = v) : o_laload y x nxt rec d L (.inl i :: .inr (.inr (Nat.succ a)) :: st) h = nxt rec d L (.inr (.inl v) :: st) h := by
  simp only [o_laload, e_dia, ha, e_cel, hi, s_in h1 h2, fo_eq, ev]
  rfl
theorem s_lastore {a i j n ct v : Nat} (hw : hwf h) (ha : hat h a = some (1, n, ct)) (hi : i % 4294967296 = j) (h1 : j < n) (h2 : j < 2147483648) : ∃ g : dH, o_lastore y x nxt rec d L (.inr (.inl v) :: .inl i :: .inr (.inr (Nat.succ a)) :: st) h = nxt rec d L st g ∧ g.1 = h.1 ∧ g.2.1 = h.2.1 ∧ hwf g ∧ ∀ k, hat g k = if k = a then some (1, n, wst 64 ct j (v % 18446744073709551616)) else hat h k := by
  obtain ⟨g, e, r⟩ := hset_spec (c := (1, n, wst 64 ct j (v % 18446744073709551616))) (fun h' => nxt rec d L st h') none hw ha
  refine ⟨g, ?_, r⟩
  simp only [o_lastore, e_dlia, ha, e_cel, hi, s_in h1 h2, fo_eq]
  exact e
theorem glastore {G : dR → Prop} {ks : List (Option dV → dH → dR)} {a i j n ct v : Nat} (hw : hwf h) (ha : hat h a = some (1, n, ct)) (hi : i % 4294967296 = j) (h1 : j < n) (h2 : j < 2147483648) (g : ∀ h1 : dH, h1.1 = h.1 → h1.2.1 = h.2.1 → hwf h1 → (∀ k, hat h1 k = if k = a then some (1, n, wst 64 ct j (v % 18446744073709551616)) else hat h k) → dGoal G ks (nxt rec d L st h1)) : dGoal G ks (o_lastore y x nxt rec d L (.inr (.inl v) :: .inl i :: .inr (.inr (Nat.succ a)) :: st) h) := by
  obtain ⟨h3, e, z1, z2, w1, a1⟩ := s_lastore (rec := rec) (nxt := nxt) (y := y) (x := x) (d := d) (L := L) (st := st) (v := v) hw ha hi h1 h2
  exact gst e (g h3 z1 z2 w1 a1)
end SL
theorem zlt_f {k : Nat} (hk : k < 2147483648) : dcd .lt k 0 = false := by
  show dLt k 0 = false
  show Nat.blt ((k + 2147483648) % 4294967296) ((0 + 2147483648) % 4294967296) = false
  cases e : Nat.blt ((k + 2147483648) % 4294967296) ((0 + 2147483648) % 4294967296) with
  | false => rfl
  | true => have := di_blt.mp e; omega
theorem zge_t {k : Nat} (hk : k < 2147483648) : dcd .ge k k = true := by
  show cond (dLt k k) false true = true
  have h1 : dLt k k = false := by
    show Nat.blt ((k + 2147483648) % 4294967296) ((k + 2147483648) % 4294967296) = false
    cases e : Nat.blt ((k + 2147483648) % 4294967296) ((k + 2147483648) % 4294967296) with
    | false => rfl
    | true => have := di_blt.mp e; omega
  rw [h1]; rfl
theorem zle_t {k n : Nat} (hk : k ≤ n) (hn : n < 2147483648) : dcd .le k n = true := by
  show cond (dLt n k) false true = true
  have h1 : dLt n k = false := by
    show Nat.blt ((n + 2147483648) % 4294967296) ((k + 2147483648) % 4294967296) = false
    cases e : Nat.blt ((n + 2147483648) % 4294967296) ((k + 2147483648) % 4294967296) with
    | false => rfl
    | true => have := di_blt.mp e; omega
  rw [h1]; rfl
theorem dCmp_eq {a b : Nat} (ha : a < 18446744073709551616) (hb : b < 18446744073709551616) : (a = b → dCmp a b = 0) ∧ (a ≠ b → dEq (dCmp a b) 0 = false) := by
  have key : ∀ x y : Nat, dLLt x y = decide ((x + 9223372036854775808) % 18446744073709551616 < (y + 9223372036854775808) % 18446744073709551616) := by
    intro x y
    show Nat.blt ((x + 9223372036854775808) % 18446744073709551616) ((y + 9223372036854775808) % 18446744073709551616) = _
    cases e : Nat.blt ((x + 9223372036854775808) % 18446744073709551616) ((y + 9223372036854775808) % 18446744073709551616) with
    | true => exact (decide_eq_true (di_blt.mp e)).symm
    | false => exact (decide_eq_false fun w => by rw [di_blt.mpr w] at e; cases e).symm
  unfold dCmp
  rw [key, key]
  constructor
  · intro e
    subst e
    rw [decide_eq_false (Nat.lt_irrefl _)]
    rfl
  · intro e
    by_cases h1 : (a + 9223372036854775808) % 18446744073709551616 < (b + 9223372036854775808) % 18446744073709551616
    · rw [decide_eq_true h1]; rfl
    · have h2 : (b + 9223372036854775808) % 18446744073709551616 < (a + 9223372036854775808) % 18446744073709551616 := by omega
      rw [decide_eq_false h1, decide_eq_true h2]; rfl
theorem zne_f {a b : Nat} (ha : a < 18446744073709551616) (hb : b < 18446744073709551616) (e : a = b) : dcd .ne (dCmp a b) 0 = false := by
  rw [(dCmp_eq ha hb).1 e]; rfl
theorem zne_t {a b : Nat} (ha : a < 18446744073709551616) (hb : b < 18446744073709551616) (e : a ≠ b) : dcd .ne (dCmp a b) 0 = true := by
  show cond (dEq (dCmp a b) 0) false true = true
  rw [(dCmp_eq ha hb).2 e]; rfl
theorem zeq_t {a b : Nat} (ha : a < 18446744073709551616) (hb : b < 18446744073709551616) (e : a = b) : dcd .eq (dCmp a b) 0 = true := by
  rw [(dCmp_eq ha hb).1 e]; rfl
theorem zeq_f {a b : Nat} (ha : a < 18446744073709551616) (hb : b < 18446744073709551616) (e : a ≠ b) : dcd .eq (dCmp a b) 0 = false := (dCmp_eq ha hb).2 e
theorem zushr {e k : Nat} (he : e < 18446744073709551616) (hk : k < 64) : dLUshr e k = e / 2 ^ k := by
  show (e % 18446744073709551616) >>> (k % 64) = _
  rw [Nat.mod_eq_of_lt he, Nat.mod_eq_of_lt hk, Nat.shiftRight_eq_div_pow]
theorem wd64_lt (ct k : Nat) : wd 64 ct k < 18446744073709551616 := wd_lt 64 ct k
theorem gof {G : dR → Prop} {z : dR} (h : dGoal G [] z) : G z := h
/-- where a key is looked for first -/
noncomputable def mhs (q : Nat) : Nat := dAnd (dL2i (dLUshr (dLMul q 11400714819323198485) 40)) 2047
theorem zand (a : Nat) : dAnd a 2047 = a % 2048 := by
  show (a % 4294967296) &&& 2047 = _
  rw [show (2047 : Nat) = 2 ^ 11 - 1 from rfl, Nat.and_two_pow_sub_one_eq_mod]
  omega
theorem mhs_lt (q : Nat) : mhs q < 2048 := by
  unfold mhs
  rw [zand]
  exact Nat.mod_lt _ (by decide)
/-- the object and its row -/
def mSt (nm cm ct : Nat) (u : dH) : Prop := hat u 106 = some (10, nm, cm) ∧ hat u 107 = some (1, 2048, ct) ∧ wd 64 cm 0 = 108 ∧ wd 64 cm 2 = 3
set_option maxRecDepth 100000 in
theorem mlong {a n ct i f d : Nat} {u : dH} (ha : hat u a = some (1, n, ct)) (hi : i < n) (hn : n ≤ 1073741824) : drun dProg (f + 2) d 266 0 [(0, .inr (.inr (Nat.succ a))), (1, .inl i)] [] u = some (some (.inr (.inl (wd 64 ct i))), u) := by
  refine gof (G := fun z => z = some (some (.inr (.inl (wd 64 ct i))), u)) ?_
  refine grun (c := o_iload 266 1 (o_if .lt 266 16 (o_iload 266 1 (o_aload 266 0 (o_alen 266 0 (o_icmp .ge 266 16 (o_aload 266 0 (o_iload 266 1 (o_laload 266 0 (o_goto 266 17 (djmp 266 16))))))))))) (by rfl) ?_
  refine gst (s_iload rfl) ?_
  refine gst (s_if_f (zlt_f (by omega))) ?_
  refine gst (s_iload rfl) ?_
  refine gst (s_aload rfl) ?_
  refine gst (s_alen ha rfl) ?_
  refine gst (s_icmp_f (zge_f hi (by omega))) ?_
  refine gst (s_aload rfl) ?_
  refine gst (s_iload rfl) ?_
  refine gst (s_laload ha (Nat.mod_eq_of_lt (by omega)) hi (by omega) rfl) ?_
  refine gst s_goto ?_
  refine grun (c := o_lreturn 266 3 (djmp 266 18)) (by rfl) ?_
  exact gst s_lreturn rfl
set_option maxRecDepth 100000 in
theorem mput {a n ct i v f d : Nat} {u : dH} (hw : hwf u) (ha : hat u a = some (1, n, ct)) (hi : i < n) (hn : n ≤ 1073741824) (hv : v < 18446744073709551616) : ∃ u2 : dH, drun dProg (f + 2) d 267 0 [(0, .inr (.inr (Nat.succ a))), (1, .inl i), (2, .inr (.inl v))] [] u = some (none, u2) ∧ u2.1 = u.1 ∧ u2.2.1 = u.2.1 ∧ hwf u2 ∧ ∀ k, hat u2 k = if k = a then some (1, n, wst 64 ct i v) else hat u k := by
  refine gof (G := fun z => ∃ u2 : dH, z = some (none, u2) ∧ u2.1 = u.1 ∧ u2.2.1 = u.2.1 ∧ hwf u2 ∧ ∀ k, hat u2 k = if k = a then some (1, n, wst 64 ct i v) else hat u k) ?_
  refine grun (c := o_iload 267 1 (o_if .lt 267 14 (o_iload 267 1 (o_aload 267 0 (o_alen 267 0 (o_icmp .ge 267 14 (o_aload 267 0 (o_iload 267 1 (o_lload 267 2 (o_lastore 267 0 (djmp 267 14))))))))))) (by rfl) ?_
  refine gst (s_iload rfl) ?_
  refine gst (s_if_f (zlt_f (by omega))) ?_
  refine gst (s_iload rfl) ?_
  refine gst (s_aload rfl) ?_
  refine gst (s_alen ha rfl) ?_
  refine gst (s_icmp_f (zge_f hi (by omega))) ?_
  refine gst (s_aload rfl) ?_
  refine gst (s_iload rfl) ?_
  refine gst (s_lload rfl) ?_
  refine glastore hw ha (Nat.mod_eq_of_lt (by omega)) hi (by omega) ?_
  intro u2 z1 z2 w1 a1
  refine gst s_jmp ?_
  refine grun (c := o_return 267 0 (djmp 267 15)) (by rfl) ?_
  refine gst s_return ?_
  exact ⟨u2, rfl, z1, z2, w1, fun k => by rw [a1 k, Nat.mod_eq_of_lt hv]⟩
set_option maxRecDepth 100000 in
theorem mslot {nm cm ct q f d : Nat} {u : dH} (hm : mSt nm cm ct u) : drun dProg (f + 1) d 144 0 [(0, .inr (.inr 107)), (1, .inr (.inl q))] [] u = some (some (.inl (mhs q)), u) := by
  obtain ⟨m1, m2, m3, m4⟩ := hm
  refine gof (G := fun z => z = some (some (.inl (mhs q)), u)) ?_
  refine grun (c := o_lload 144 1 (o_long 144 11400714819323198485 (o_binl dLMul 144 0 (o_int 144 40 (o_shl dLUshr 144 0 (o_l2i 144 0 (o_aload 144 0 (o_getfield 144 6147 (o_alen 144 0 (o_int 144 1 (o_bin dSub 144 0 (o_bin dAnd 144 0 (o_ireturn 144 1 (djmp 144 18)))))))))))))) (by rfl) ?_
  refine gst (s_lload rfl) ?_
  refine gst (s_long) ?_
  refine gst (s_binl rfl) ?_
  refine gst (s_int) ?_
  refine gst (s_shl rfl) ?_
  refine gst (s_l2i rfl) ?_
  refine gst (s_aload rfl) ?_
  refine gst (s_getfield (w := .inr (.inr 108)) m1 rfl (congrArg (fun z => (.inr (.inr z) : dV)) m3)) ?_
  refine gst (s_alen m2 rfl) ?_
  refine gst (s_int) ?_
  refine gst (s_bin (v := 2047) rfl) ?_
  refine gst (s_bin (v := mhs q) rfl) ?_
  exact gst (s_ireturn rfl) rfl
/-- what find comes to: it knows nothing, or an entry of this key -/
def mfo (ct q : Nat) (v : Nat) : Prop := v = 4294967294 ∨ ∃ t, t < 2048 ∧ wd 64 ct t / 2 ^ 14 = q ∧ v = dSub (dL2i (dLAnd (wd 64 ct t) 16383)) 1
def mT (q key : Nat) : dL := [(3, .inr (.inl q)), (0, .inr (.inr 107)), (1, .inr (.inl key))]
set_option maxRecDepth 100000 in
theorem mfindL {nm cm ct q key d : Nat} {u : dH} (hm : mSt nm cm ct u) (hq : q < 18446744073709551616) (j : Nat) : ∀ i s f T, i + j = 256 → s < 2048 → (T = mT q key ∨ ∃ e, T = (7, .inr (.inl e)) :: mT q key) → ∃ v, drun dProg (f + 4 * j + 4) (Nat.succ d) 140 20 ((6, .inl i) :: (5, .inl s) :: T) [] u = some (some (.inl v), u) ∧ mfo ct q v := by
  obtain ⟨m1, m2, m3, m4⟩ := id hm
  induction j with
  | zero =>
    intro i s f T hi hs hT
    obtain rfl : i = 256 := by omega
    have hL : dlk ((6, .inl 256) :: (5, .inl s) :: T) 6 = some (.inl 256) := rfl
    refine gof (G := fun z => ∃ v, z = some (some (.inl v), u) ∧ mfo ct q v) ?_
    refine grun (c := o_iload 140 6 (o_int 140 256 (o_icmp .ge 140 95 (o_aload 140 0 (o_getfield 140 6147 (o_iload 140 5 (o_static 140 4358700 (o_lstore 140 7 (o_lload 140 7 (o_int 140 14 (o_shl dLUshr 140 0 (o_lload 140 3 (o_lcmp 140 0 (o_if .ne 140 59 (o_lload 140 7 (o_long 140 16383 (o_binl dLAnd 140 0 (o_l2i 140 0 (o_int 140 1 (o_bin dSub 140 0 (o_ireturn 140 1 (djmp 140 59)))))))))))))))))))))) (by rfl) ?_
    refine gst (s_iload rfl) ?_
    refine gst (s_int) ?_
    refine gst (s_icmp_t (by rfl)) ?_
    refine grun (c := o_int 140 4294967294 (o_ireturn 140 1 (djmp 140 98))) (by rfl) ?_
    refine gst (s_int) ?_
    exact gst (s_ireturn rfl) ⟨_, rfl, Or.inl rfl⟩
  | succ j ih =>
    intro i s f T hi hs hT
    show ∃ v, drun dProg (Nat.succ (f + 4 * j + 7)) (Nat.succ d) 140 20 ((6, .inl i) :: (5, .inl s) :: T) [] u = some (some (.inl v), u) ∧ mfo ct q v
    have hF : ((6, .inl i) :: (5, .inl s) :: T).filter (dp2 7) = (6, .inl i) :: (5, .inl s) :: mT q key := by
      rcases hT with rfl | ⟨e, rfl⟩ <;> rfl
    have h0 : dlk ((6, .inl i) :: (5, .inl s) :: T) 0 = some (.inr (.inr 107)) := by
      rcases hT with rfl | ⟨e, rfl⟩ <;> rfl
    clear hT
    refine gof (G := fun z => ∃ v, z = some (some (.inl v), u) ∧ mfo ct q v) ?_
    refine grun (c := o_iload 140 6 (o_int 140 256 (o_icmp .ge 140 95 (o_aload 140 0 (o_getfield 140 6147 (o_iload 140 5 (o_static 140 4358700 (o_lstore 140 7 (o_lload 140 7 (o_int 140 14 (o_shl dLUshr 140 0 (o_lload 140 3 (o_lcmp 140 0 (o_if .ne 140 59 (o_lload 140 7 (o_long 140 16383 (o_binl dLAnd 140 0 (o_l2i 140 0 (o_int 140 1 (o_bin dSub 140 0 (o_ireturn 140 1 (djmp 140 59)))))))))))))))))))))) (by rfl) ?_
    refine gst (s_iload rfl) ?_
    refine gst (s_int) ?_
    refine gst (s_icmp_f (zge_f (by omega) (by decide))) ?_
    refine gst (s_aload h0) ?_
    refine gst (s_getfield (w := .inr (.inr 108)) m1 rfl (congrArg (fun z => (.inr (.inr z) : dV)) m3)) ?_
    refine gst (s_iload rfl) ?_
    refine gstatic (as := [.inr (.inr 108), .inl s]) (fun _ => rfl) rfl rfl ?_
    refine gst (mlong (f := f + 4 * j + 5) m2 hs (by decide)) ?_
    refine gbacks1 rfl ?_
    refine gst (s_lstore (u := (6, .inl i) :: (5, .inl s) :: mT q key) hF) ?_
    refine gst (s_lload rfl) ?_
    refine gst (s_int) ?_
    refine gst (s_shl rfl) ?_
    refine gst (s_lload rfl) ?_
    refine gst (s_lcmp rfl) ?_
    rw [zushr (wd64_lt ct s) (by decide)]
    by_cases e1 : wd 64 ct s / 2 ^ 14 = q
    · refine gst (s_if_f (zne_f (by have := wd64_lt ct s; omega) hq e1)) ?_
      refine gst (s_lload rfl) ?_
      refine gst (s_long) ?_
      refine gst (s_binl rfl) ?_
      refine gst (s_l2i rfl) ?_
      refine gst (s_int) ?_
      refine gst (s_bin rfl) ?_
      exact gst (s_ireturn rfl) ⟨_, rfl, Or.inr ⟨s, hs, e1, rfl⟩⟩
    · refine gst (s_if_t (zne_t (by have := wd64_lt ct s; omega) hq e1)) ?_
      refine grun (c := o_lload 140 7 (o_int 140 46 (o_shl dLUshr 140 0 (o_aload 140 0 (o_getfield 140 6153 (o_lcmp 140 0 (o_if .eq 140 75 (o_int 140 4294967294 (o_ireturn 140 1 (djmp 140 75)))))))))) (by rfl) ?_
      refine gst (s_lload rfl) ?_
      refine gst (s_int) ?_
      refine gst (s_shl rfl) ?_
      refine gst (s_aload rfl) ?_
      refine gst (s_getfield (w := .inr (.inl 3)) m1 rfl (congrArg (fun z => (.inr (.inl z) : dV)) m4)) ?_
      refine gst (s_lcmp rfl) ?_
      rw [zushr (wd64_lt ct s) (by decide)]
      by_cases e2 : wd 64 ct s / 2 ^ 46 = 3
      · refine gst (s_if_t (zeq_t (by have := wd64_lt ct s; omega) (by decide) e2)) ?_
        refine grun (c := o_iload 140 5 (o_int 140 1 (o_bin dAdd 140 0 (o_aload 140 0 (o_getfield 140 6147 (o_alen 140 0 (o_int 140 1 (o_bin dSub 140 0 (o_bin dAnd 140 0 (o_istore 140 5 (o_iinc 140 25769803777 (o_goto 140 20 (djmp 140 95))))))))))))) (by rfl) ?_
        refine gst (s_iload rfl) ?_
        refine gst (s_int) ?_
        refine gst (s_bin rfl) ?_
        refine gst (s_aload rfl) ?_
        refine gst (s_getfield (w := .inr (.inr 108)) m1 rfl (congrArg (fun z => (.inr (.inr z) : dV)) m3)) ?_
        refine gst (s_alen m2 rfl) ?_
        refine gst (s_int) ?_
        refine gst (s_bin (v := 2047) rfl) ?_
        refine gst (s_bin (v := (s + 1) % 2048) (by rw [zand, dAdd_1 (by omega)])) ?_
        refine gst (s_istore (u := (7, .inr (.inl (wd 64 ct s))) :: (6, .inl i) :: mT q key) rfl) ?_
        refine gst (s_iinc (n := i) (v := i + 1) (u := (5, .inl ((s + 1) % 2048)) :: (7, .inr (.inl (wd 64 ct s))) :: mT q key) rfl (dAdd_1 (by omega)) rfl) ?_
        refine gst s_goto ?_
        have h9 := ih (i + 1) ((s + 1) % 2048) (f + 1) _ (by omega) (Nat.mod_lt _ (by decide)) (Or.inr ⟨wd 64 ct s, rfl⟩)
        rw [show f + 1 + 4 * j + 4 = f + 4 * j + 5 by omega] at h9
        exact h9
      · refine gst (s_if_f (zeq_f (by have := wd64_lt ct s; omega) (by decide) e2)) ?_
        refine gst (s_int) ?_
        exact gst (s_ireturn rfl) ⟨_, rfl, Or.inl rfl⟩
theorem zkey {key : Nat} (hk : key < 2 ^ 32) : dLOr (3 * 2 ^ 32) key = 3 * 2 ^ 32 + key := by
  show (3 * 2 ^ 32 ||| key) % 18446744073709551616 = _
  rw [show 3 * 2 ^ 32 = 2 ^ 32 * 3 from rfl, ← Nat.two_pow_add_eq_or_of_lt hk, Nat.mod_eq_of_lt (by omega)]
set_option maxRecDepth 100000 in
theorem mfind {nm cm ct key f d : Nat} {u : dH} (hm : mSt nm cm ct u) (hk : key < 2 ^ 32) : ∃ v, drun dProg (f + 1029) (Nat.succ (Nat.succ d)) 140 0 [(0, .inr (.inr 107)), (1, .inr (.inl key))] [] u = some (some (.inl v), u) ∧ mfo ct (3 * 2 ^ 32 + key) v := by
  obtain ⟨m1, m2, m3, m4⟩ := id hm
  refine gof (G := fun z => ∃ v, z = some (some (.inl v), u) ∧ mfo ct (3 * 2 ^ 32 + key) v) ?_
  refine grun (c := o_aload 140 0 (o_getfield 140 6153 (o_int 140 32 (o_shl dLShl 140 0 (o_lload 140 1 (o_binl dLOr 140 0 (o_lstore 140 3 (o_aload 140 0 (o_lload 140 3 (o_virtual 140 2360086 (o_istore 140 5 (o_int 140 0 (o_istore 140 6 (djmp 140 20)))))))))))))) (by rfl) ?_
  refine gst (s_aload rfl) ?_
  refine gst (s_getfield (w := .inr (.inl 3)) m1 rfl (congrArg (fun z => (.inr (.inl z) : dV)) m4)) ?_
  refine gst (s_int) ?_
  refine gst (s_shl (v := 3 * 2 ^ 32) rfl) ?_
  refine gst (s_lload rfl) ?_
  refine gst (s_binl (v := 3 * 2 ^ 32 + key) (zkey hk)) ?_
  refine gst (s_lstore (u := [(0, .inr (.inr 107)), (1, .inr (.inl key))]) rfl) ?_
  refine gst (s_aload rfl) ?_
  refine gst (s_lload rfl) ?_
  refine gvirtual (as := [.inr (.inl (3 * 2 ^ 32 + key))]) (fun _ => rfl) m1 rfl rfl rfl ?_
  refine gst (mslot (f := f + 1027) hm) ?_
  refine gbackv1 rfl ?_
  refine gst (s_istore (u := mT (3 * 2 ^ 32 + key) key) rfl) ?_
  refine gst (s_int) ?_
  refine gst (s_istore (u := (5, .inl (mhs (3 * 2 ^ 32 + key))) :: mT (3 * 2 ^ 32 + key) key) rfl) ?_
  refine gst s_jmp ?_
  exact mfindL hm (by omega) 256 0 (mhs (3 * 2 ^ 32 + key)) f _ rfl (mhs_lt _) (Or.inl rfl)
/-- a heap in which these two rows are others -/
def mUp (nm cm ct : Nat) (u u2 : dH) : Prop := u2.1 = u.1 ∧ u2.2.1 = u.2.1 ∧ hwf u2 ∧ ∀ k, hat u2 k = if k = 107 then some (1, 2048, ct) else if k = 106 then some (10, nm, cm) else hat u k
/-- where a scan of the row has come by -/
def mBy (ct q first n : Nat) : Prop := ∀ j, j < n → wd 64 ct ((first + j) % 2048) / 2 ^ 46 = 3 ∧ wd 64 ct ((first + j) % 2048) / 2 ^ 14 ≠ q
/-- what settle does -/
def mso (nm cm ct first E : Nat) (u u2 : dH) : Prop :=
  (∃ j, j < 256 ∧ mBy ct (E / 2 ^ 14) first j ∧ ((wd 64 ct ((first + j) % 2048) / 2 ^ 46 ≠ 3 ∧ mUp nm (wst 64 cm 1 (wd 64 cm 1 + 1)) (wst 64 ct ((first + j) % 2048) E) u u2) ∨
    (wd 64 ct ((first + j) % 2048) / 2 ^ 46 = 3 ∧ wd 64 ct ((first + j) % 2048) / 2 ^ 14 = E / 2 ^ 14 ∧ mUp nm cm (wst 64 ct ((first + j) % 2048) E) u u2))) ∨
  (mBy ct (E / 2 ^ 14) first 256 ∧ mUp nm cm (wst 64 ct first E) u u2)
def mS0 (first E : Nat) : dL := [(3, .inl first), (0, .inr (.inr 107)), (1, .inr (.inl E))]
set_option maxRecDepth 100000 in
theorem msetL {nm cm ct first E d : Nat} {u : dH} (hw : hwf u) (hm : mSt nm cm ct u) (hE : E < 18446744073709551616) (hf : first < 2048) (hk : wd 64 cm 1 < 1048576) (j : Nat) : ∀ i s f T, i + j = 256 → s < 2048 → s = (first + i) % 2048 → (T = mS0 first E ∨ ∃ e, T = (6, .inl e) :: mS0 first E) → mBy ct (E / 2 ^ 14) first i → ∃ u2, drun dProg (f + 5 * j + 8) (Nat.succ d) 142 15 ((5, .inl i) :: (4, .inl s) :: T) [] u = some (none, u2) ∧ mso nm cm ct first E u u2 := by
  obtain ⟨m1, m2, m3, m4⟩ := id hm
  induction j with
  | zero =>
    intro i s f T hi hs hsi hT hb
    obtain rfl : i = 256 := by omega
    have h0 : dlk ((5, .inl 256) :: (4, .inl s) :: T) 0 = some (.inr (.inr 107)) := by
      rcases hT with rfl | ⟨e, rfl⟩ <;> rfl
    have h3 : dlk ((5, .inl 256) :: (4, .inl s) :: T) 3 = some (.inl first) := by
      rcases hT with rfl | ⟨e, rfl⟩ <;> rfl
    have h1 : dlk ((5, .inl 256) :: (4, .inl s) :: T) 1 = some (.inr (.inl E)) := by
      rcases hT with rfl | ⟨e, rfl⟩ <;> rfl
    refine gof (G := fun z => ∃ u2, z = some (none, u2) ∧ mso nm cm ct first E u u2) ?_
    refine grun (c := o_iload 142 5 (o_int 142 256 (o_icmp .ge 142 121 (o_aload 142 0 (o_getfield 142 6147 (o_iload 142 4 (o_static 142 4358700 (o_int 142 46 (o_shl dLUshr 142 0 (o_aload 142 0 (o_getfield 142 6153 (o_lcmp 142 0 (o_if .eq 142 47 (o_int 142 1 (o_goto 142 48 (djmp 142 47)))))))))))))))) (by rfl) ?_
    refine gst (s_iload rfl) ?_
    refine gst (s_int) ?_
    refine gst (s_icmp_t (by rfl)) ?_
    refine grun (c := o_aload 142 0 (o_getfield 142 6147 (o_iload 142 3 (o_lload 142 1 (o_static 142 4375612 (o_return 142 0 (djmp 142 131))))))) (by rfl) ?_
    refine gst (s_aload h0) ?_
    refine gst (s_getfield (w := .inr (.inr 108)) m1 rfl (congrArg (fun z => (.inr (.inr z) : dV)) m3)) ?_
    refine gst (s_iload h3) ?_
    refine gst (s_lload h1) ?_
    refine gstatic (as := [.inr (.inr 108), .inl first, .inr (.inl E)]) (fun _ => rfl) rfl rfl ?_
    obtain ⟨u2, e9, y1, y2, w2, a2⟩ := mput (f := f + 4) (d := d) hw m2 hf (by decide) hE
    refine gst e9 ?_
    refine gbacks0 ?_
    refine gst s_return ?_
    exact ⟨u2, rfl, Or.inr ⟨hb, y1, y2, w2, fun k => by
      rw [a2 k]
      by_cases g : k = 107
      · rw [if_pos g, if_pos g]
      · rw [if_neg g, if_neg g]
        by_cases g2 : k = 106
        · rw [if_pos g2, g2]; exact m1
        · rw [if_neg g2]⟩⟩
  | succ j ih =>
    intro i s f T hi hs hsi hT hb
    show ∃ u2, drun dProg (Nat.succ (f + 5 * j + 12)) (Nat.succ d) 142 15 ((5, .inl i) :: (4, .inl s) :: T) [] u = some (none, u2) ∧ mso nm cm ct first E u u2
    have hF : ((5, .inl i) :: (4, .inl s) :: T).filter (dp1 6) = (5, .inl i) :: (4, .inl s) :: mS0 first E := by
      rcases hT with rfl | ⟨e, rfl⟩ <;> rfl
    have h0 : dlk ((5, .inl i) :: (4, .inl s) :: T) 0 = some (.inr (.inr 107)) := by
      rcases hT with rfl | ⟨e, rfl⟩ <;> rfl
    clear hT
    refine gof (G := fun z => ∃ u2, z = some (none, u2) ∧ mso nm cm ct first E u u2) ?_
    refine grun (c := o_iload 142 5 (o_int 142 256 (o_icmp .ge 142 121 (o_aload 142 0 (o_getfield 142 6147 (o_iload 142 4 (o_static 142 4358700 (o_int 142 46 (o_shl dLUshr 142 0 (o_aload 142 0 (o_getfield 142 6153 (o_lcmp 142 0 (o_if .eq 142 47 (o_int 142 1 (o_goto 142 48 (djmp 142 47)))))))))))))))) (by rfl) ?_
    refine gst (s_iload rfl) ?_
    refine gst (s_int) ?_
    refine gst (s_icmp_f (zge_f (by omega) (by decide))) ?_
    refine gst (s_aload h0) ?_
    refine gst (s_getfield (w := .inr (.inr 108)) m1 rfl (congrArg (fun z => (.inr (.inr z) : dV)) m3)) ?_
    refine gst (s_iload rfl) ?_
    refine gstatic (as := [.inr (.inr 108), .inl s]) (fun _ => rfl) rfl rfl ?_
    refine gst (mlong (f := f + 5 * j + 10) m2 hs (by decide)) ?_
    refine gbacks1 rfl ?_
    refine gst (s_int) ?_
    refine gst (s_shl rfl) ?_
    refine gst (s_aload h0) ?_
    refine gst (s_getfield (w := .inr (.inl 3)) m1 rfl (congrArg (fun z => (.inr (.inl z) : dV)) m4)) ?_
    refine gst (s_lcmp rfl) ?_
    rw [zushr (wd64_lt ct s) (by decide)]
    by_cases e2 : wd 64 ct s / 2 ^ 46 = 3
    · refine gst (s_if_t (zeq_t (by have := wd64_lt ct s; omega) (by decide) e2)) ?_
      refine grun (c := o_int 142 0 (djmp 142 48)) (by rfl) ?_
      refine gst (s_int) ?_
      refine gst s_jmp ?_
      refine grun (c := o_istore 142 6 (o_iload 142 6 (o_if .eq 142 65 (o_aload 142 0 (o_dup 142 0 (o_getfield 142 6148 (o_int 142 1 (o_bin dAdd 142 0 (o_putfield 142 6148 (djmp 142 65)))))))))) (by rfl) ?_
      refine gst (s_istore (u := (5, .inl i) :: (4, .inl s) :: mS0 first E) hF) ?_
      refine gst (s_iload rfl) ?_
      refine gst (s_if_t rfl) ?_
      refine grun (c := o_iload 142 6 (o_if .ne 142 90 (o_aload 142 0 (o_getfield 142 6147 (o_iload 142 4 (o_static 142 4358700 (o_int 142 14 (o_shl dLUshr 142 0 (o_lload 142 1 (o_int 142 14 (o_shl dLUshr 142 0 (o_lcmp 142 0 (o_if .ne 142 101 (djmp 142 90)))))))))))))) (by rfl) ?_
      refine gst (s_iload rfl) ?_
      refine gst (s_if_f rfl) ?_
      refine gst (s_aload rfl) ?_
      refine gst (s_getfield (w := .inr (.inr 108)) m1 rfl (congrArg (fun z => (.inr (.inr z) : dV)) m3)) ?_
      refine gst (s_iload rfl) ?_
      refine gstatic (as := [.inr (.inr 108), .inl s]) (fun _ => rfl) rfl rfl ?_
      refine gst (mlong (f := f + 5 * j + 7) m2 hs (by decide)) ?_
      refine gbacks1 rfl ?_
      refine gst (s_int) ?_
      refine gst (s_shl rfl) ?_
      refine gst (s_lload rfl) ?_
      refine gst (s_int) ?_
      refine gst (s_shl rfl) ?_
      refine gst (s_lcmp rfl) ?_
      rw [zushr (wd64_lt ct s) (by decide), zushr hE (by decide)]
      by_cases e1 : wd 64 ct s / 2 ^ 14 = E / 2 ^ 14
      · refine gst (s_if_f (zne_f (by have := wd64_lt ct s; omega) (by omega) e1)) ?_
        refine gst s_jmp ?_
        refine grun (c := o_aload 142 0 (o_getfield 142 6147 (o_iload 142 4 (o_lload 142 1 (o_static 142 4375612 (o_return 142 0 (djmp 142 101))))))) (by rfl) ?_
        refine gst (s_aload rfl) ?_
        refine gst (s_getfield (w := .inr (.inr 108)) m1 rfl (congrArg (fun z => (.inr (.inr z) : dV)) m3)) ?_
        refine gst (s_iload rfl) ?_
        refine gst (s_lload rfl) ?_
        refine gstatic (as := [.inr (.inr 108), .inl s, .inr (.inl E)]) (fun _ => rfl) rfl rfl ?_
        obtain ⟨u2, e9, y1, y2, w2, a2⟩ := mput (f := f + 5 * j + 6) (d := d) hw m2 hs (by decide) hE
        refine gst e9 ?_
        refine gbacks0 ?_
        refine gst s_return ?_
        exact ⟨u2, rfl, Or.inl ⟨i, by omega, hb, Or.inr ⟨by rw [← hsi]; exact e2, by rw [← hsi]; exact e1, y1, y2, w2, fun k => by
          rw [a2 k, ← hsi]
          by_cases g : k = 107
          · rw [if_pos g, if_pos g]
          · rw [if_neg g, if_neg g]
            by_cases g2 : k = 106
            · rw [if_pos g2, g2]; exact m1
            · rw [if_neg g2]⟩⟩⟩
      · refine gst (s_if_t (zne_t (by have := wd64_lt ct s; omega) (by omega) e1)) ?_
        refine grun (c := o_iload 142 4 (o_int 142 1 (o_bin dAdd 142 0 (o_aload 142 0 (o_getfield 142 6147 (o_alen 142 0 (o_int 142 1 (o_bin dSub 142 0 (o_bin dAnd 142 0 (o_istore 142 4 (o_iinc 142 21474836481 (o_goto 142 15 (djmp 142 121))))))))))))) (by rfl) ?_
        refine gst (s_iload rfl) ?_
        refine gst (s_int) ?_
        refine gst (s_bin rfl) ?_
        refine gst (s_aload rfl) ?_
        refine gst (s_getfield (w := .inr (.inr 108)) m1 rfl (congrArg (fun z => (.inr (.inr z) : dV)) m3)) ?_
        refine gst (s_alen m2 rfl) ?_
        refine gst (s_int) ?_
        refine gst (s_bin (v := 2047) rfl) ?_
        refine gst (s_bin (v := (s + 1) % 2048) (by rw [zand, dAdd_1 (by omega)])) ?_
        refine gst (s_istore (u := (6, .inl 0) :: (5, .inl i) :: mS0 first E) rfl) ?_
        refine gst (s_iinc (n := i) (v := i + 1) (u := (4, .inl ((s + 1) % 2048)) :: (6, .inl 0) :: mS0 first E) rfl (dAdd_1 (by omega)) rfl) ?_
        refine gst s_goto ?_
        refine ih (i + 1) ((s + 1) % 2048) f _ (by omega) (Nat.mod_lt _ (by decide)) (by omega) (Or.inr ⟨_, rfl⟩) ?_
        intro j2 hj2
        by_cases g : j2 = i
        · rw [g, ← hsi]; exact ⟨e2, e1⟩
        · exact hb j2 (by omega)
    · refine gst (s_if_f (zeq_f (by have := wd64_lt ct s; omega) (by decide) e2)) ?_
      refine gst (s_int) ?_
      refine gst s_goto ?_
      refine grun (c := o_istore 142 6 (o_iload 142 6 (o_if .eq 142 65 (o_aload 142 0 (o_dup 142 0 (o_getfield 142 6148 (o_int 142 1 (o_bin dAdd 142 0 (o_putfield 142 6148 (djmp 142 65)))))))))) (by rfl) ?_
      refine gst (s_istore (u := (5, .inl i) :: (4, .inl s) :: mS0 first E) hF) ?_
      refine gst (s_iload rfl) ?_
      refine gst (s_if_f rfl) ?_
      refine gst (s_aload rfl) ?_
      refine gst (s_dup rfl) ?_
      refine gst (s_getfield (w := .inl (wd 64 cm 1)) m1 rfl rfl) ?_
      refine gst (s_int) ?_
      refine gst (s_bin (v := wd 64 cm 1 + 1) (dAdd_1 (by omega))) ?_
      refine gputfield (w := wd 64 cm 1 + 1) hw m1 rfl (fe_0 (Nat.mod_eq_of_lt (by omega))) ?_
      intro h1 z1 u1 w1 a1
      have n1 : hat h1 106 = some (10, nm, wst 64 cm 1 (wd 64 cm 1 + 1)) := by rw [a1 106, if_pos rfl]
      have n2 : hat h1 107 = some (1, 2048, ct) := by rw [a1 107, if_neg (by decide)]; exact m2
      have n3 : wd 64 (wst 64 cm 1 (wd 64 cm 1 + 1)) 0 = 108 := by rw [wd_wst 0 (by omega), if_neg (by decide)]; exact m3
      refine gst s_jmp ?_
      refine grun (c := o_iload 142 6 (o_if .ne 142 90 (o_aload 142 0 (o_getfield 142 6147 (o_iload 142 4 (o_static 142 4358700 (o_int 142 14 (o_shl dLUshr 142 0 (o_lload 142 1 (o_int 142 14 (o_shl dLUshr 142 0 (o_lcmp 142 0 (o_if .ne 142 101 (djmp 142 90)))))))))))))) (by rfl) ?_
      refine gst (s_iload rfl) ?_
      refine gst (s_if_t rfl) ?_
      refine grun (c := o_aload 142 0 (o_getfield 142 6147 (o_iload 142 4 (o_lload 142 1 (o_static 142 4375612 (o_return 142 0 (djmp 142 101))))))) (by rfl) ?_
      refine gst (s_aload rfl) ?_
      refine gst (s_getfield (w := .inr (.inr 108)) n1 rfl (congrArg (fun z => (.inr (.inr z) : dV)) n3)) ?_
      refine gst (s_iload rfl) ?_
      refine gst (s_lload rfl) ?_
      refine gstatic (as := [.inr (.inr 108), .inl s, .inr (.inl E)]) (fun _ => rfl) rfl rfl ?_
      obtain ⟨u2, e9, y1, y2, w2, a2⟩ := mput (f := f + 5 * j + 7) (d := d) w1 n2 hs (by decide) hE
      refine gst e9 ?_
      refine gbacks0 ?_
      refine gst s_return ?_
      exact ⟨u2, rfl, Or.inl ⟨i, by omega, hb, Or.inl ⟨by rw [← hsi]; exact e2, y1.trans z1, y2.trans u1, w2, fun k => by
        rw [a2 k, ← hsi, a1 k]⟩⟩⟩
set_option maxRecDepth 100000 in
theorem msettle {nm cm ct E f d : Nat} {u : dH} (hw : hwf u) (hm : mSt nm cm ct u) (hE : E < 18446744073709551616) (hk : wd 64 cm 1 < 1048576) : ∃ u2, drun dProg (f + 1289) (Nat.succ (Nat.succ d)) 142 0 [(0, .inr (.inr 107)), (1, .inr (.inl E))] [] u = some (none, u2) ∧ mso nm cm ct (mhs (E / 2 ^ 14)) E u u2 := by
  refine gof (G := fun z => ∃ u2, z = some (none, u2) ∧ mso nm cm ct (mhs (E / 2 ^ 14)) E u u2) ?_
  obtain ⟨m1, m2, m3, m4⟩ := id hm
  refine grun (c := o_aload 142 0 (o_lload 142 1 (o_int 142 14 (o_shl dLUshr 142 0 (o_virtual 142 2360086 (o_istore 142 3 (o_iload 142 3 (o_istore 142 4 (o_int 142 0 (o_istore 142 5 (djmp 142 15))))))))))) (by rfl) ?_
  refine gst (s_aload rfl) ?_
  refine gst (s_lload rfl) ?_
  refine gst (s_int) ?_
  refine gst (s_shl (v := E / 2 ^ 14) (zushr hE (by decide))) ?_
  refine gvirtual (as := [.inr (.inl (E / 2 ^ 14))]) (fun _ => rfl) m1 rfl rfl rfl ?_
  refine gst (mslot (f := f + 1287) hm) ?_
  refine gbackv1 rfl ?_
  refine gst (s_istore (u := [(0, .inr (.inr 107)), (1, .inr (.inl E))]) rfl) ?_
  refine gst (s_iload rfl) ?_
  refine gst (s_istore (u := mS0 (mhs (E / 2 ^ 14)) E) rfl) ?_
  refine gst (s_int) ?_
  refine gst (s_istore (u := (4, .inl (mhs (E / 2 ^ 14))) :: mS0 (mhs (E / 2 ^ 14)) E) rfl) ?_
  refine gst s_jmp ?_
  exact msetL hw hm hE (mhs_lt _) hk 256 0 _ f _ rfl (mhs_lt _) (by have := mhs_lt (E / 2 ^ 14); omega) (Or.inl rfl) (fun j hj => absurd hj (Nat.not_lt_zero _))
set_option maxRecDepth 100000 in
theorem mkeep {nm cm ct key v a f d : Nat} {u : dH} (hw : hwf u) (hm : mSt nm cm ct u) (hk : key < 2 ^ 32) (hv : dAdd v 1 = a) (ha : a < 2 ^ 14) (hn : wd 64 cm 1 ≤ 1024) : ∃ u2, drun dProg (f + 1291) (Nat.succ (Nat.succ (Nat.succ d))) 141 0 [(0, .inr (.inr 107)), (1, .inr (.inl key)), (3, .inl v)] [] u = some (none, u2) ∧ mso nm cm ct (mhs (3 * 2 ^ 32 + key)) ((3 * 2 ^ 32 + key) * 2 ^ 14 + a) u u2 := by
  obtain ⟨m1, m2, m3, m4⟩ := id hm
  refine gof (G := fun z => ∃ u2, z = some (none, u2) ∧ mso nm cm ct (mhs (3 * 2 ^ 32 + key)) ((3 * 2 ^ 32 + key) * 2 ^ 14 + a) u u2) ?_
  refine grun (c := o_int 141 2 (o_aload 141 0 (o_getfield 141 6148 (o_bin dMul 141 0 (o_aload 141 0 (o_getfield 141 6147 (o_alen 141 0 (o_icmp .le 141 28 (o_aload 141 0 (o_getfield 141 6147 (o_alen 141 0 (o_ldc 141 2097152 (o_icmp .ge 141 28 (o_aload 141 0 (o_virtual 141 2343686 (djmp 141 28)))))))))))))))) (by rfl) ?_
  refine gst (s_int) ?_
  refine gst (s_aload rfl) ?_
  refine gst (s_getfield (w := .inl (wd 64 cm 1)) m1 rfl rfl) ?_
  refine gst (s_bin (v := 2 * wd 64 cm 1) (Nat.mod_eq_of_lt (by show 2 * wd 64 cm 1 < _; omega))) ?_
  refine gst (s_aload rfl) ?_
  refine gst (s_getfield (w := .inr (.inr 108)) m1 rfl (congrArg (fun z => (.inr (.inr z) : dV)) m3)) ?_
  refine gst (s_alen m2 rfl) ?_
  refine gst (s_icmp_t (zle_t (by omega) (by decide))) ?_
  refine grun (c := o_aload 141 0 (o_aload 141 0 (o_getfield 141 6153 (o_int 141 32 (o_shl dLShl 141 0 (o_lload 141 1 (o_binl dLOr 141 0 (o_int 141 14 (o_shl dLShl 141 0 (o_iload 141 3 (o_int 141 1 (o_bin dAdd 141 0 (o_i2l 141 0 (o_binl dLOr 141 0 (o_virtual 141 2328342 (o_return 141 0 (djmp 141 50))))))))))))))))) (by rfl) ?_
  refine gst (s_aload rfl) ?_
  refine gst (s_aload rfl) ?_
  refine gst (s_getfield (w := .inr (.inl 3)) m1 rfl (congrArg (fun z => (.inr (.inl z) : dV)) m4)) ?_
  refine gst (s_int) ?_
  refine gst (s_shl (v := 3 * 2 ^ 32) rfl) ?_
  refine gst (s_lload rfl) ?_
  refine gst (s_binl (v := 3 * 2 ^ 32 + key) (zkey hk)) ?_
  refine gst (s_int) ?_
  refine gst (s_shl (v := (3 * 2 ^ 32 + key) * 2 ^ 14) (by show ((3 * 2 ^ 32 + key) <<< 14) % _ = _; rw [Nat.shiftLeft_eq, Nat.mod_eq_of_lt (by omega)])) ?_
  refine gst (s_iload rfl) ?_
  refine gst (s_int) ?_
  refine gst (s_bin (v := a) hv) ?_
  refine gst (s_i2l (v := a) ?_) ?_
  · show cond (Nat.blt (a % 4294967296) 2147483648) (a % 4294967296) _ = a
    rw [Nat.mod_eq_of_lt (show a < 4294967296 by omega), di_blt.mpr (show a < 2147483648 by omega)]; rfl
  refine gst (s_binl (v := (3 * 2 ^ 32 + key) * 2 ^ 14 + a) ?_) ?_
  · show ((3 * 2 ^ 32 + key) * 2 ^ 14 ||| a) % 18446744073709551616 = _
    rw [Nat.mul_comm (3 * 2 ^ 32 + key) (2 ^ 14), ← Nat.two_pow_add_eq_or_of_lt ha, Nat.mod_eq_of_lt (by omega)]
  refine gvirtual (as := [.inr (.inl ((3 * 2 ^ 32 + key) * 2 ^ 14 + a))]) (fun _ => rfl) m1 rfl rfl rfl ?_
  obtain ⟨u2, e9, hs⟩ := msettle (f := f) (d := d) (E := (3 * 2 ^ 32 + key) * 2 ^ 14 + a) hw hm (by omega) (by omega)
  rw [show ((3 * 2 ^ 32 + key) * 2 ^ 14 + a) / 2 ^ 14 = 3 * 2 ^ 32 + key by omega] at hs
  refine gst e9 ?_
  refine gbackv0 ?_
  exact gst s_return ⟨u2, rfl, hs⟩

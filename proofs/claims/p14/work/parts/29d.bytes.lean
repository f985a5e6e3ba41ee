/-! ===== the law's bytes: put one behind the other, and closed ===== -/
/-- how far up in its word byte i of a block stands when r are there -/
def pPos (r i : Nat) : Nat := (if 4 * (i / 4) + 4 ≤ r then 3 else r - 1 - 4 * (i / 4)) - i % 4
def pWd (ct r : Nat) (b : Nat → Nat) : Prop := ∀ i, i < r → wd 32 ct (1 + i / 4) / 256 ^ (pPos r i) % 256 = b i
theorem zshift {old x p : Nat} (hx : x < 256) (hp : p < 3) : (old * 256 % 4294967296 + x) / 256 ^ (p + 1) % 256 = old / 256 ^ p % 256 := by
  rcases (show p = 0 ∨ p = 1 ∨ p = 2 by omega) with rfl | rfl | rfl
  · show (old * 256 % 4294967296 + x) / 256 % 256 = old / 1 % 256
    omega
  · show (old * 256 % 4294967296 + x) / 65536 % 256 = old / 256 % 256
    omega
  · show (old * 256 % 4294967296 + x) / 16777216 % 256 = old / 65536 % 256
    omega
theorem tPut_w {ct k c ct2 k2 : Nat} {b : Nat → Nat} (h : tPut ct k c ct2 k2) (hk : k < 20) (hb : pWd ct k b) : pWd ct2 (k + 1) (fun i => if i = k then c % 256 else b i) := by
  obtain ⟨-, h2, h3⟩ := h
  intro i hi
  show _ = if i = k then c % 256 else b i
  by_cases e : i = k
  · subst e
    have hp : pPos (i + 1) i = 0 := by
      unfold pPos
      split <;> omega
    rw [if_pos rfl, hp, h2]
    show (_ % 4294967296 + c % 256) / 1 % 256 = _
    omega
  · rw [if_neg e]
    by_cases e2 : i / 4 = k / 4
    · have hp : pPos (k + 1) i = pPos k i + 1 := by
        unfold pPos
        split <;> split <;> omega
      have hp3 : pPos k i < 3 := by
        unfold pPos
        split <;> omega
      rw [hp, show 1 + i / 4 = 1 + k / 4 by omega, h2, zshift (by omega) hp3, ← show 1 + i / 4 = 1 + k / 4 by omega]
      exact hb i (by omega)
    · have hp : pPos (k + 1) i = pPos k i := by
        unfold pPos
        split <;> split <;> omega
      rw [hp, h3 (1 + i / 4) (by omega) (by omega)]
      exact hb i (by omega)
/-- so many bytes are put, these -/
def PB (g : dH) (tq : Nat) (bs : List Nat) (u : dH) : Prop := hwf u ∧ u.1 = g.1 ∧ u.2.1 = g.2.1 ∧ (∀ j, j ≠ 0 → j ≠ 1 → j ≠ tq → hat u j = hat g j) ∧ ∃ nm c00 c0 tc ct, hat g 0 = some (16, nm, c00) ∧ (∀ j, j ≠ 1 → wd 64 c0 j = wd 64 c00 j) ∧ oSt nm c0 tc (20 * (bs.length / 20)) u ∧
  hat u tq = some (0, 6, ct) ∧ wd 32 ct 0 = bs.length % 20 ∧ pWd ct (bs.length % 20) (fun i => bs.getD (20 * (bs.length / 20) + i) 0) ∧ (∀ i, i < 20 * (bs.length / 20) → wd 8 tc i = bs.getD i 0) ∧ (∀ i, 20 * (bs.length / 20) ≤ i → wd 8 tc i = 0) ∧ wcan 8 3000 tc
theorem getD_app {bs : List Nat} {x i : Nat} : (bs ++ [x]).getD i 0 = if i = bs.length then x else bs.getD i 0 := by
  rw [List.getD_eq_getElem?_getD, List.getD_eq_getElem?_getD]
  by_cases h : i < bs.length
  · rw [List.getElem?_append_left h, if_neg (by omega)]
  · by_cases e : i = bs.length
    · subst e
      rw [if_pos rfl, List.getElem?_append_right (Nat.le_refl _), Nat.sub_self]; rfl
    · rw [if_neg e, List.getElem?_eq_none (by rw [List.length_append, List.length_singleton]; omega), List.getElem?_eq_none (by omega)]
theorem PB_put {g u : dH} {tq c f d : Nat} {bs : List Nat} (h : PB g tq bs u) (htq : tq ≠ 0 ∧ tq ≠ 1) (hl : bs.length < 2900) : ∃ u2, drun dProg (f + 19) (Nat.succ (Nat.succ (Nat.succ d))) 272 0 [(0, .inr (.inr 1)), (1, .inr (.inr (Nat.succ tq))), (2, .inl c)] [] u = some (none, u2) ∧ PB g tq (bs ++ [c % 256]) u2 := by
  obtain ⟨hw, z1, z2, hg, nm, c00, c0, tc, ct, g0, hc0, hm, ht, hk, hW, hT1, hT2, hcn⟩ := h
  obtain ⟨u2, e, w2, y1, y2, hP⟩ := lput (f := f) (d := d) (c := c) hw hm (by omega) htq ht hk (Nat.mod_lt _ (by decide))
  refine ⟨u2, e, ?_⟩
  have hll : (bs ++ [c % 256]).length = bs.length + 1 := by rw [List.length_append, List.length_singleton]
  have hdm := Nat.div_add_mod bs.length 20
  obtain ⟨q0, q1⟩ := htq
  unfold PB
  rw [hll]
  rcases hP with ⟨hne, ct2, hp, ha⟩ | ⟨heq, ct2, c1, tc1, hp, ha, hC, hB, hK⟩
  · have hw2 : ∀ i, i < bs.length % 20 + 1 → wd 32 ct2 (1 + i / 4) / 256 ^ (pPos (bs.length % 20 + 1) i) % 256 = if i = bs.length % 20 then c % 256 else bs.getD (20 * (bs.length / 20) + i) 0 := tPut_w hp (Nat.mod_lt _ (by decide)) hW
    rw [show (bs.length + 1) / 20 = bs.length / 20 by omega, show (bs.length + 1) % 20 = bs.length % 20 + 1 by omega]
    refine ⟨w2, y1.trans z1, y2.trans z2, fun j j0 j1 jt => by rw [ha j, if_neg jt]; exact hg j j0 j1 jt, nm, c00, c0, tc, ct2, g0, hc0, ⟨?_, ?_, hm.2.2.1, hm.2.2.2⟩, by rw [ha tq, if_pos rfl], hp.1, ?_, ?_, hT2, hcn⟩
    · rw [ha 0, if_neg (fun w => q0 w.symm)]; exact hm.1
    · rw [ha 1, if_neg (fun w => q1 w.symm)]; exact hm.2.1
    · intro i hi
      show _ = (bs ++ [c % 256]).getD (20 * (bs.length / 20) + i) 0
      rw [hw2 i hi, getD_app]
      by_cases e9 : i = bs.length % 20
      · rw [if_pos e9, if_pos (by omega)]
      · rw [if_neg e9, if_neg (by omega)]
    · intro i hi
      rw [hT1 i hi, getD_app, if_neg (by omega)]
  · have hw2 : ∀ i, i < bs.length % 20 + 1 → wd 32 ct2 (1 + i / 4) / 256 ^ (pPos (bs.length % 20 + 1) i) % 256 = if i = bs.length % 20 then c % 256 else bs.getD (20 * (bs.length / 20) + i) 0 := tPut_w hp (Nat.mod_lt _ (by decide)) hW
    rw [show (bs.length + 1) / 20 = bs.length / 20 + 1 by omega, show (bs.length + 1) % 20 = 0 by omega]
    refine ⟨w2, y1.trans z1, y2.trans z2, fun j j0 j1 jt => by rw [ha j, if_neg jt, if_neg j1, if_neg j0]; exact hg j j0 j1 jt, nm, c00, c1, tc1, ct2, g0, fun j hj => by rw [hC j, if_neg hj]; exact hc0 j hj, ⟨?_, ?_, ?_, ?_⟩, by rw [ha tq, if_pos rfl], hp.1, fun i hi => absurd hi (Nat.not_lt_zero _), ?_, ?_, hK hcn⟩
    · rw [ha 0, if_neg (fun w => q0 w.symm), if_neg (by decide), if_pos rfl]
    · rw [ha 1, if_neg (fun w => q1 w.symm), if_pos rfl]
    · rw [hC 0, if_neg (by decide)]; exact hm.2.2.1
    · rw [hC 1, if_pos rfl]; omega
    · intro i hi
      rw [hB i]
      by_cases g9 : 20 * (bs.length / 20) ≤ i ∧ i < 20 * (bs.length / 20) + 20
      · rw [if_pos g9]
        have h5 := hw2 (i - 20 * (bs.length / 20)) (by omega)
        have hp3 : pPos (bs.length % 20 + 1) (i - 20 * (bs.length / 20)) = 3 - (i - 20 * (bs.length / 20)) % 4 := by
          unfold pPos
          rw [if_pos (by omega)]
        rw [hp3] at h5
        rw [h5, getD_app]
        by_cases e9 : i = bs.length
        · rw [if_pos e9, if_pos (by omega)]
        · rw [if_neg e9, if_neg (by omega), show 20 * (bs.length / 20) + (i - 20 * (bs.length / 20)) = i by omega]
      · rw [if_neg g9, getD_app, if_neg (by omega)]
        exact hT1 i (by omega)
    · intro i hi
      rw [hB i, if_neg (by omega)]
      exact hT2 i (by omega)
theorem zle0 {k : Nat} (h0 : k ≠ 0) (hk : k < 2147483648) : dcd .le k 0 = false := by
  show cond (dLt 0 k) false true = false
  have h1 : dLt 0 k = true := by
    show Nat.blt ((0 + 2147483648) % 4294967296) ((k + 2147483648) % 4294967296) = true
    rw [di_blt]; omega
  rw [h1]; rfl
theorem zlt19 {k : Nat} (hk : k < 20) : dcd .gt k 20 = false := by
  show dLt 20 k = false
  show Nat.blt ((20 + 2147483648) % 4294967296) ((k + 2147483648) % 4294967296) = false
  cases e : Nat.blt ((20 + 2147483648) % 4294967296) ((k + 2147483648) % 4294967296) with
  | false => rfl
  | true => have := di_blt.mp e; omega
theorem zge20 {k : Nat} (h : 20 ≤ k) (hk : k < 2147483648) : dcd .ge k 20 = true := by
  show cond (dLt k 20) false true = true
  have h1 : dLt k 20 = false := by
    show Nat.blt ((k + 2147483648) % 4294967296) ((20 + 2147483648) % 4294967296) = false
    cases e : Nat.blt ((k + 2147483648) % 4294967296) ((20 + 2147483648) % 4294967296) with
    | false => rfl
    | true => have := di_blt.mp e; omega
  rw [h1]; rfl
set_option maxRecDepth 100000 in
theorem lcloseL {G : dR → Prop} {ks : List (Option dV → dH → dR)} {g : dH} {tq v f d : Nat} (htq : tq ≠ 0 ∧ tq ≠ 1) (n : Nat) : ∀ (bs : List Nat) (u : dH), PB g tq bs u → (bs.length + n) % 20 = 0 → n < 20 → bs.length + n < 2900 →
    (∀ u2, PB g tq (bs ++ List.replicate n 32) u2 → dGoal G ks (drun dProg (f + 20) (Nat.succ (Nat.succ (Nat.succ (Nat.succ d)))) 273 20 [(2, .inl v), (0, .inr (.inr 1)), (1, .inr (.inr (Nat.succ tq)))] [] u2)) → dGoal G ks (drun dProg (f + n + 21) (Nat.succ (Nat.succ (Nat.succ (Nat.succ d)))) 273 4 [(2, .inl v), (0, .inr (.inr 1)), (1, .inr (.inr (Nat.succ tq)))] [] u) := by
  induction n with
  | zero =>
    intro bs u h hn _ hb k
    obtain ⟨hw, z1, z2, hg, nm, c00, c0, tc, ct, g0, hc0, hm, ht, hk, -⟩ := id h
    refine grun (c := o_aload 273 1 (o_int 273 0 (o_iaload 273 0 (o_if .le 273 20 (o_aload 273 0 (o_aload 273 1 (o_int 273 32 (o_static 273 4457533 (o_goto 273 4 (djmp 273 20)))))))))) (by rfl) ?_
    refine gst (s_aload rfl) ?_
    refine gst (s_int) ?_
    refine gst (s_iaload (j := 0) ht rfl (by decide) (by decide) hk) ?_
    refine gst (s_if_t (by rw [show bs.length % 20 = 0 by omega]; rfl)) ?_
    refine k u ?_
    rw [List.replicate_zero, List.append_nil]
    exact h
  | succ n ih =>
    intro bs u h hn hn2 hb k
    show dGoal G ks (drun dProg (Nat.succ (f + n + 21)) _ 273 4 _ [] u)
    obtain ⟨hw, z1, z2, hg, nm, c00, c0, tc, ct, g0, hc0, hm, ht, hk, -⟩ := id h
    refine grun (c := o_aload 273 1 (o_int 273 0 (o_iaload 273 0 (o_if .le 273 20 (o_aload 273 0 (o_aload 273 1 (o_int 273 32 (o_static 273 4457533 (o_goto 273 4 (djmp 273 20)))))))))) (by rfl) ?_
    refine gst (s_aload rfl) ?_
    refine gst (s_int) ?_
    refine gst (s_iaload (j := 0) ht rfl (by decide) (by decide) hk) ?_
    refine gst (s_if_f (zle0 (by omega) (by omega))) ?_
    refine gst (s_aload rfl) ?_
    refine gst (s_aload rfl) ?_
    refine gst (s_int) ?_
    refine gstatic (as := [.inr (.inr 1), .inr (.inr (Nat.succ tq)), .inl 32]) (fun _ => rfl) rfl rfl ?_
    obtain ⟨u2, e2, h2⟩ := PB_put (c := 32) (f := f + n + 2) (d := d) h htq (by omega)
    refine gst e2 ?_
    refine gbacks0 ?_
    refine gst s_goto ?_
    refine ih (bs ++ [32 % 256]) u2 h2 (by rw [List.length_append, List.length_singleton]; omega) (by omega) (by rw [List.length_append, List.length_singleton]; omega) fun u3 h3 => k u3 ?_
    rw [List.append_assoc] at h3
    exact h3
set_option maxRecDepth 100000 in
theorem lend {nm c0 tc T n f d : Nat} {u : dH} (hw : hwf u) (hm : oSt nm c0 tc T u) (hT : 20 ≤ T) (hT2 : T ≤ 3000) (hn : n < 20) : ∃ u2, drun dProg (f + 2) d 257 0 [(0, .inr (.inr 1)), (1, .inl n)] [] u = some (some (.inl (T - 20 + n)), u2) ∧ oUp nm (wst 64 c0 1 (T - 20 + n)) tc u u2 := by
  obtain ⟨m1, m2, m3, m4⟩ := hm
  refine gof (G := fun z => ∃ u2, z = some (some (.inl (T - 20 + n)), u2) ∧ oUp nm (wst 64 c0 1 (T - 20 + n)) tc u u2) ?_
  refine grun (c := o_iload 257 1 (o_if .lt 257 19 (o_iload 257 1 (o_int 257 20 (o_icmp .gt 257 19 (o_aload 257 0 (o_getfield 257 12292 (o_int 257 20 (o_icmp .ge 257 21 (djmp 257 19)))))))))) (by rfl) ?_
  refine gst (s_iload rfl) ?_
  refine gst (s_if_f (zlt_f (by omega))) ?_
  refine gst (s_iload rfl) ?_
  refine gst (s_int) ?_
  refine gst (s_icmp_f (zlt19 hn)) ?_
  refine gst (s_aload rfl) ?_
  refine gst (s_getfield (w := .inl (T)) m1 rfl (congrArg (fun z => (.inl z : dV)) m4)) ?_
  refine gst (s_int) ?_
  refine gst (s_icmp_t (zge20 hT (by omega))) ?_
  refine grun (c := o_aload 257 0 (o_aload 257 0 (o_getfield 257 12292 (o_int 257 20 (o_bin dSub 257 0 (o_iload 257 1 (o_bin dAdd 257 0 (o_putfield 257 12292 (o_aload 257 0 (o_getfield 257 12292 (o_ireturn 257 1 (djmp 257 39)))))))))))) (by rfl) ?_
  refine gst (s_aload rfl) ?_
  refine gst (s_aload rfl) ?_
  refine gst (s_getfield (w := .inl (T)) m1 rfl (congrArg (fun z => (.inl z : dV)) m4)) ?_
  refine gst (s_int) ?_
  refine gst (s_bin (v := T - 20) (by show (T + (4294967296 - 20 % 4294967296)) % 4294967296 = _; omega)) ?_
  refine gst (s_iload rfl) ?_
  refine gst (s_bin (v := T - 20 + n) (Nat.mod_eq_of_lt (by show T - 20 + n < _; omega))) ?_
  refine gputfield (w := T - 20 + n) hw m1 rfl (fe_0 (Nat.mod_eq_of_lt (by omega))) ?_
  intro u2 z1 z2 w2 a2
  have n1 : hat u2 0 = some (16, nm, wst 64 c0 1 (T - 20 + n)) := by rw [a2 0, if_pos rfl]
  refine gst (s_aload rfl) ?_
  refine gst (s_getfield (w := .inl (T - 20 + n)) n1 rfl (congrArg (fun z => (.inl z : dV)) (by rw [wd_wst _ (by omega)]; exact if_pos rfl))) ?_
  exact gst (s_ireturn rfl) ⟨u2, rfl, z1, z2, w2, fun k => by
    rw [a2 k]
    by_cases g1 : k = 1
    · rw [if_pos g1, if_neg (by omega), g1]; exact m2
    · rw [if_neg g1]⟩
theorem s_zret {y x v : Nat} {nxt : dCode} {rec : dRec} {d : Nat} {L : dL} {h : dH} (e : Nat.beq x 1 = false) (hv : Nat.ble (Nat.mod v 4294967296) 1 = true) : o_ireturn y x nxt rec d L [.inl v] h = some (some (.inl v), h) := by
  show cond (Nat.beq x 1) _ (cond (Nat.ble (Nat.mod v 4294967296) 1) _ _) = _
  rw [e, hv]; rfl
theorem zeq0 {k : Nat} (hk : k < 2147483648) : (k = 0 → dcd .eq k 0 = true) ∧ (k ≠ 0 → dcd .eq k 0 = false) := by
  constructor
  · intro e; subst e; rfl
  · intro e
    show Nat.beq (k % 4294967296) (0 % 4294967296) = false
    cases e2 : Nat.beq (k % 4294967296) (0 % 4294967296) with
    | false => rfl
    | true => have := Nat.eq_of_beq_eq_true e2; omega
/-- the tape behind close: just these bytes count -/
def PC (g : dH) (tq : Nat) (bs : List Nat) (u : dH) : Prop := hwf u ∧ u.1 = g.1 ∧ u.2.1 = g.2.1 ∧ (∀ j, j ≠ 0 → j ≠ 1 → j ≠ tq → hat u j = hat g j) ∧ ∃ nm c00 c0 tc ct, hat g 0 = some (16, nm, c00) ∧ (∀ j, j ≠ 1 → wd 64 c0 j = wd 64 c00 j) ∧ oSt nm c0 tc bs.length u ∧
  hat u tq = some (0, 6, ct) ∧ wd 32 ct 0 = 0 ∧ (∀ i, i < bs.length → wd 8 tc i = bs.getD i 0) ∧ (∀ i, bs.length + 20 ≤ i → wd 8 tc i = 0) ∧ wcan 8 3000 tc
set_option maxRecDepth 100000 in
theorem lclose {g u : dH} {tq f d : Nat} {bs : List Nat} (h : PB g tq bs u) (htq : tq ≠ 0 ∧ tq ≠ 1) (hl : bs.length < 2800) : ∃ u2, drun dProg (f + 61) (Nat.succ (Nat.succ (Nat.succ (Nat.succ d)))) 273 0 [(0, .inr (.inr 1)), (1, .inr (.inr (Nat.succ tq)))] [] u = some (some (.inl 1), u2) ∧ PC g tq bs u2 := by
  obtain ⟨hw, z1, z2, hg, nm, c00, c0, tc, ct, g0, hc0, hm, ht, hk, -⟩ := id h
  refine gof (G := fun z => ∃ u2, z = some (some (.inl 1), u2) ∧ PC g tq bs u2) ?_
  refine grun (c := o_aload 273 1 (o_int 273 0 (o_iaload 273 0 (o_istore 273 2 (djmp 273 4))))) (by rfl) ?_
  refine gst (s_aload rfl) ?_
  refine gst (s_int) ?_
  refine gst (s_iaload (j := 0) ht rfl (by decide) (by decide) hk) ?_
  refine gst (s_istore (u := [(0, .inr (.inr 1)), (1, .inr (.inr (Nat.succ tq)))]) rfl) ?_
  refine gst s_jmp ?_
  obtain ⟨n, hn1, hn2⟩ : ∃ n, (bs.length + n) % 20 = 0 ∧ n < 20 := ⟨(20 - bs.length % 20) % 20, by omega, by omega⟩
  rw [show f + 60 = (f + 39 - n) + n + 21 by omega]
  refine lcloseL (f := f + 39 - n) (d := d) htq n bs u h hn1 hn2 (by omega) ?_
  intro u2 h2
  obtain ⟨hw2, y1, y2, hg2, nm2, c002, c2, tc2, ct2, g02, hc2, hm2, ht2, hk2, -, hT1, hT2, hcn⟩ := h2
  have hll : (bs ++ List.replicate n 32).length = bs.length + n := by rw [List.length_append, List.length_replicate]
  rw [hll] at hm2 hk2 hT1 hT2
  have hpre : ∀ i, i < bs.length → wd 8 tc2 i = bs.getD i 0 := fun i hi => by
    rw [hT1 i (by omega), List.getD_eq_getElem?_getD, List.getElem?_append_left hi, ← List.getD_eq_getElem?_getD]
  rw [show f + 39 - n + 20 = (f + 30 - n + 10 + 17) + 2 by omega]
  refine grun (c := o_iload 273 2 (o_if .eq 273 32 (o_aload 273 0 (o_iload 273 2 (o_virtual 273 4211228 (o_if .lt 273 36 (djmp 273 32))))))) (by rfl) ?_
  refine gst (s_iload rfl) ?_
  by_cases e : bs.length % 20 = 0
  · refine gst (s_if_t (by rw [e]; rfl)) ?_
    refine grun (c := o_int 273 1 (o_goto 273 37 (djmp 273 36))) (by rfl) ?_
    refine gst (s_int) ?_
    refine gst s_goto ?_
    refine grun (c := o_ireturn 273 2 (djmp 273 38)) (by rfl) ?_
    have n0 : n = 0 := by omega
    subst n0
    exact gst (s_zret rfl rfl) ⟨u2, rfl, hw2, y1, y2, hg2, nm2, c002, c2, tc2, ct2, g02, hc2, by rw [show bs.length = 20 * ((bs.length + 0) / 20) by omega]; exact hm2, ht2, by rw [hk2]; omega, hpre, fun i hi => hT2 i (by omega), hcn⟩
  · refine gst (s_if_f (by rw [(zeq0 (show bs.length % 20 < 2147483648 by omega)).2 e])) ?_
    refine gst (s_aload rfl) ?_
    refine gst (s_iload rfl) ?_
    refine gvirtual (as := [.inl (bs.length % 20)]) (fun _ => rfl) hm2.1 rfl rfl rfl ?_
    obtain ⟨u3, e3, U3⟩ := lend (n := bs.length % 20) (f := f + 30 - n + 10 + 16) (d := Nat.succ (Nat.succ (Nat.succ d))) hw2 hm2 (by omega) (by omega) (by omega)
    refine gst e3 ?_
    refine gbackv1 rfl ?_
    have hfin : 20 * ((bs.length + n) / 20) - 20 + bs.length % 20 = bs.length := by omega
    rw [hfin] at U3 ⊢
    refine gst (s_if_f (zlt_f (by omega))) ?_
    refine gst s_jmp ?_
    refine grun (c := o_int 273 1 (o_goto 273 37 (djmp 273 36))) (by rfl) ?_
    refine gst (s_int) ?_
    refine gst s_goto ?_
    refine grun (c := o_ireturn 273 2 (djmp 273 38)) (by rfl) ?_
    have ha3 := U3.2.2.2
    exact gst (s_zret rfl rfl) ⟨u3, rfl, U3.2.2.1, U3.1.trans y1, U3.2.1.trans y2, fun j j0 j1 jt => by rw [ha3 j, if_neg j1, if_neg j0]; exact hg2 j j0 j1 jt, nm2, c002, _, tc2, ct2, g02, fun j hj => by rw [wd_wst j (by omega), if_neg hj]; exact hc2 j hj, oUp_st U3 (by rw [wd_wst 0 (by omega), if_neg (by decide)]; exact hm2.2.2.1) (by rw [wd_wst 1 (by omega), if_pos rfl]), by rw [ha3 tq, if_neg htq.2, if_neg htq.1]; exact ht2, by rw [hk2]; omega, hpre, fun i hi => hT2 i (by omega), hcn⟩

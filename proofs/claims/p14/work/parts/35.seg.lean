/-! ===== runs in pieces: from a place with what waits, and from an answer on ===== -/
section U
variable {B : List (Nat × Nat)} {fx : Nat → sN → sN → Option sN} {kdo : Nat → Option Nat} {pg : Nat → Nat → Option (List dI)} {pgh : Nat → Nat → Option (List sHi)} {stp : Nat → Nat → List sFr → Bool} {orc : Nat → List sV → Option (List (Option sV))} {F0 D0 : Nat} {P : Nat → Nat → Option dCode} {ρ : Nat → Nat} {Op : Nat → Bool} {g : dH} {I : dH → Prop}
theorem sex_goK (W : sFor B fx kdo pg pgh orc F0 D0 P ρ Op g I) {N f d y pc : Nat} {b : Nat × Nat} {is : List dI} {L : sL} {st : List sV} {S : sH} {K : List sFr} {lv : List sLf} (hb : is = [] ∨ sblk pg y b = is) (h : sex B fx kdo pgh stp orc F0 D0 N f d y pc b (is.map hxf) L st S K [] = some lv) (e : Nat) {G : dR → Prop} (hl : ∀ x ∈ lv, leafOK pg P ρ e Op g I G x) {u : dH} (hS : ssat ρ Op g S u) (hI : I u) : kGoal G (K.map (kden pg P ρ e)) (dcomp y is pc (drun P (f + e)) d (slD ρ L) (st.map (svd ρ)) u) :=
  (sex_ok e W.1 W.2.1 W.2.2.1 W.2.2.2.1 W.2.2.2.2.1 W.2.2.2.2.2.1 W.2.2.2.2.2.2 N f d y pc b is _ L st S K [] lv hb rfl h hl u hS hI).2
/-- from a jump on -/
theorem sex_jmp (W : sFor B fx kdo pg pgh orc F0 D0 P ρ Op g I) {N f d y pc : Nat} {L : sL} {st : List sV} {S : sH} {K : List sFr} {lv : List sLf} (h : sex B fx kdo pgh stp orc F0 D0 N f d y pc (0, 0) [] L st S K [] = some lv) (e : Nat) {G : dR → Prop} (hl : ∀ x ∈ lv, leafOK pg P ρ e Op g I G x) {u : dH} (hS : ssat ρ Op g S u) (hI : I u) : kGoal G (K.map (kden pg P ρ e)) (drun P (f + e) d y pc (slD ρ L) (st.map (svd ρ)) u) :=
  sex_goK W (is := []) (Or.inl rfl) h e hl hS hI
/-- from an answer on -/
theorem sback_go (W : sFor B fx kdo pg pgh orc F0 D0 P ρ Op g I) {N : Nat} {S : sH} {K : List sFr} {v : Option sV} {lv : List sLf} (h : sret pgh (sex B fx kdo pgh stp orc F0 D0 N) S K [] v = some lv) (e : Nat) {G : dR → Prop} (hl : ∀ x ∈ lv, leafOK pg P ρ e Op g I G x) {u : dH} (hS : ssat ρ Op g S u) (hI : I u) : kGoal G (K.map (kden pg P ρ e)) (some (v.map (svd ρ), u)) := by
  cases K with
  | nil =>
    have h2 : some ((.inr (v, S) : sLf) :: []) = some lv := h
    cases h2
    exact hl _ List.mem_cons_self u hS hI
  | cons q K2 =>
    obtain ⟨fl, f1, d1, y1, pc1, b1, L1, st1⟩ := q
    have hn2 : cond (sthr v) none (sO (pgh y1 b1.1) fun hl => sex B fx kdo pgh stp orc F0 D0 N f1 d1 y1 pc1 b1 (sdrp b1.2 hl) L1 (spsh v st1) S K2 []) = some lv := h
    cases et : sthr v with
    | true => rw [et] at hn2; cases hn2
    | false =>
      rw [et] at hn2
      obtain ⟨hl1, g1, hn3⟩ := sO_s (show sO (pgh y1 b1.1) (fun hl => sex B fx kdo pgh stp orc F0 D0 N f1 d1 y1 pc1 b1 (sdrp b1.2 hl) L1 (spsh v st1) S K2 []) = some lv from hn2)
      obtain ⟨is1, g2, g3⟩ := W.2.2.2.1 y1 b1.1 hl1 g1
      have e5 : sdrp b1.2 hl1 = (sblk pg y1 b1).map hxf := by rw [sdrp_eq, g3]; unfold sblk; rw [g2]; exact (List.map_drop ..).symm
      rw [e5] at hn3
      have w2 := sex_goK W (Or.inr rfl) hn3 e hl hS hI
      show kGoal G (K2.map (kden pg P ρ e)) (cond (dthr (v.map (svd ρ))) (cond fl (some (v.map (svd ρ), u)) none) (dgo (dcomp y1 (sblk pg y1 b1) pc1) (drun P (f1 + e)) d1 (slD ρ L1) (st1.map (svd ρ)) (v.map (svd ρ)) u))
      rw [sthr_d, et, spsh_d]
      exact w2
end U
theorem kGoal_imp {G G2 : dR → Prop} (h : ∀ z, G z → G2 z) (ks : List (Option dV → dH → dR)) (z : dR) (hz : kGoal G ks z) : kGoal G2 ks z := by
  induction ks generalizing z with
  | nil => exact h z hz
  | cons k t ih => exact ih _ hz
/-! ===== bytes of one row into another ===== -/
theorem s_acopy {rec : dRec} {nxt : dCode} {y x d : Nat} {L : dL} {st : List dV} {h : dH} {a1 a2 n1 n2 ct1 ct2 xs xd xn : Nat} (hw : hwf h) (h1 : hat h a1 = some (2, n1, ct1)) (h2 : hat h a2 = some (2, n2, ct2)) (e1 : xs + xn ≤ n1) (e2 : xd + xn ≤ n2) (b1 : n1 < 2147483648) (b2 : n2 < 2147483648) (l1 : 0 < xn) (hd : 1 ≤ d) (hc : Nat.ble (dcat st) 8 = true) :
    ∃ g : dH, o_acopy y x nxt rec d L (.inl xn :: .inl xd :: .inr (.inr (Nat.succ a2)) :: .inl xs :: .inr (.inr (Nat.succ a1)) :: st) h = nxt rec d L st g ∧ g.1 = h.1 ∧ g.2.1 = h.2.1 ∧ hwf g ∧ ∀ k, hat g k = if k = a2 then some (2, n2, dcp ct1 ct2 xs xd xn) else hat h k := by
  obtain ⟨g, e, r⟩ := hset_spec (c := (2, n2, dcp ct1 ct2 xs xd xn)) (fun h' => nxt rec d L st h') none hw h2
  refine ⟨g, ?_, r⟩
  have m1 : xn % 4294967296 = xn := Nat.mod_eq_of_lt (by omega)
  have m2 : xd % 4294967296 = xd := Nat.mod_eq_of_lt (by omega)
  have m3 : xs % 4294967296 = xs := Nat.mod_eq_of_lt (by omega)
  have m1' : Nat.mod xn 4294967296 = xn := m1
  have q1 : Nat.blt xn 2147483648 = true := di_blt.mpr (by omega)
  have q2 : Nat.blt xs 2147483648 = true := di_blt.mpr (by omega)
  have q3 : Nat.blt xd 2147483648 = true := di_blt.mpr (by omega)
  have q4 : Nat.ble (Nat.add xs xn) n1 = true := Nat.ble_eq_true_of_le e1
  have q5 : Nat.ble (Nat.add xd xn) n2 = true := Nat.ble_eq_true_of_le e2
  have q6 : Nat.ble 1 d = true := Nat.ble_eq_true_of_le hd
  simp only [o_acopy, e_pop, e_vI, e_dia, h1, h2, e_cel, m1, m2, m3, m1', q1, q2, q3, q4, q5, q6, hc, fo_eq, Nat.beq_refl, Bool.and_self, cond_true]
  exact e
theorem zsub {a b : Nat} (h : b ≤ a) (ha : a < 2147483648) : dSub a b = a - b := by
  show (a + (4294967296 - b % 4294967296)) % 4294967296 = _
  omega
theorem zgt_f {a b : Nat} (h : a ≤ b) (hb : b < 2147483648) : dcd .gt a b = false := by
  show dLt b a = false
  show Nat.blt ((b + 2147483648) % 4294967296) ((a + 2147483648) % 4294967296) = false
  cases e : Nat.blt ((b + 2147483648) % 4294967296) ((a + 2147483648) % 4294967296) with
  | false => rfl
  | true => have := di_blt.mp e; omega
set_option maxRecDepth 100000 in
theorem lcopy {a1 a2 n1 n2 ct1 ct2 p1 p2 n f d : Nat} {u : dH} (hw : hwf u) (h1 : hat u a1 = some (2, n1, ct1)) (h2 : hat u a2 = some (2, n2, ct2)) (e1 : p1 + n ≤ n1) (e2 : p2 + n ≤ n2) (b1 : n1 < 1073741824) (b2 : n2 < 1073741824) (l1 : 0 < n) : ∃ u2 : dH, drun dProg (f + 2) (Nat.succ d) 270 0 [(0, .inr (.inr (Nat.succ a1))), (1, .inl p1), (2, .inr (.inr (Nat.succ a2))), (3, .inl p2), (4, .inl n)] [] u = some (none, u2) ∧ u2.1 = u.1 ∧ u2.2.1 = u.2.1 ∧ hwf u2 ∧ ∀ k, hat u2 k = if k = a2 then some (2, n2, dcp ct1 ct2 p1 p2 n) else hat u k := by
  refine gof (G := fun z => ∃ u2 : dH, z = some (none, u2) ∧ u2.1 = u.1 ∧ u2.2.1 = u.2.1 ∧ hwf u2 ∧ ∀ k, hat u2 k = if k = a2 then some (2, n2, dcp ct1 ct2 p1 p2 n) else hat u k) ?_
  refine grun (c := o_iload 270 4 (o_if .le 270 40 (o_iload 270 1 (o_if .lt 270 40 (o_iload 270 3 (o_if .lt 270 40 (o_iload 270 4 (o_aload 270 0 (o_alen 270 0 (o_iload 270 1 (o_bin dSub 270 0 (o_icmp .gt 270 40 (o_iload 270 4 (o_aload 270 2 (o_alen 270 0 (o_iload 270 3 (o_bin dSub 270 0 (o_icmp .gt 270 40 (o_aload 270 0 (o_iload 270 1 (o_aload 270 2 (o_iload 270 3 (o_iload 270 4 (o_acopy 270 1099511627782 (djmp 270 40))))))))))))))))))))))))) (by rfl) ?_
  refine gst (s_iload rfl) ?_
  refine gst (s_if_f (zle0 (by omega) (by omega))) ?_
  refine gst (s_iload rfl) ?_
  refine gst (s_if_f (zlt_f (by omega))) ?_
  refine gst (s_iload rfl) ?_
  refine gst (s_if_f (zlt_f (by omega))) ?_
  refine gst (s_iload rfl) ?_
  refine gst (s_aload rfl) ?_
  refine gst (s_alen h1 rfl) ?_
  refine gst (s_iload rfl) ?_
  refine gst (s_bin (v := n1 - p1) (zsub (by omega) (by omega))) ?_
  refine gst (s_icmp_f (zgt_f (by omega) (by omega))) ?_
  refine gst (s_iload rfl) ?_
  refine gst (s_aload rfl) ?_
  refine gst (s_alen h2 rfl) ?_
  refine gst (s_iload rfl) ?_
  refine gst (s_bin (v := n2 - p2) (zsub (by omega) (by omega))) ?_
  refine gst (s_icmp_f (zgt_f (by omega) (by omega))) ?_
  refine gst (s_aload rfl) ?_
  refine gst (s_iload rfl) ?_
  refine gst (s_aload rfl) ?_
  refine gst (s_iload rfl) ?_
  refine gst (s_iload rfl) ?_
  obtain ⟨u2, e9, z1, z2, w2, a9⟩ := s_acopy (rec := drun dProg (f + 1)) (nxt := djmp 270 40) (y := 270) (x := 1099511627782) (d := Nat.succ d) (L := [(0, .inr (.inr (Nat.succ a1))), (1, .inl p1), (2, .inr (.inr (Nat.succ a2))), (3, .inl p2), (4, .inl n)]) (st := []) hw h1 h2 e1 e2 (by omega) (by omega) l1 (Nat.succ_le_succ (Nat.zero_le d)) rfl
  refine gst e9 ?_
  refine gst s_jmp ?_
  refine grun (c := o_return 270 0 (djmp 270 41)) (by rfl) ?_
  exact gst s_return ⟨u2, rfl, z1, z2, w2, a9⟩
/-! ===== the memory's contract, as runs take it ===== -/
def opM (a : Nat) : Bool := Nat.beq a 106 || Nat.beq a 107
theorem opM_f {a : Nat} (h : opM a = false) : a ≠ 106 ∧ a ≠ 107 := by
  refine ⟨fun w => ?_, fun w => ?_⟩ <;> (subst w; exact absurd h (by decide))
theorem MI_of {T : Nat → Nat → Prop} {u u2 : dH} (h : ∀ q, opM q = true → hat u2 q = hat u q) (hM : MI T u) : MI T u2 := by
  obtain ⟨nm, cm, ct, ⟨m1, m2, m3, m4⟩, h2, h3⟩ := hM
  exact ⟨nm, cm, ct, ⟨(h 106 rfl).trans m1, (h 107 rfl).trans m2, m3, m4⟩, h2, h3⟩
theorem smem_s {key : sN} {l : List (sN × sN)} {a : sN} (h : smem key l = some a) : (key, a) ∈ l := by
  induction l with
  | nil => cases h
  | cons e t ih =>
    have h2 : cond (Nat.beq e.1.1 key.1 && e.1.2 == key.2) (some e.2) (smem key t) = some a := h
    cases hb : (Nat.beq e.1.1 key.1 && e.1.2 == key.2) with
    | false => rw [hb] at h2; exact List.mem_cons_of_mem _ (ih h2)
    | true =>
      rw [hb] at h2
      simp only [Bool.and_eq_true] at hb
      obtain ⟨⟨k1, k2⟩, v⟩ := e
      have e1 : k1 = key.1 := Nat.eq_of_beq_eq_true hb.1
      have e2 : k2 = key.2 := eq_of_beq hb.2
      have e3 : v = a := Option.some.inj h2
      rw [e1, e2, e3]
      exact List.mem_cons_self
theorem sarg2_s {as : List sV} {k : sN → Option (List (Option sV))} {w : List (Option sV)} (h : sarg2 as k = some w) : ∃ key, as = [.inr (.inr 107), .inr (.inl key)] ∧ k key = some w := by
  unfold sarg2 at h
  split at h
  · rename_i r key
    obtain ⟨h1, h2⟩ := scd_t h
    have h3 := Nat.eq_of_beq_eq_true h1
    subst h3
    exact ⟨key, rfl, h2⟩
  · cases h
theorem sarg3_s {as : List sV} {k : sN → sN → Option (List (Option sV))} {w : List (Option sV)} (h : sarg3 as k = some w) : ∃ key a, as = [.inr (.inr 107), .inr (.inl key), .inl a] ∧ k key a = some w := by
  unfold sarg3 at h
  split at h
  · rename_i r key a
    obtain ⟨h1, h2⟩ := scd_t h
    have h3 := Nat.eq_of_beq_eq_true h1
    subst h3
    exact ⟨key, a, rfl, h2⟩
  · cases h
/-- what a table of right answers must be -/
def tOK (ρ : Nat → Nat) (T : Nat → Nat → Prop) (tab : List (sN × sN)) : Prop := ∀ e ∈ tab, sden ρ e.1 < 2 ^ 32 ∧ ∃ a, T (sden ρ e.1) a ∧ a < 2 ^ 14 ∧ sden ρ e.2 = dSub a 1
theorem zsub1 {a : Nat} (h : a < 2 ^ 14) : dAdd (dSub a 1) 1 = a := by
  show ((a + (4294967296 - 1 % 4294967296)) % 4294967296 + 1) % 4294967296 = a
  omega
set_option maxRecDepth 100000 in
theorem orcM_ok {ρ : Nat → Nat} {T : Nat → Nat → Prop} {K : List Nat} (hK : ∀ key a, T key a → (3 * 2 ^ 32 + key) ∈ K) (hKl : K.length ≤ 1000) (hT : ∀ key a b, T key a → T key b → a = b) {tab : List (sN × sN)} (ht : tOK ρ T tab) {g : dH} :
    ∀ y as outs, orcM tab y as = some outs → ∀ f d u S, 2000 ≤ f → 20 ≤ d → ssat ρ opM g S u → MI T u → ∃ o ∈ outs, ∃ u2, (dargs (as.map (svd ρ)) 0 fun L _ => drun dProg f d y 0 L [] u) = some (o.map (svd ρ), u2) ∧ MI T u2 ∧ hwf u2 ∧ u2.1 = u.1 ∧ u2.2.1 = u.2.1 ∧ ∀ a, opM a = false → hat u2 a = hat u a := by
  intro y as outs ho f d u S hf hd hS hM
  unfold orcM at ho
  obtain ⟨f9, rfl⟩ : ∃ f9, f = f9 + 1291 := ⟨f - 1291, by omega⟩
  obtain ⟨d9, rfl⟩ : ∃ d9, d = Nat.succ (Nat.succ (Nat.succ d9)) := ⟨d - 3, by omega⟩
  cases e1 : Nat.beq y 140 with
  | true =>
    rw [e1] at ho
    have := Nat.eq_of_beq_eq_true e1
    subst this
    obtain ⟨key, rfl, ho2⟩ := sarg2_s (show sarg2 as (fun key => match smem key tab with
      | some a => some [some (.inl (4294967294, [])), some (.inl a)]
      | none => none) = some outs from ho)
    cases es : smem key tab with
    | none => rw [es] at ho2; cases ho2
    | some a =>
      rw [es] at ho2
      cases ho2
      obtain ⟨hk, b, hb, hb2, hb3⟩ := ht _ (smem_s es)
      obtain ⟨v, hv, hv2⟩ := MI_find (f := f9 + 262) (d := Nat.succ d9) hM hk
      rw [show f9 + 1291 = f9 + 262 + 1029 by omega]
      have e9 : (dargs ([(.inr (.inr 107) : sV), .inr (.inl key)].map (svd ρ)) 0 fun L _ => drun dProg (f9 + 262 + 1029) (Nat.succ (Nat.succ (Nat.succ d9))) 140 0 L [] u) = drun dProg (f9 + 262 + 1029) (Nat.succ (Nat.succ (Nat.succ d9))) 140 0 [(0, .inr (.inr 107)), (1, .inr (.inl (sden ρ key)))] [] u := by
        rw [dargs_eq]
        rfl
      rcases hv2 with hv3 | ⟨a2, h1, h2, hv3⟩
      · rw [hv3] at hv
        exact ⟨some (.inl (4294967294, [])), List.mem_cons_self, u, e9.trans hv, hM, hS.1, rfl, rfl, fun _ _ => rfl⟩
      · have e8 := hT _ _ _ h1 hb
        rw [hv3, e8, ← hb3] at hv
        exact ⟨some (.inl a), List.mem_cons_of_mem _ List.mem_cons_self, u, e9.trans hv, hM, hS.1, rfl, rfl, fun _ _ => rfl⟩
  | false =>
    rw [e1] at ho
    cases e2 : Nat.beq y 141 with
    | false => rw [e2] at ho; cases ho
    | true =>
      rw [e2] at ho
      have := Nat.eq_of_beq_eq_true e2
      subst this
      obtain ⟨key, a, rfl, ho2⟩ := sarg3_s (show sarg3 as (fun key a => match smem key tab with
        | some b => cond (Nat.beq a.1 b.1 && a.2 == b.2) (some [none]) none
        | none => none) = some outs from ho)
      cases es : smem key tab with
      | none => rw [es] at ho2; cases ho2
      | some b =>
        rw [es] at ho2
        obtain ⟨hab, ho2⟩ := scd_t ho2
        cases ho2
        simp only [Bool.and_eq_true] at hab
        have ea : a = b := by
          obtain ⟨a1, a2⟩ := a
          obtain ⟨b1, b2⟩ := b
          have q1 : a1 = b1 := Nat.eq_of_beq_eq_true hab.1
          have q2 : a2 = b2 := eq_of_beq hab.2
          rw [q1, q2]
        obtain ⟨hk, c, hc, hc2, hc3⟩ := ht _ (smem_s es)
        obtain ⟨u2, h1, h2, h3, h4, h5, h6⟩ := MI_keep (v := sden ρ a) (f := f9) (d := d9) hK hKl hS.1 hM hk (by rw [ea, hc3]; exact zsub1 hc2) hc2 hc
        refine ⟨none, List.mem_cons_self, u2, ?_, h2, h3, h4, h5, fun q hq => h6 q (opM_f hq).1 (opM_f hq).2⟩
        rw [dargs_eq]
        exact h1

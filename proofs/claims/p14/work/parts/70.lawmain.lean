/-! ===== the law's loops: how many arrays; each cell by its rules ===== -/
theorem blkG {B : List (Nat × Nat)} {fx : Nat → sN → sN → Option sN} {kdo : Nat → Option Nat} {orc : Nat → List sV → Option (List (Option sV))} {F0 D0 : Nat} {ρ : Nat → Nat} {Op : Nat → Bool} {I : dH → Prop} {stp : Nat → Nat → sL → sH → List sFr → Bool} {N f d y pc : Nat} {S : sH} {u : dH} {L0 : sL} {lv : List sLf} (hb : (pghm y pc).isSome = true) (W : sFor B fx kdo pgm pghm orc F0 D0 dProg ρ Op u I) (h : sexL B fx kdo pghm stp orc F0 D0 N f d y pc (pc, 0) ((pghm y pc).getD []) L0 [] S [] [] = some lv) (hS : sfit ρ Op S u) (hI : I u) (e : Nat) {G : dR → Prop} (k : ∀ x ∈ lv, leafOK pgm dProg ρ e Op u I G x) : G (drun dProg (f + 1 + e) d y pc (slD ρ L0) [] u) := by
  cases hp : pghm y pc with
  | none => rw [hp] at hb; cases hb
  | some hl =>
    rw [hp] at h
    obtain ⟨is, g1, g2⟩ := pghm_ok y pc hl hp
    have hb : sblk pgm y (pc, 0) = is := by
      unfold sblk
      rw [g1]; rfl
    have h : sexL B fx kdo pghm stp orc F0 D0 N f d y pc (pc, 0) hl L0 [] S [] [] = some lv := h
    rw [g2] at h
    have hgo := sexL_goK W (b := (pc, 0)) (is := is) (Or.inr hb) h e (G := G) k hS hI
    have e4 : drun dProg (f + 1 + e) d y pc (slD ρ L0) [] u = dcomp y is pc (drun dProg (f + e)) d (slD ρ L0) [] u := by
      rw [show f + 1 + e = (f + e) + 1 by omega]
      show opt (dProg y pc) (fun c => c (drun dProg (f + e)) d (slD ρ L0) [] u) = _
      rw [pgm_ok y pc is g1]; rfl
    rw [e4]
    exact hgo
theorem blk274 : ((pghm 274 237).isSome && ((pghm 274 491).isSome && ((pghm 274 914).isSome && (pghm 274 980).isSome))) = true := by decide +kernel
theorem b237 : (pghm 274 237).isSome = true := by have := blk274; simp only [Bool.and_eq_true] at this; exact this.1
theorem b491 : (pghm 274 491).isSome = true := by have := blk274; simp only [Bool.and_eq_true] at this; exact this.2.1
theorem b914 : (pghm 274 914).isSome = true := by have := blk274; simp only [Bool.and_eq_true] at this; exact this.2.2.1
theorem b980 : (pghm 274 980).isSome = true := by have := blk274; simp only [Bool.and_eq_true] at this; exact this.2.2.2
/-- what holds of the object: cells of Op alone, and its kind -/
def okQ (Q : dH → Prop) : Prop := opOnly opL Q ∧ ∀ u, Q u → ∃ n ct, hat u 0 = some (16, n, ct)
theorem WL_of {ρ : Nat → Nat} {Q : dH → Prop} {g : dH} (hB : sok ρ BL) (hQ : okQ Q) : sFor BL fx0 (fun a => dalk kdL a) pgm pghm orc0 2000 20 dProg ρ opL g Q :=
  ⟨hB, fun _ _ _ _ h => (nomatch (show (none : Option sN) = some _ from h)), pgm_ok, pghm_ok, fun u u2 h hw hq => hQ.1 u u2 h hw hq, fun a kd h S u _ hI => by
    have h1 := dalk_mem (show dalk kdL a = some kd from h)
    simp only [kdL, List.mem_cons, List.not_mem_nil, or_false, Prod.mk.injEq] at h1
    obtain ⟨rfl, rfl⟩ := h1
    exact hQ.2 u hI, fun _ _ _ h => (nomatch (show (none : Option (List (Option sV))) = some _ from h))⟩
theorem opL_t {a : Nat} (h : a < 127) : opL a = true := di_blt.mpr h
theorem opL_f {a : Nat} (h : opL a = false) : 127 ≤ a := by
  rcases Nat.lt_or_ge a 127 with h2 | h2
  · rw [opL_t h2] at h; cases h
  · exact h2
theorem okJS (cs : List (Nat × Nat)) (b : Nat) : okQ (JS cs b) := ⟨fun u u2 h hw hq => JS_op (fun a ha => h a (opL_t (by omega))) hw hq, fun u h => by
  obtain ⟨ct, h1, -⟩ := h.1.1.2 0 16 12 none (by decide)
  exact ⟨_, ct, h1⟩⟩
def rl (l : List Nat) (v : Nat) : Nat := l.getD v 0
theorem rl_ok {p r k i a b c d e f : Nat} (h1 : 1 ≤ p ∧ p ≤ 42) (h2 : r ≤ 20) (h3 : k ≤ 19) (h4 : i ≤ 60) (h5 : a < 4294967296 ∧ b < 4294967296 ∧ c < 4294967296 ∧ d < 4294967296 ∧ e < 4294967296 ∧ f < 4294967296) : sok (rl [0, p, r, k, i, a, b, c, d, e, f]) BL := by
  intro v lo hi h
  match v, h with
  | 0, h => cases h; exact ⟨Nat.le_refl _, Nat.le_refl _⟩
  | 1, h => cases h; exact h1
  | 2, h => cases h; exact ⟨Nat.zero_le _, h2⟩
  | 3, h => cases h; exact ⟨Nat.zero_le _, h3⟩
  | 4, h => cases h; exact ⟨Nat.zero_le _, h4⟩
  | 5, h => cases h; exact ⟨Nat.zero_le _, show a ≤ 4294967295 by omega⟩
  | 6, h => cases h; exact ⟨Nat.zero_le _, show b ≤ 4294967295 by omega⟩
  | 7, h => cases h; exact ⟨Nat.zero_le _, show c ≤ 4294967295 by omega⟩
  | 8, h => cases h; exact ⟨Nat.zero_le _, show d ≤ 4294967295 by omega⟩
  | 9, h => cases h; exact ⟨Nat.zero_le _, show e ≤ 4294967295 by omega⟩
  | 10, h => cases h; exact ⟨Nat.zero_le _, show f ≤ 4294967295 by omega⟩
  | 11, h => cases h; exact ⟨Nat.zero_le _, show 0 ≤ 4294967295 by decide⟩
  | n + 12, h => cases h
theorem rl_ok2 {p r k i a b c d e f g : Nat} (h1 : 1 ≤ p ∧ p ≤ 42) (h2 : r ≤ 20) (h3 : k ≤ 19) (h4 : i ≤ 60) (h5 : a < 4294967296 ∧ b < 4294967296 ∧ c < 4294967296 ∧ d < 4294967296 ∧ e < 4294967296 ∧ f < 4294967296) (h6 : g < 4294967296) : sok (rl [0, p, r, k, i, a, b, c, d, e, f, g]) BL := by
  intro v lo hi h
  match v, h with
  | 0, h => cases h; exact ⟨Nat.le_refl _, Nat.le_refl _⟩
  | 1, h => cases h; exact h1
  | 2, h => cases h; exact ⟨Nat.zero_le _, h2⟩
  | 3, h => cases h; exact ⟨Nat.zero_le _, h3⟩
  | 4, h => cases h; exact ⟨Nat.zero_le _, h4⟩
  | 5, h => cases h; exact ⟨Nat.zero_le _, show a ≤ 4294967295 by omega⟩
  | 6, h => cases h; exact ⟨Nat.zero_le _, show b ≤ 4294967295 by omega⟩
  | 7, h => cases h; exact ⟨Nat.zero_le _, show c ≤ 4294967295 by omega⟩
  | 8, h => cases h; exact ⟨Nat.zero_le _, show d ≤ 4294967295 by omega⟩
  | 9, h => cases h; exact ⟨Nat.zero_le _, show e ≤ 4294967295 by omega⟩
  | 10, h => cases h; exact ⟨Nat.zero_le _, show f ≤ 4294967295 by omega⟩
  | 11, h => cases h; exact ⟨Nat.zero_le _, show g ≤ 4294967295 by omega⟩
  | n + 12, h => cases h
/-- kind and value of each cell, as the law keeps them -/
def AR (cs : List (Nat × Nat)) (u : dH) : Prop := (∃ ct, hat u 127 = some (0, 21, ct)) ∧ (∃ ct, hat u 128 = some (0, 21, ct)) ∧ ∀ (k : Nat) (s : Nat × Nat), cs[k]? = some s → aw u 127 k = s.1 ∧ aw u 128 k = s.2
theorem AR_WS {cs : List (Nat × Nat)} {u u2 : dH} (h : WS opL u u2) (hA : AR cs u) : AR cs u2 := by
  obtain ⟨⟨c1, h1⟩, ⟨c2, h2⟩, h3⟩ := hA
  obtain ⟨d1, g1, g2⟩ := h.2.2 127 _ _ _ rfl h1
  obtain ⟨d2, g3, g4⟩ := h.2.2 128 _ _ _ rfl h2
  refine ⟨⟨d1, g1⟩, ⟨d2, g3⟩, fun k s hs => ?_⟩
  have h4 := h3 k s hs
  rw [aw_of h1, aw_of h2] at h4
  rw [aw_of g1, aw_of g3, g2, g4]
  exact h4
theorem AR_fit {cs : List (Nat × Nat)} {ρ : Nat → Nat} {u : dH} {k : Nat} {s : Nat × Nat} {x y : sN} (hA : AR cs u) (hw : hwf u) (hs : cs[k]? = some s) (h3 : ρ 3 = k) (hx : sden ρ x = s.1) (hy : sden ρ y = s.2) : sfit ρ opL (mS x y) u := by
  obtain ⟨⟨c1, h1⟩, ⟨c2, h2⟩, h4⟩ := hA
  obtain ⟨g1, g2⟩ := h4 k s hs
  have e : sden ρ (0, [3]) = k := by
    show 0 + (ρ 3 + 0) = k
    omega
  refine sfit_mk hw (by show List.Nodup [127, 128]; decide) (fun q hq => ?_) fun a kd n X hm => ?_
  · simp only [mS, List.mem_cons, List.not_mem_nil, or_false] at hq
    rcases hq with rfl | rfl <;> rfl
  · simp only [mS, List.mem_cons, List.not_mem_nil, or_false, Prod.mk.injEq] at hm
    rcases hm with ⟨rfl, rfl, rfl, rfl⟩ | ⟨rfl, rfl, rfl, rfl⟩
    · exact sct_in h1 (ovP_1 (by rw [e, hx]; exact g1))
    · exact sct_in h2 (ovP_1 (by rw [e, hy]; exact g2))
theorem mS_inr (x y : sN) : allInr (mS x y) = true := rfl
def rN (n : Nat) : dL := [(1, .inr (.inr 1)), (2, .inr (.inr 127)), (3, .inl n), (4, .inr (.inr 128)), (5, .inr (.inr 129))]
theorem chkH_s {pc : Nat} {Lx : sL} {x : sLf} (h : chkH pc Lx x = true) : ∃ f S, x = .inl (f, 61, 274, pc, Lx, [], S, []) ∧ 5000 ≤ f := by
  unfold chkH at h
  split at h
  · rename_i f d y pc2 L st S K
    simp only [Bool.and_eq_true] at h
    obtain ⟨q1, q2, q3, q4, q5, q6, q7⟩ := h
    have q2 := Nat.eq_of_beq_eq_true q2
    have q3 := Nat.eq_of_beq_eq_true q3
    have q4 := Nat.eq_of_beq_eq_true q4
    have q5 : st = [] := List.isEmpty_iff.mp q5
    have q6 : K = [] := List.isEmpty_iff.mp q6
    have q7 := @of_decide_eq_true _ (dqL L Lx) q7
    subst q2 q3 q4 q5 q6 q7
    exact ⟨f, S, rfl, Nat.le_of_ble_eq_true q1⟩
  · cases h
/-- a step of the law from a head to a head, over calls that are known -/
theorem law_go {cs : List tC} {heads : List Nat} {pc : Nat} {L0 : sL} {S0 : sH} {chk : sLf → Bool} {ρ : Nat → Nat} {Qs : Nat → dH → Prop} {e : Nat} (hi : allInr S0 = true) (hb : (pghm 274 pc).isSome = true) (hB : sok ρ BL) (hQ : ∀ k, okQ (Qs k)) (h : chn 5000 S0 chk (goH heads) cs (runH heads pc L0 S0) = true) (hc : ∀ i c, cs[i]? = some c → tcOK ρ opL 5000 e (Qs i) (Qs (i + 1)) c) {u : dH} (hS : sfit ρ opL S0 u) (hq : Qs 0 u) {G : dR → Prop} (k : ∀ x, chk x = true → finOK ρ opL e u G (Qs cs.length) x) : G (drun dProg (10001 + e) 61 274 pc (slD ρ L0) [] u) := by
  have hW : ∀ k g, hwf g → Qs k g → sFor BL fx0 (fun a => dalk kdL a) pgm pghm orc0 2000 20 dProg ρ opL g (Qs k) := fun k g _ _ => WL_of hB (hQ k)
  refine chn_ok (e := e) hi hW cs 0 _ u (fun G => G (drun dProg (10001 + e) 61 274 pc (slD ρ L0) [] u)) (fun i c h => by rw [Nat.zero_add]; exact hc i c h) h hS hq (fun lv hlv G hG => ?_) G fun z hz => ?_
  · exact blkG hb (hW 0 u hS.1 hq) hlv hS hq e hG
  · rw [Nat.zero_add]
    exact k z hz
theorem law_step {cs : List tC} {heads : List Nat} {pc pc2 : Nat} {L0 L1 : sL} {S0 : sH} {ρ : Nat → Nat} {Qs : Nat → dH → Prop} {e : Nat} (hi : allInr S0 = true) (hb : (pghm 274 pc).isSome = true) (hB : sok ρ BL) (hQ : ∀ k, okQ (Qs k)) (h : chn 5000 S0 (chkH pc2 L1) (goH heads) cs (runH heads pc L0 S0) = true) (hc : ∀ i c, cs[i]? = some c → tcOK ρ opL 5000 e (Qs i) (Qs (i + 1)) c) {u : dH} (hS : sfit ρ opL S0 u) (hq : Qs 0 u) {G : dR → Prop} (k : ∀ f u2, 5000 ≤ f → WS opL u u2 → hwf u2 → Qs cs.length u2 → G (drun dProg (f + e) 61 274 pc2 (slD ρ L1) [] u2)) : G (drun dProg (10001 + e) 61 274 pc (slD ρ L0) [] u) := by
  refine law_go hi hb hB hQ h hc hS hq fun z hz => ?_
  obtain ⟨f, S, rfl, hf⟩ := chkH_s hz
  exact fun u2 h1 h2 h3 => k f u2 hf h1 h2 h3
/-- the count of arrays so far -/
def inn (cs : List (Nat × Nat)) : Nat := match cs with
  | [] => 0
  | c :: t => b2n (Nat.beq c.1 4) + inn t
theorem inn_app (a b : List (Nat × Nat)) : inn (a ++ b) = inn a + inn b := by
  induction a with
  | nil => show inn b = 0 + inn b; omega
  | cons c t ih => show b2n (Nat.beq c.1 4) + inn (t ++ b) = b2n (Nat.beq c.1 4) + inn t + inn b; omega
theorem inn_succ {cs : List (Nat × Nat)} {k : Nat} {s : Nat × Nat} (h : cs[k]? = some s) : inn (cs.take (k + 1)) = b2n (Nat.beq s.1 4) + inn (cs.take k) := by
  rw [List.take_add_one, h, inn_app]
  show inn (cs.take k) + (b2n (Nat.beq s.1 4) + 0) = _
  omega
theorem inn_le (cs : List (Nat × Nat)) : inn cs ≤ cs.length := by
  induction cs with
  | nil => exact Nat.le_refl _
  | cons c t ih =>
    have := b2n_le (Nat.beq c.1 4)
    show b2n (Nat.beq c.1 4) + inn t ≤ t.length + 1
    omega
theorem nOf_inn {cs : List (Nat × Nat)} (h : ∀ c ∈ cs, c.1 < 5) : nOf cs = cs.length + inn cs := by
  induction cs with
  | nil => rfl
  | cons c t ih =>
    have h1 := ih fun q hq => h q (List.mem_cons_of_mem _ hq)
    have h2 := h c List.mem_cons_self
    have h3 : cCn c.1 = 1 + b2n (Nat.beq c.1 4) := by
      match hc : c.1, h2 with
      | 0, _ => rfl
      | 1, _ => rfl
      | 2, _ => rfl
      | 3, _ => rfl
      | 4, _ => rfl
    show cCn c.1 + nOf t = t.length + 1 + (b2n (Nat.beq c.1 4) + inn t)
    omega
def l2D (k i n : Nat) : dL := (7, .inl k) :: (6, .inl i) :: rN n
theorem itC_k {k : Nat} (hk : k < 5) : itC k = true := by
  have h := itC_ok
  simp only [Bool.and_eq_true] at h
  match k, hk with
  | 0, _ => exact h.1
  | 1, _ => exact h.2.1
  | 2, _ => exact h.2.2.1
  | 3, _ => exact h.2.2.2.1
  | 4, _ => exact h.2.2.2.2
theorem cs_k {cs : List (Nat × Nat)} (hc : csOK cs) {k : Nat} (hk : k < cs.length) : ∃ s, cs[k]? = some s ∧ s.1 < 5 ∧ s.2 < 16 := by
  obtain ⟨s, hs⟩ : ∃ s, cs[k]? = some s := ⟨_, List.getElem?_eq_getElem hk⟩
  obtain ⟨a1, a2, -⟩ := csOK_at hc hs
  exact ⟨s, hs, a1, a2⟩
/-- the loop that counts -/
theorem loop2 {cs : List (Nat × Nat)} (hc : csOK cs) {Q : dH → Prop} (hQ : okQ Q) {u0 : dH} {G : dR → Prop} {F0 : Nat} (hG : ∀ F u, F0 ≤ F → WS opL u0 u → hwf u → AR cs u → Q u → G (drun dProg F 61 274 237 (l2D cs.length (inn cs) cs.length) [] u)) : ∀ (m k F : Nat) (u : dH), cs.length - k = m → k ≤ cs.length → WS opL u0 u → hwf u → AR cs u → Q u → F0 + 10001 * m ≤ F → G (drun dProg F 61 274 237 (l2D k (inn (cs.take k)) cs.length) [] u) := by
  have h20 := hc.2
  intro m
  induction m with
  | zero =>
    intro k F u hm hk hW hw hA hq hF
    rw [show k = cs.length by omega, List.take_length]
    exact hG F u (by omega) hW hw hA hq
  | succ m ih =>
    intro k F u hm hk hW hw hA hq hF
    obtain ⟨s, hs, s1, s2⟩ := cs_k hc (show k < cs.length by omega)
    have hi : inn (cs.take k) ≤ 20 := by
      have := inn_le (cs.take k)
      rw [List.length_take] at this
      omega
    generalize hρ : rl [0, 1, cs.length - k - 1, k, inn (cs.take k), s.2, 0, 0, 0, 0, 0] = ρ
    have hB : sok ρ BL := by rw [← hρ]; exact rl_ok (by decide) (by omega) (by omega) (by omega) (by omega)
    have p2 : ρ 2 = cs.length - k - 1 := by rw [← hρ]; rfl
    have p3 : ρ 3 = k := by rw [← hρ]; rfl
    have p4 : ρ 4 = inn (cs.take k) := by rw [← hρ]; rfl
    have p5 : ρ 5 = s.2 := by rw [← hρ]; rfl
    have hS : sfit ρ opL (mS (s.1, []) (0, [5])) u := AR_fit hA hw hs p3 rfl (by show 0 + (ρ 5 + 0) = s.2; omega)
    have e0 : slD ρ (l2L (0, [3]) (0, [4]) (1, [2, 3])) = l2D k (inn (cs.take k)) cs.length := by
      show (7, Sum.inl (0 + (ρ 3 + 0))) :: (6, Sum.inl (0 + (ρ 4 + 0))) :: rN (1 + (ρ 2 + (ρ 3 + 0))) = _
      rw [show 0 + (ρ 3 + 0) = k by omega, show 0 + (ρ 4 + 0) = inn (cs.take k) by omega, show 1 + (ρ 2 + (ρ 3 + 0)) = cs.length by omega]
      rfl
    have e1 : slD ρ (l2L (1, [3]) (b2n (Nat.beq s.1 4), [4]) (1, [2, 3])) = l2D (k + 1) (inn (cs.take (k + 1))) cs.length := by
      show (7, Sum.inl (1 + (ρ 3 + 0))) :: (6, Sum.inl (b2n (Nat.beq s.1 4) + (ρ 4 + 0))) :: rN (1 + (ρ 2 + (ρ 3 + 0))) = _
      rw [show 1 + (ρ 3 + 0) = k + 1 by omega, show b2n (Nat.beq s.1 4) + (ρ 4 + 0) = inn (cs.take (k + 1)) by rw [inn_succ hs]; omega, show 1 + (ρ 2 + (ρ 3 + 0)) = cs.length by omega]
      rfl
    have h := law_step (e := F - 10001) (Qs := fun _ => Q) (mS_inr _ _) b237 hB (fun _ => hQ) (itC_k s1) (fun i c h => nomatch h) hS hq (G := G) (fun f u2 hf h1 h2 h3 => by
      rw [e1]
      exact ih (k + 1) (f + (F - 10001)) u2 (by omega) (by omega) (WS_tr hW h1) h2 (AR_WS h1 hA) h3 (by omega))
    rw [e0, show 10001 + (F - 10001) = F by omega] at h
    exact h
/-- what other locals hold -/
def jD (a b c d e f : Nat) : dL := [(16, .inl a), (15, .inl b), (14, .inl c), (13, .inl d), (12, .inl e), (11, .inl f)]
def mD (X : dL) (k a e i n : Nat) : dL := (10, .inl k) :: (9, .inl a) :: (8, .inl e) :: (7, .inl 1) :: (X ++ ((6, .inl i) :: rN n))
theorem mD_of (ρ : Nat → Nat) (X : sL) (k a e n : sN) : slD ρ (lM X k a e n) = mD (slD ρ X) (sden ρ k) (sden ρ a) (sden ρ e) (0 + (ρ 4 + 0)) (sden ρ n) := by
  unfold lM mD
  simp only [slD, List.map_cons, List.map_append]
  rfl
/-- judge of a cell, as the law calls it -/
theorem tc_judge {cs : List (Nat × Nat)} (hc : csOK cs) {b k r e : Nat} {s : Nat × Nat} (hr : r < 6) (hs : cs[k]? = some s) {ρ : Nat → Nat} (hρ : ρ 1 = atc cs k) (he : 20000 ≤ e) : tcOK ρ opL 5000 e (JS cs b) (JS cs b) (60, 261, jL r, some (.inl (ansJ r s.1 s.2, []))) := by
  intro f u _ _ hq
  obtain ⟨u2, h1, h2, h3, h4, h5⟩ := jc hc hr hs hq.1 hq.2.1 hq.2.2 (f + e - 20000)
  have h6 := KP_FQ h5
  refine ⟨u2, ?_, ⟨h2, h3, h4⟩, h2.1.1, h6.1, h6.2.1, fun a ha => h6.2.2 a (by have := opL_f ha; omega)⟩
  have e1 : slD ρ (jL r) = [(0, .inr (.inr 1)), (1, .inl r), (2, .inl (atc cs k))] := by
    show [(0, _), (1, _), (2, Sum.inl (0 + (ρ 1 + 0)))] = _
    rw [hρ, Nat.add_zero, Nat.zero_add]
    rfl
  show drun dProg (f + e) 60 261 0 (slD ρ (jL r)) [] u = _
  rw [e1, show f + e = 20000 + (f + e - 20000) by omega, h1]
  rfl
theorem tc_node {cs : List (Nat × Nat)} (hc : csOK cs) {b k e : Nat} {s : Nat × Nat} (hs : cs[k]? = some s) {ρ : Nat → Nat} (hρ : ρ 1 = atc cs k) : tcOK ρ opL 5000 e (JS cs b) (JS cs b) (60, 260, [(0, .inr (.inr 1)), (1, .inl (0, [1])), (2, .inl (5, []))], some (.inr (.inl (0, [])))) := by
  intro f u hf _ hq
  have hf : 5000 ≤ f := hf
  obtain ⟨u2, h1, h2, h6⟩ := node_up hc hs hq (f + e - 500)
  refine ⟨u2, ?_, h2, h2.1.1.1, h6.1, h6.2.1, fun a ha => h6.2.2 a (by have := opL_f ha; omega)⟩
  have e1 : slD ρ [(0, .inr (.inr 1)), (1, .inl (0, [1])), (2, .inl (5, []))] = [(0, .inr (.inr 1)), (1, .inl (atc cs k)), (2, .inl 5)] := by
    show [(0, _), (1, Sum.inl (0 + (ρ 1 + 0))), (2, _)] = _
    rw [hρ, Nat.add_zero, Nat.zero_add]
    rfl
  show drun dProg (f + e) 60 260 0 (slD ρ [(0, .inr (.inr 1)), (1, .inl (0, [1])), (2, .inl (5, []))]) [] u = _
  rw [e1, show f + e = 500 + (f + e - 500) by omega, h1]
  rfl
def isX (X : dL) : Prop := X = [] ∨ ∃ a b c d e f, (a < 4294967296 ∧ b < 4294967296 ∧ c < 4294967296 ∧ d < 4294967296 ∧ e < 4294967296 ∧ f < 4294967296) ∧ X = jD a b c d e f
theorem jN_X (ρ : Nat → Nat) {k v : Nat} (hv : v < 16) : isX (slD ρ (jN k v)) := by
  have hb : ∀ b, b2n b + 0 < 4294967296 := fun b => by have := b2n_le b; omega
  refine Or.inr ⟨b2n (someB k v) + 0, b2n (inB k v) + 0, b2n (yesB k v) + 0, b2n (fewB k v) + 0, b2n (lowB k v) + 0, cond (Nat.beq k 1) (dSub 4294967295 v) v + 0, ⟨hb _, hb _, hb _, hb _, hb _, ?_⟩, rfl⟩
  cases Nat.beq k 1 with
  | true => exact Nat.mod_lt _ (by decide)
  | false => show v + 0 < _; omega
theorem itM_get {k v : Nat} (hk : k < 5) (hv : v < 16) {e : Nat} (he : e ≤ 1) : itM [] e k v = true ∧ itM jX e k v = true := by
  have h := itM_ok hk hv
  unfold itMs at h
  simp only [Bool.and_eq_true] at h
  obtain ⟨h1, h2, h3, h4⟩ := h
  rcases Nat.le_one_iff_eq_zero_or_eq_one.mp he with rfl | rfl
  · exact ⟨h1, h3⟩
  · exact ⟨h2, h4⟩
/-- the loop over the cells -/
theorem loopM {cs : List (Nat × Nat)} (hc : csOK cs) {b : Nat} {u0 : dH} {G : dR → Prop} {F0 : Nat} {i : Nat} (hi : i ≤ 60) (hF0 : 20000 ≤ F0) (hG : ∀ F u X, F0 ≤ F → WS opL u0 u → hwf u → AR cs u → JS cs b u → isX X → (X = [] → cs = []) → G (drun dProg F 61 274 491 (mD X cs.length (1 + nOf cs) (b2n (allB someB cs)) i cs.length) [] u)) : ∀ (m k F : Nat) (u : dH) (X : dL) (e : Nat), cs.length - k = m → k ≤ cs.length → (X = [] → k = 0) → isX X → e ≤ 1 → b2n (allB someB cs) = e * b2n (allB someB (cs.drop k)) → WS opL u0 u → hwf u → AR cs u → JS cs b u → F0 + 30001 * m ≤ F → G (drun dProg F 61 274 491 (mD X k (atc cs k) e i cs.length) [] u) := by
  have h20 := hc.2
  have hno := nOf_le cs
  intro m
  induction m with
  | zero =>
    intro k F u X e hm hk hX hX2 he he2 hW hw hA hq hF
    have hkl : k = cs.length := by omega
    have hd : cs.drop k = [] := List.drop_eq_nil_of_le (by omega)
    rw [hd] at he2
    have he3 : b2n (allB someB cs) = e := by rw [he2]; show e * 1 = e; omega
    rw [← he3, hkl, atc_len cs (Nat.le_refl _)]
    refine hG F u X (by omega) hW hw hA hq hX2 fun h => ?_
    have := hX h
    exact List.eq_nil_of_length_eq_zero (by omega)
  | succ m ih =>
    intro k F u X e hm hk hX hX2 he he2 hW hw hA hq hF
    have he8 : 50001 ≤ F := Nat.le_trans (Nat.add_le_add hF0 (Nat.le_trans (Nat.le_refl 30001) (Nat.le_mul_of_pos_right 30001 (Nat.succ_pos m)))) hF
    obtain ⟨s, hs, s1, s2⟩ := cs_k hc (show k < cs.length by omega)
    obtain ⟨n1, n2, n3, n4, n5, n6, n7, n8, n9, n10⟩ := at_num hc hs
    obtain ⟨g0, g1⟩ := itM_get s1 s2 he
    have key : ∀ (Xs : sL) (ρ : Nat → Nat), sok ρ BL → ρ 1 = atc cs k → ρ 2 = cs.length - k - 1 → ρ 3 = k → ρ 4 = i → slD ρ Xs = X → itM Xs e s.1 s.2 = true → G (drun dProg F 61 274 491 (mD X k (atc cs k) e i cs.length) [] u) := by
      intro Xs ρ hB p1 p2 p3 p4 hXs hit
      have he9 : 20000 ≤ F - 10001 := Nat.le_sub_of_add_le (Nat.le_trans (by decide) he8)
      have hS : sfit ρ opL (mS (s.1, []) (s.2, [])) u := AR_fit hA hw hs p3 rfl rfl
      have e0 : slD ρ (lM Xs (0, [3]) (0, [1]) (e, []) (1, [2, 3])) = mD X k (atc cs k) e i cs.length := by
        rw [mD_of, hXs]
        show mD X (0 + (ρ 3 + 0)) (0 + (ρ 1 + 0)) (e + 0) (0 + (ρ 4 + 0)) (1 + (ρ 2 + (ρ 3 + 0))) = _
        rw [show 0 + (ρ 3 + 0) = k by omega, show 0 + (ρ 1 + 0) = atc cs k by omega, show 0 + (ρ 4 + 0) = i by omega, show 1 + (ρ 2 + (ρ 3 + 0)) = cs.length by omega, Nat.add_zero]
      have e1 : slD ρ (lM (jN s.1 s.2) (1, [3]) (cCn s.1, [1]) (Nat.mul e (b2n (someB s.1 s.2)), []) (1, [2, 3])) = mD (slD ρ (jN s.1 s.2)) (k + 1) (atc cs (k + 1)) (e * b2n (someB s.1 s.2)) i cs.length := by
        rw [mD_of]
        show mD _ (1 + (ρ 3 + 0)) (cCn s.1 + (ρ 1 + 0)) (e * b2n (someB s.1 s.2) + 0) (0 + (ρ 4 + 0)) (1 + (ρ 2 + (ρ 3 + 0))) = _
        rw [show 1 + (ρ 3 + 0) = k + 1 by omega, show cCn s.1 + (ρ 1 + 0) = atc cs (k + 1) by rw [atc_succ hs]; omega, show 0 + (ρ 4 + 0) = i by omega, show 1 + (ρ 2 + (ρ 3 + 0)) = cs.length by omega]
        rfl
      have h := law_step (e := F - 10001) (Qs := fun _ => JS cs b) (mS_inr _ _) b491 hB (fun _ => okJS cs b) hit (fun j c hj => by
        match j, hj with
        | 0, hj => cases hj; exact tc_judge hc (r := 0) (by decide) hs p1 he9
        | 1, hj => cases hj; exact tc_judge hc (r := 1) (by decide) hs p1 he9
        | 2, hj => cases hj; exact tc_judge hc (r := 2) (by decide) hs p1 he9
        | 3, hj => cases hj; exact tc_judge hc (r := 3) (by decide) hs p1 he9
        | 4, hj => cases hj; exact tc_judge hc (r := 4) (by decide) hs p1 he9
        | 5, hj => cases hj; exact tc_judge hc (r := 5) (by decide) hs p1 he9
        | 6, hj => cases hj; exact tc_node hc hs p1
        | n + 7, hj => cases hj) hS hq (G := G) (fun f u2 hf h1 h2 h3 => by
        rw [e1]
        have hb9 := b2n_le (someB s.1 s.2)
        refine ih (k + 1) (f + (F - 10001)) u2 _ _ (by omega) (by omega) (fun h => by cases h) (jN_X ρ s2) ?_ ?_ (WS_tr hW h1) h2 (AR_WS h1 hA) h3 (by omega)
        · have : e * b2n (someB s.1 s.2) ≤ 1 * 1 := Nat.mul_le_mul he hb9
          omega
        · rw [he2, drop_of hs]
          show e * b2n (cond (someB s.1 s.2) (allB someB (cs.drop (k + 1))) false) = _
          cases someB s.1 s.2 with
          | true => show e * b2n (allB someB (cs.drop (k + 1))) = e * 1 * b2n (allB someB (cs.drop (k + 1))); rw [Nat.mul_one]
          | false => show e * 0 = e * 0 * b2n (allB someB (cs.drop (k + 1))); rw [Nat.mul_zero, Nat.zero_mul])
      rw [e0, show 10001 + (F - 10001) = F by omega] at h
      exact h
    rcases hX2 with rfl | ⟨x1, x2, x3, x4, x5, x6, hx, rfl⟩
    · exact key [] (rl [0, atc cs k, cs.length - k - 1, k, i, 0, 0, 0, 0, 0, 0]) (rl_ok (by omega) (by omega) (by omega) hi (by omega)) rfl rfl rfl rfl rfl g0
    · refine key jX (rl [0, atc cs k, cs.length - k - 1, k, i, x1, x2, x3, x4, x5, x6]) (rl_ok (by omega) (by omega) (by omega) hi hx) rfl rfl rfl rfl ?_ g1
      show [(16, Sum.inl (0 + (x1 + 0))), (15, Sum.inl (0 + (x2 + 0))), (14, Sum.inl (0 + (x3 + 0))), (13, Sum.inl (0 + (x4 + 0))), (12, Sum.inl (0 + (x5 + 0))), (11, Sum.inl (0 + (x6 + 0)))] = jD x1 x2 x3 x4 x5 x6
      simp only [Nat.add_zero, Nat.zero_add]
      rfl

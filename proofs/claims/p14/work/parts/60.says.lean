/-! ===== runs of says, taken together ===== -/
section U
variable {B : List (Nat × Nat)} {fx : Nat → sN → sN → Option sN} {stp : Nat → Nat → sL → sH → List sFr → Bool} {orc : Nat → List sV → Option (List (Option sV))} {ρ : Nat → Nat} {I : dH → Prop}
theorem allL_s {chk : sLf → Bool} {r : sR} (h : allL chk r = true) : ∃ lv, r = some lv ∧ ∀ x ∈ lv, chk x = true := by
  cases r with
  | none => cases h
  | some lv => exact ⟨lv, rfl, fun x hx => List.all_eq_true.mp h x hx⟩
theorem sAll_s {chk : Option sV → sH → Bool} {r : sR} (h : sAll r chk = true) : ∃ lv, r = some lv ∧ ∀ x ∈ lv, ∃ p, x = .inr p ∧ chk p.1 p.2 = true := by
  cases r with
  | none => cases h
  | some lv =>
    refine ⟨lv, rfl, fun x hx => ?_⟩
    have h2 := List.all_eq_true.mp h x hx
    cases x with
    | inl q => cases h2
    | inr p => exact ⟨p, rfl, h2⟩
theorem saysG {S : sH} {u : dH} {L0 : sL} {lv : List sLf} (W : sFor B fx kdf pgm pghm orc 2000 20 dProg ρ opM u I) (h : sexL B fx kdf pghm stp orc 2000 20 100000 10000 59 62 31 (31, 0) ((pghm 62 31).getD []) L0 [] S [] [] = some lv) (hS : sfit ρ opM S u) (hI : I u) (e : Nat) {G : dR → Prop} (k : ∀ x ∈ lv, leafOK pgm dProg ρ e opM u I G x) : G (drun dProg (10001 + e) 59 62 31 (slD ρ L0) [] u) := by
  cases hp : pghm 62 31 with
  | none =>
    have h9 := blk31
    rw [hp] at h9
    cases h9
  | some hl =>
    rw [hp] at h
    obtain ⟨is, g1, g2⟩ := pghm_ok 62 31 hl hp
    have hb : sblk pgm 62 (31, 0) = is := by
      unfold sblk
      rw [g1]; rfl
    have h : sexL B fx kdf pghm stp orc 2000 20 100000 10000 59 62 31 (31, 0) hl L0 [] S [] [] = some lv := h
    rw [g2] at h
    have hgo := sexL_goK W (b := (31, 0)) (is := is) (Or.inr hb) h e (G := G) k hS hI
    have e4 : drun dProg (10001 + e) 59 62 31 (slD ρ L0) [] u = dcomp 62 is 31 (drun dProg (10000 + e)) 59 (slD ρ L0) [] u := by
      rw [show 10001 + e = (10000 + e) + 1 by omega]
      show opt (dProg 62 31) (fun c => c (drun dProg (10000 + e)) 59 (slD ρ L0) [] u) = _
      rw [pgm_ok 62 31 is g1]; rfl
    rw [e4]
    exact hgo
end U
theorem end5_s {n : Nat} {S2 S : sH} {v : Option sV} (h : end5 n S2 v S = true) : v = some (.inl (n, [])) ∧ swk S S2 = true ∧ sqA S S2 = true := by
  unfold end5 at h
  simp only [Bool.and_eq_true] at h
  exact ⟨@of_decide_eq_true _ (dqO _ _) h.1, h.2.1, h.2.2⟩
theorem end7_s {n : Nat} {S2 S : sH} {v : Option sV} (h : end7 n S2 v S = true) : v = some (.inl (n, [])) ∧ swk S S2 = true ∧ sqA S S2 = true := by
  unfold end7 at h
  simp only [Bool.and_eq_true] at h
  exact ⟨@of_decide_eq_true _ (dqO _ _) h.1, h.2.1, h.2.2⟩
/-- says' locals at its head -/
def dLs (r a st : Nat) : dL := [(4, .inr (.inl st)), (3, .inl a), (0, .inr (.inr 109)), (1, .inl r), (2, .inl 0)]
theorem lS5_d (ρ : Nat → Nat) (a : Nat) (c : sN) : slD ρ (lS5 (a, []) c) = dLs 45 a (sden ρ c) := rfl
theorem lS7_d (ρ : Nat → Nat) (a : Nat) (c : sN) : slD ρ (lS7 (a, []) c) = dLs 47 a (sden ρ c) := rfl
theorem lSr_d (ρ : Nat → Nat) (r a : Nat) (c : sN) : slD ρ (lSr r a c) = dLs r a (sden ρ c) := rfl
/-- a leaf at says' head -/
theorem chk6_s {I : dH → Prop} {ρ : Nat → Nat} {u : dH} {G : dR → Prop} {e r a : Nat} {S2 : sH} {x : sLf} (h : chk6 r a S2 x = true) (k : ∀ (u2 : dH) (c f : Nat) (S9 : sH), c < 1000 → 5000 ≤ f → swk S9 S2 = true → sqA S9 S2 = true → ssat ρ opM u S9 u2 → I u2 → G (drun dProg (f + e) 59 62 31 (dLs r a (c + ρ 4)) [] u2)) : leafOK pgm dProg ρ e opM u I G x := by
  unfold chk6 at h
  split at h
  · rename_i f d y pc L st S9 K9
    simp only [Bool.and_eq_true] at h
    obtain ⟨q1, q2, q3, q4, q5, q6, ⟨q7, q9⟩, q8⟩ := h
    have q2 := Nat.eq_of_beq_eq_true q2
    have q3 := Nat.eq_of_beq_eq_true q3
    have q4 := Nat.eq_of_beq_eq_true q4
    have q5 : st = [] := List.isEmpty_iff.mp q5
    have q6 : K9 = [] := List.isEmpty_iff.mp q6
    subst q2 q3 q4 q5 q6
    split at q8
    · rename_i c a2 r2
      simp only [Bool.and_eq_true] at q8
      obtain ⟨g1, g2, g3⟩ := q8
      have g2 := Nat.eq_of_beq_eq_true g2
      have g3 := Nat.eq_of_beq_eq_true g3
      subst g2 g3
      exact fun u2 hS2 hI2 => k u2 c f S9 (di_blt.mp g1) (Nat.le_of_ble_eq_true q1) q7 q9 hS2 hI2
    · cases q8
  · cases h
/-- frames: the array's, and its group's -/
def frL (root grp entry : Nat) (spot times : sN) : List (sN × sN) := [((0, []), (3, [])), ((1, []), (root, [])), ((2, []), (0, [])), ((3, []), (0, [])), ((11, []), (4, [])), ((12, []), (grp, [])), ((13, []), (0, [])), ((14, []), (1, [])), ((15, []), (entry, [])), ((16, []), (0, [])), ((17, []), (0, [])), ((18, []), (grp, [])), ((19, []), spot), ((20, []), times), ((21, []), (0, []))]
def frN (root grp entry spot times : Nat) : List (Nat × Nat) := [(0, 3), (1, root), (2, 0), (3, 0), (11, 4), (12, grp), (13, 0), (14, 1), (15, entry), (16, 0), (17, 0), (18, grp), (19, spot), (20, times), (21, 0)]
def r2l : List (sN × sN) := o108 [((7, []), (2, []))]
def n2l : List (Nat × Nat) := [(0, 44), (1, 53), (2, 67), (3, 94), (4, 107), (5, 110), (6, 115), (7, 2), (13, 116), (15, 117), (16, 118)]
theorem r2_d (ρ : Nat → Nat) : den ρ r2l = n2l := rfl
theorem frL_d (ρ : Nat → Nat) (root grp entry : Nat) (a b : sN) : den ρ (frL root grp entry a b) = frN root grp entry (sden ρ a) (sden ρ b) := rfl
theorem ovP_sub {u : dH} {a : Nat} {l l2 : List (Nat × Nat)} (h : ovP u a l) (hn : (l2.map (·.1)).Nodup) (hs : ∀ e ∈ l2, e ∈ l) : ovP u a l2 := ⟨hn, fun e he => h.2 e (hs e he)⟩
theorem oj_rest {ρ : Nat → Nat} {u : dH} {r r2 fr fr2 a95 a105 a100 a96 : List (sN × sN)} {top : sN} (h : ovF ρ u (oj r fr a95 top a105 a100 a96)) : ∀ a O, (a, O) ∈ oj r2 fr2 a95 top a105 a100 a96 → kpx a = false → ovP u a (den ρ O) := by
  intro a O hm hk
  obtain ⟨-, k1, k2, -⟩ := kpx_f hk
  refine h a O ?_
  simp only [oj, List.mem_cons, Prod.mk.injEq] at hm ⊢
  rcases hm with ⟨rfl, -⟩ | ⟨rfl, -⟩ | hm
  · exact absurd rfl k1
  · exact absurd rfl k2
  · exact Or.inr (Or.inr hm)
theorem ovP_nil (u : dH) (a : Nat) : ovP u a [] := ⟨List.nodup_nil, fun e he => absurd he List.not_mem_nil⟩
/-- from one known state to the next: what a run leaves -/
theorem J_next {cs : List (Nat × Nat)} {ρ : Nat → Nat} {u u2 : dH} {S2 S9 : sH} {r r2 fr fr2 a95 a105 a100 a96 : List (sN × sN)} {top : sN} (hJ : JJ u) (hR : RS cs u) (h1 : ovF ρ u (oj r fr a95 top a105 a100 a96)) (hc : chkT S2 tj = true) (ho : ovs S2 = oj r2 fr2 a95 top a105 a100 a96) (h9 : ssat ρ opM u S9 u2) (hk : swk S9 S2 = true) (hq : sqA S9 S2 = true) (hs : (n108.all fun e => r2.any fun q => Nat.beq q.1.1 e.1.1 && (q.1.2 == e.1.2 && (Nat.beq q.2.1 e.2.1 && q.2.2 == e.2.2))) = true) : JJ u2 ∧ RS cs u2 ∧ KP u u2 ∧ ovP u2 108 (den ρ r2) ∧ ovP u2 114 (den ρ fr2) := by
  have hT := TJ_sfit hc (sfit_of h9 hk)
  rw [ho] at hT
  obtain ⟨t1, t2⟩ := hT
  obtain ⟨g1, g2, g3⟩ := oj_get t2
  have hKP : KP u u2 := KP_of hJ.1 hc (by rw [ho]; exact oj_rest h1) h9 hk hq
  exact ⟨JJ_keep hJ hKP t1 g3 (o108_drop g1 hs), RS_keep hKP hR, hKP, g1, g2⟩
theorem RS_cell {cs : List (Nat × Nat)} {u : dH} (hR : RS cs u) {k : Nat} {s : Nat × Nat} (hs : cs[k]? = some s) : CF 0 u (atc cs k) s.1 s.2 := PF_get 1 k s hR.1 hs

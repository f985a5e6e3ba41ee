/-! ===== a run whose calls of some methods are known by what they make of the heap ===== -/
def dqL : DecidableEq sL := fun a b => @instDecidableEqList (Nat × sV) (fun c d => @instDecidableEqProd Nat sV inferInstance dqV c d) a b
def fr (Ks : Nat → Bool) (u0 u : dH) : Prop := u.1 = u0.1 ∧ u.2.1 = u0.2.1 ∧ ∀ a, Ks a = false → hat u a = hat u0 a
theorem fr_rfl (Ks : Nat → Bool) (u : dH) : fr Ks u u := ⟨rfl, rfl, fun _ _ => rfl⟩
theorem fr_tr {Ks : Nat → Bool} {u0 u u2 : dH} (h : fr Ks u0 u) (h2 : fr Ks u u2) : fr Ks u0 u2 := ⟨h2.1.trans h.1, h2.2.1.trans h.2.1, fun a ha => (h2.2.2 a ha).trans (h.2.2 a ha)⟩
theorem fr_of {ρ : Nat → Nat} {Op Ks : Nat → Bool} {g : dH} {S : sH} {u : dH} (hO : ∀ a, Op a = true → Ks a = true) (hk : (S.all fun e => Ks e.1) = true) (h : ssat ρ Op g S u) : fr Ks g u := by
  obtain ⟨-, h2, h3, -, -, h6, -⟩ := h
  refine ⟨h2, h3, fun a ha => h6 a ?_ fun e he w => ?_⟩
  · cases ho : Op a with
    | false => rfl
    | true => rw [hO a ho] at ha; cases ha
  · have := List.all_eq_true.mp hk e he
    rw [w, ha] at this
    cases this
theorem kn_keep {ρ : Nat → Nat} {Op : Nat → Bool} {g u : dH} {S : sH} {a kd n ct : Nat} (h : ssat ρ Op g S u) (ho : Op a = false) (hg : hat g a = some (kd, n, ct)) : ∃ ct2, hat u a = some (kd, n, ct2) := by
  obtain ⟨-, -, -, -, -, h6, h7⟩ := h
  by_cases e : ∃ q ∈ S, q.1 = a
  · obtain ⟨⟨a', kd', n', X⟩, hq, rfl⟩ := e
    obtain ⟨c0, c1, g1, g2, -⟩ := h7 _ _ _ _ hq
    rw [hg] at g1
    cases g1
    exact ⟨_, g2⟩
  · exact ⟨ct, (h6 a ho (fun q hq w => e ⟨q, hq, w⟩)).trans hg⟩
/-- a call: how deep, of what, its locals, the heap before; its answer, the heap behind -/
abbrev tCall : Type := Nat × Nat × sL × sH × Option sV × sH
section U
variable {B : List (Nat × Nat)} {fx : Nat → sN → sN → Option sN} {kdo : Nat → Option Nat} {pg : Nat → Nat → Option (List dI)} {pgh : Nat → Nat → Option (List sHi)} {stp : Nat → Nat → List sFr → Bool} {orc : Nat → List sV → Option (List (Option sV))} {F0 D0 : Nat} {P : Nat → Nat → Option dCode} {ρ : Nat → Nat} {Op : Nat → Bool} {I : dH → Prop}
def sqOn (l : List Nat) : sH → sH → Bool
  | [], [] => true
  | e2 :: t2, e :: t => (cond (l.contains e.1) (@decide (e2.2.2.2 = e.2.2.2) (dqX _ _)) true) && sqOn l t2 t
  | _, _ => false
theorem sqOn_mem {l : List Nat} {S2 S : sH} (hk : swk S2 S = true) (h : sqOn l S2 S = true) {a kd n : Nat} {X : sX} (hm : (a, kd, n, X) ∈ S) (ha : l.contains a = true) : (a, kd, n, X) ∈ S2 := by
  induction S2 generalizing S with
  | nil => cases S with
    | nil => cases hm
    | cons e t => cases hk
  | cons e2 t2 ih => cases S with
    | nil => cases hk
    | cons e t =>
      simp only [swk, Bool.and_eq_true] at hk
      simp only [sqOn, Bool.and_eq_true] at h
      obtain ⟨h1, h2, h3, h4, h5⟩ := hk
      obtain ⟨q1, q2⟩ := h
      rcases List.mem_cons.mp hm with hm | hm
      · subst hm
        rw [ha] at q1
        have q3 := @of_decide_eq_true _ (dqX e2.2.2.2 X) q1
        obtain ⟨a2, kd2, n2, X2⟩ := e2
        have e1 := Nat.eq_of_beq_eq_true h1
        have e2 := Nat.eq_of_beq_eq_true h2
        have e3 := Nat.eq_of_beq_eq_true h3
        dsimp only at e1 e2 e3 q3
        subst e1 e2 e3 q3
        exact List.mem_cons_self
      · exact List.mem_cons_of_mem _ (ih h5 q2 hm)
/-- the end of a run -/
def tEnd (Ks : Nat → Bool) (lX : List Nat) (v : Option sV) (S : sH) (v2 : Option sV) (S2 : sH) : Bool := @decide (v2 = v) (dqO v2 v) && (swk S2 S && (sqOn lX S2 S && S2.all fun e => Ks e.1))
noncomputable def topc (Ks KQ : Nat → Bool) (lX : List Nat) (F : Nat) (run : sH → List sFr → Option sV → sR) (v : Option sV) (S : sH) : List tCall → sR → Bool
  | [], r => sAll r (tEnd Ks lX v S)
  | c :: t, r => match r with
    | some [.inl (f, d, y, pc, L, st, S2, K)] => Nat.ble F f && (Nat.beq d c.1 && (Nat.beq y c.2.1 && (Nat.beq pc 0 && (@decide (L = c.2.2.1) (dqL L c.2.2.1) && (st.isEmpty && (swk S2 c.2.2.2.1 && ((S2.all fun e => Ks e.1 && !KQ e.1) && topc Ks KQ lX F run v S t (run c.2.2.2.2.2 K c.2.2.2.2.1))))))))
    | _ => false
/-- what a call is known to do -/
def tOKc (P : Nat → Nat → Option dCode) (ρ : Nat → Nat) (Op Ks : Nat → Bool) (I : dH → Prop) (u0 : dH) (F e : Nat) (Q Q2 : dH → Prop) (c : tCall) : Prop := ∀ f u, F ≤ f → sfit ρ Op c.2.2.2.1 u → I u → fr Ks u0 u → Q u → ∃ u2, drun P (f + e) c.1 c.2.1 0 (slD ρ c.2.2.1) [] u = some (c.2.2.2.2.1.map (svd ρ), u2) ∧ sfit ρ Op c.2.2.2.2.2 u2 ∧ I u2 ∧ fr Ks u0 u2 ∧ Q2 u2
/-- what a run comes to -/
def tFin (ρ : Nat → Nat) (Op Ks : Nat → Bool) (lX : List Nat) (I : dH → Prop) (u0 : dH) (Q : dH → Prop) (v : Option sV) (S : sH) (z : dR) : Prop := ∃ u2 g2, z = some (v.map (svd ρ), u2) ∧ sfit ρ Op S u2 ∧ I u2 ∧ fr Ks u0 u2 ∧ Q g2 ∧ ∀ a kd n X, (a, kd, n, X) ∈ S → lX.contains a = true → ∃ ct0 ct, hat g2 a = some (kd, n, ct0) ∧ hat u2 a = some (kd, n, ct) ∧ sct ρ (kw kd) ct0 X ct
theorem topc_ok {Ks KQ : Nat → Bool} {lX : List Nat} {u0 : dH} {F N e : Nat} {v : Option sV} {S : sH} {Qs : Nat → dH → Prop} {kE : Nat} (hO : ∀ a, Op a = true → Ks a = true ∧ KQ a = false) (hQ : ∀ k g u, k < kE → Qs k g → (∀ a, KQ a = true → hat u a = hat g a) → (∀ a kd n ct, Op a = false → hat g a = some (kd, n, ct) → ∃ ct2, hat u a = some (kd, n, ct2)) → Qs k u) (W : ∀ k g, hwf g → fr Ks u0 g → I g → Qs k g → sFor B fx kdo pg pgh orc F0 D0 P ρ Op g I) (cs : List tCall) :
    ∀ (k : Nat) (r : sR) (g : dH) (Z : (dR → Prop) → Prop), k + cs.length = kE → (∀ i c, cs[i]? = some c → tOKc P ρ Op Ks I u0 F e (Qs (k + i)) (Qs (k + i + 1)) c) → topc Ks KQ lX F (fun S K v => sret pgh (sex B fx kdo pgh stp orc F0 D0 N) S K [] v) v S cs r = true → fr Ks u0 g → Qs k g → (∀ lv, r = some lv → ∀ G, (∀ x ∈ lv, leafOK pg P ρ e Op g I G x) → Z G) → Z (tFin ρ Op Ks lX I u0 (Qs kE) v S) := by
  induction cs with
  | nil =>
    intro k r g Z hk _ h hg hq hZ
    have hk : k = kE := hk
    have h : sAll r (tEnd Ks lX v S) = true := h
    cases hr : r with
    | none => rw [hr] at h; cases h
    | some lv =>
      refine hZ lv hr _ fun x hx => ?_
      rw [hr] at h
      have h2 := List.all_eq_true.mp h x hx
      match x, h2 with
      | .inr p, h2 =>
        have h2 : tEnd Ks lX v S p.1 p.2 = true := h2
        unfold tEnd at h2
        simp only [Bool.and_eq_true] at h2
        obtain ⟨e1, e2, e4, e3⟩ := h2
        have e1 := @of_decide_eq_true _ (dqO p.1 v) e1
        intro u hS hI
        exact ⟨u, g, by rw [e1], sfit_of hS e2, hI, fr_tr hg (fr_of (fun a h => (hO a h).1) e3 hS), hk ▸ hq, fun a kd n X hm ha => hS.2.2.2.2.2.2 a kd n X (sqOn_mem e2 e4 hm ha)⟩
  | cons c t ih =>
    intro k r g Z hk hc h hg hq hZ
    unfold topc at h
    split at h
    · rename_i f d y pc L st S2 K
      simp only [Bool.and_eq_true] at h
      obtain ⟨h1, h2, h3, h4, h5, h6, h7, h8, h9⟩ := h
      have h2 := Nat.eq_of_beq_eq_true h2
      have h3 := Nat.eq_of_beq_eq_true h3
      have h4 := Nat.eq_of_beq_eq_true h4
      have h5 := @of_decide_eq_true _ (dqL L c.2.2.1) h5
      have h6 : st = [] := List.isEmpty_iff.mp h6
      subst h2 h3 h4 h5 h6
      refine hZ _ rfl _ fun x hx => ?_
      rw [List.mem_singleton.mp hx]
      intro u hS hI
      have h81 : (S2.all fun e => Ks e.1) = true := List.all_eq_true.mpr fun q hq => by
        have h82 := List.all_eq_true.mp h8 q hq
        simp only [Bool.and_eq_true] at h82
        exact h82.1
      have hu := fr_tr hg (fr_of (fun a h => (hO a h).1) h81 hS)
      have hqu : Qs k u := by
        refine hQ k g u (by rw [← hk, List.length_cons]; omega) hq (fun a ha => hS.2.2.2.2.2.1 a ?_ fun q hq w => ?_) (fun a kd n ct ho ha => kn_keep hS ho ha)
        · cases ho : Op a with
          | false => rfl
          | true => rw [(hO a ho).2] at ha; cases ha
        · have h82 := List.all_eq_true.mp h8 q hq
          simp only [Bool.and_eq_true] at h82
          rw [w, ha] at h82
          exact absurd h82.2 (by decide)
      obtain ⟨u2, q1, q2, q3, q4, q5⟩ := hc 0 c rfl f u (Nat.le_of_ble_eq_true h1) (sfit_of hS h7) hI hu hqu
      show kGoal _ _ (drun P (f + e) c.1 c.2.1 0 (slD ρ c.2.2.1) [] u)
      rw [q1]
      refine ih (k + 1) _ u2 (fun G => kGoal G (K.map (kden pg P ρ e)) (some (c.2.2.2.2.1.map (svd ρ), u2))) (by rw [← hk, List.length_cons]; omega) (fun i c2 h => ?_) h9 q4 q5
        (fun lv hlv G hG => sback_go (W (k + 1) u2 q2.1 q4 q3 q5) hlv e hG q2 q3)
      have := hc (i + 1) c2 h
      rw [show k + (i + 1) = k + 1 + i by omega] at this
      exact this
    · cases h
/-- a method that is run whole -/
theorem tOK_run {Ks : Nat → Bool} {u0 : dH} {f d y N F e : Nat} {L : sL} {S S2 : sH} {v : Option sV} {Q : dH → Prop} (hO : ∀ a, Op a = true → Ks a = true) (W : ∀ g, hwf g → fr Ks u0 g → I g → sFor B fx kdo pg pgh orc F0 D0 P ρ Op g I) (hF : f ≤ F) (h : sAll (sex B fx kdo pgh stp orc F0 D0 N f d y 0 (0, 0) [] L [] S [] []) (tEnd Ks [] v S2) = true) : tOKc P ρ Op Ks I u0 F e Q (fun _ => True) (d, y, L, S, v, S2) := by
  intro f2 u h1 h2 h3 h4 _
  obtain ⟨v9, S9, u2, e1, e2, e3, e4⟩ := sex_all (W u h2.1 h4 h3) h (f2 - f + e) h2 h3
  unfold tEnd at e1
  simp only [Bool.and_eq_true] at e1
  obtain ⟨q1, q2, -, q3⟩ := e1
  have q1 := @of_decide_eq_true _ (dqO v9 v) q1
  subst q1
  refine ⟨u2, ?_, sfit_of e3 q2, e4, fr_tr h4 (fr_of hO q3 e3), trivial⟩
  have h1 : F ≤ f2 := h1
  rw [show f2 + e = f + (f2 - f + e) by omega]
  exact e2
/-- a method whose calls are known -/
theorem top_go {Ks KQ : Nat → Bool} {lX : List Nat} {u0 : dH} {f d y N F e : Nat} {L : sL} {S S2 : sH} {v : Option sV} {cs : List tCall} {Qs : Nat → dH → Prop} (hO : ∀ a, Op a = true → Ks a = true ∧ KQ a = false) (hQ : ∀ k g u, k < cs.length → Qs k g → (∀ a, KQ a = true → hat u a = hat g a) → (∀ a kd n ct, Op a = false → hat g a = some (kd, n, ct) → ∃ ct2, hat u a = some (kd, n, ct2)) → Qs k u) (W : ∀ k g, hwf g → fr Ks u0 g → I g → Qs k g → sFor B fx kdo pg pgh orc F0 D0 P ρ Op g I) (hc : ∀ i c, cs[i]? = some c → tOKc P ρ Op Ks I u0 F e (Qs i) (Qs (i + 1)) c)
    (h : topc Ks KQ lX F (fun S K v => sret pgh (sex B fx kdo pgh stp orc F0 D0 N) S K [] v) v S2 cs (sex B fx kdo pgh stp orc F0 D0 N f d y 0 (0, 0) [] L [] S [] []) = true) (hS : sfit ρ Op S u0) (hI : I u0) (hq : Qs 0 u0) : tFin ρ Op Ks lX I u0 (Qs cs.length) v S2 (drun P (f + e) d y 0 (slD ρ L) [] u0) :=
  topc_ok (e := e) hO hQ W cs 0 _ u0 (fun G => G (drun P (f + e) d y 0 (slD ρ L) [] u0)) (Nat.zero_add _) (fun i c h => by rw [Nat.zero_add]; exact hc i c h) h (fr_rfl Ks u0) hq (fun lv hlv G hG => sex_jmp (W 0 u0 hS.1 (fr_rfl Ks u0) hI hq) hlv e hG hS hI)
end U

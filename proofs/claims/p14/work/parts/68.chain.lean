/-! ===== runs whose calls are known one by one ===== -/
/-- a call: how deep, of what, with what; its answer -/
abbrev tC : Type := Nat × Nat × sL × Option sV
def lfS (x : sLf) : sH := match x with
  | .inl (_, _, _, _, _, _, S, _) => S
  | .inr (_, S) => S
noncomputable def chn (F : Nat) (S0 : sH) (chk : sLf → Bool) (run : sH → List sFr → Option sV → sR) : List tC → sR → Bool
  | [], r => allL (fun x => chk x && @decide (lfS x = S0) (dqH _ _)) r
  | c :: t, r => match r with
    | some [.inl (f, d, y, pc, L, st, S, K)] => Nat.ble F f && (Nat.beq d c.1 && (Nat.beq y c.2.1 && (Nat.beq pc 0 && (@decide (L = c.2.2.1) (dqL L c.2.2.1) && (st.isEmpty && (@decide (S = S0) (dqH _ _) && chn F S0 chk run t (run S K c.2.2.2)))))))
    | _ => false
/-- a state that the cells of Op alone decide -/
def opOnly (Op : Nat → Bool) (Q : dH → Prop) : Prop := ∀ u u2 : dH, (∀ a, Op a = true → hat u2 a = hat u a) → hwf u2 → Q u → Q u2
/-- the cells apart from Op hold the same words -/
def WS (Op : Nat → Bool) (u u2 : dH) : Prop := u2.1 = u.1 ∧ u2.2.1 = u.2.1 ∧ ∀ a kd n ct, Op a = false → hat u a = some (kd, n, ct) → ∃ ct2, hat u2 a = some (kd, n, ct2) ∧ ∀ j, wd (kw kd) ct2 j = wd (kw kd) ct j
theorem WS_rfl (Op : Nat → Bool) (u : dH) : WS Op u u := ⟨rfl, rfl, fun _ _ _ ct _ h => ⟨ct, h, fun _ => rfl⟩⟩
theorem WS_tr {Op : Nat → Bool} {u u2 u3 : dH} (h : WS Op u u2) (h2 : WS Op u2 u3) : WS Op u u3 := ⟨h2.1.trans h.1, h2.2.1.trans h.2.1, fun a kd n ct ho hc => by
  obtain ⟨c1, g1, g2⟩ := h.2.2 a kd n ct ho hc
  obtain ⟨c2, g3, g4⟩ := h2.2.2 a kd n c1 ho g1
  exact ⟨c2, g3, fun j => (g4 j).trans (g2 j)⟩⟩
theorem WS_of {Op : Nat → Bool} {u u2 : dH} (e1 : u2.1 = u.1) (e2 : u2.2.1 = u.2.1) (h : ∀ a, Op a = false → hat u2 a = hat u a) : WS Op u u2 := ⟨e1, e2, fun a kd n ct ho hc => ⟨ct, (h a ho).trans hc, fun _ => rfl⟩⟩
theorem WS_sat {ρ : Nat → Nat} {Op : Nat → Bool} {S : sH} {g u : dH} (hS : sfit ρ Op S g) (h : ssat ρ Op g S u) : WS Op g u := by
  refine ⟨h.2.1, h.2.2.1, fun a kd n ct ho hc => ?_⟩
  by_cases hin : ∃ q ∈ S, q.1 = a
  · obtain ⟨⟨qa, qk, qn, qX⟩, hq, rfl⟩ := hin
    obtain ⟨ct0, ct1, y1, y2, y3⟩ := h.2.2.2.2.2.2 _ _ _ _ hq
    obtain ⟨ct9, z1, z2⟩ := sfit_cell hS hq
    dsimp only at hc
    rw [hc] at y1 z1
    cases y1
    cases z1
    refine ⟨ct1, y2, fun j => ?_⟩
    cases qX with
    | inl c =>
      have e1 : ct1 = c := y3
      have e2 : ct = c := z2
      rw [e1, e2]
    | inr O =>
      by_cases hj : ∃ e9 ∈ O, sden ρ e9.1 = j
      · obtain ⟨e9, he9, rfl⟩ := hj
        exact (y3.2.1 e9 he9).trans (z2.2.1 e9 he9).symm
      · exact y3.2.2 j fun e9 he9 w => hj ⟨e9, he9, w⟩
  · exact ⟨ct, (h.2.2.2.2.2.1 a ho fun q hq w => hin ⟨q, hq, w⟩).trans hc, fun _ => rfl⟩
def allInr (S : sH) : Bool := S.all fun e => match e.2.2.2 with
  | .inr _ => true
  | .inl _ => false
theorem sfit_WS {ρ : Nat → Nat} {Op : Nat → Bool} {S : sH} {g u : dH} (hS : sfit ρ Op S g) (hi : allInr S = true) (h : WS Op g u) (hw : hwf u) : sfit ρ Op S u := by
  refine sfit_mk hw hS.2.2.2.1 hS.2.2.2.2.1 fun a kd n X hm => ?_
  obtain ⟨ct, z1, z2⟩ := sfit_cell hS hm
  obtain ⟨ct2, g1, g2⟩ := h.2.2 a kd n ct (hS.2.2.2.2.1 _ hm) z1
  refine ⟨ct2, g1, ?_⟩
  have h9 := List.all_eq_true.mp hi _ hm
  cases X with
  | inl c => cases h9
  | inr O => exact ⟨z2.1, fun e he => (g2 _).trans (z2.2.1 e he), fun _ _ => rfl⟩
section U
variable {B : List (Nat × Nat)} {fx : Nat → sN → sN → Option sN} {kdo : Nat → Option Nat} {orc : Nat → List sV → Option (List (Option sV))} {F0 D0 : Nat} {ρ : Nat → Nat} {Op : Nat → Bool}
def tcOK (ρ : Nat → Nat) (Op : Nat → Bool) (F e : Nat) (Q Q2 : dH → Prop) (c : tC) : Prop := ∀ f u, F ≤ f → hwf u → Q u → ∃ u2, drun dProg (f + e) c.1 c.2.1 0 (slD ρ c.2.2.1) [] u = some (c.2.2.2.map (svd ρ), u2) ∧ Q2 u2 ∧ hwf u2 ∧ u2.1 = u.1 ∧ u2.2.1 = u.2.1 ∧ ∀ a, Op a = false → hat u2 a = hat u a
def finOK (ρ : Nat → Nat) (Op : Nat → Bool) (e : Nat) (g : dH) (G : dR → Prop) (Q : dH → Prop) (x : sLf) : Prop := match x with
  | .inl (f, d, y, pc, L, st, _, K) => ∀ u, WS Op g u → hwf u → Q u → kGoal G (K.map (kden pgm dProg ρ e)) (drun dProg (f + e) d y pc (slD ρ L) (st.map (svd ρ)) u)
  | .inr (v, _) => ∀ u, WS Op g u → hwf u → Q u → G (some (v.map (svd ρ), u))
theorem finOK_tr {e : Nat} {g g2 : dH} {G : dR → Prop} {Q : dH → Prop} {x : sLf} (h : WS Op g g2) (hx : finOK ρ Op e g G Q x) : finOK ρ Op e g2 G Q x := by
  match x, hx with
  | .inl (f, d, y, pc, L, st, S, K), hx => exact fun u h1 h2 h3 => hx u (WS_tr h h1) h2 h3
  | .inr (v, S), hx => exact fun u h1 h2 h3 => hx u (WS_tr h h1) h2 h3
theorem chn_ok {stp : Nat → Nat → sL → sH → List sFr → Bool} {F N e : Nat} {S0 : sH} {chk : sLf → Bool} {Qs : Nat → dH → Prop} (hi : allInr S0 = true) (W : ∀ k g, hwf g → Qs k g → sFor B fx kdo pgm pghm orc F0 D0 dProg ρ Op g (Qs k)) (cs : List tC) :
    ∀ (k : Nat) (r : sR) (g : dH) (Z : (dR → Prop) → Prop), (∀ i c, cs[i]? = some c → tcOK ρ Op F e (Qs (k + i)) (Qs (k + i + 1)) c) → chn F S0 chk (fun S K v => sretL pghm (sexL B fx kdo pghm stp orc F0 D0 N) S K [] v) cs r = true → sfit ρ Op S0 g → Qs k g → (∀ lv, r = some lv → ∀ G, (∀ x ∈ lv, leafOK pgm dProg ρ e Op g (Qs k) G x) → Z G) → ∀ G : dR → Prop, (∀ x, chk x = true → finOK ρ Op e g G (Qs (k + cs.length)) x) → Z G := by
  induction cs with
  | nil =>
    intro k r g Z _ h hS hq hZ G hG
    obtain ⟨lv, l1, l2⟩ := allL_s h
    refine hZ lv l1 G fun x hx => ?_
    have h2 := l2 x hx
    simp only [Bool.and_eq_true] at h2
    obtain ⟨h3, h4⟩ := h2
    have h4 := @of_decide_eq_true _ (dqH _ _) h4
    have h5 := hG x h3
    match x, h4, h5 with
    | .inl (f, d, y, pc, L, st, S, K), h4, h5 =>
      have h4 : S = S0 := h4
      subst h4
      exact fun u hu hI => h5 u (WS_sat hS hu) hu.1 hI
    | .inr (v, S), h4, h5 =>
      have h4 : S = S0 := h4
      subst h4
      exact fun u hu hI => h5 u (WS_sat hS hu) hu.1 hI
  | cons c t ih =>
    intro k r g Z hc h hS hq hZ G hG
    unfold chn at h
    split at h
    · rename_i f d y pc L st S K
      simp only [Bool.and_eq_true] at h
      obtain ⟨h1, h2, h3, h4, h5, h6, h7, h8⟩ := h
      have h2 := Nat.eq_of_beq_eq_true h2
      have h3 := Nat.eq_of_beq_eq_true h3
      have h4 := Nat.eq_of_beq_eq_true h4
      have h5 := @of_decide_eq_true _ (dqL L c.2.2.1) h5
      have h6 : st = [] := List.isEmpty_iff.mp h6
      have h7 := @of_decide_eq_true _ (dqH _ _) h7
      subst h2 h3 h4 h5 h6 h7
      refine hZ _ rfl _ fun x hx => ?_
      rw [List.mem_singleton.mp hx]
      intro u hu hI
      have hW1 := WS_sat hS hu
      obtain ⟨u2, q1, q2, q3, q4, q5, q6⟩ := hc 0 c rfl f u (Nat.le_of_ble_eq_true h1) hu.1 hI
      show kGoal G (K.map (kden pgm dProg ρ e)) (drun dProg (f + e) c.1 c.2.1 0 (slD ρ c.2.2.1) [] u)
      rw [q1]
      have hW2 : WS Op g u2 := WS_tr hW1 (WS_of q4 q5 q6)
      have hS2 := sfit_WS hS hi hW2 q3
      refine ih (k + 1) _ u2 (fun G => kGoal G (K.map (kden pgm dProg ρ e)) (some (c.2.2.2.map (svd ρ), u2))) (fun i c2 h => ?_) h8 hS2 q2 (fun lv hlv G hG => sbackL_go (W (k + 1) u2 q3 q2) hlv e hG hS2 q2) G fun x hx => ?_
      · have := hc (i + 1) c2 h
        rw [show k + (i + 1) = k + 1 + i by omega] at this
        exact this
      · have := hG x hx
        rw [List.length_cons, show k + (t.length + 1) = k + 1 + t.length by omega] at this
        exact finOK_tr hW2 this
    · cases h
end U

/-! ===== grammar(): what it comes to ===== -/
theorem kd_sfit {ρ : Nat → Nat} {Op : Nat → Bool} {S : sH} {u : dH} {l : List (Nat × Nat)} (hl : (l.all fun e => S.any fun q => Nat.beq q.1 e.1 && Nat.beq q.2.1 e.2) = true) (h : sfit ρ Op S u) : kdG l u := by
  intro e he
  have h1 := List.all_eq_true.mp hl e he
  obtain ⟨q, hq, h2⟩ := List.any_eq_true.mp h1
  simp only [Bool.and_eq_true] at h2
  obtain ⟨qa, qk, qn, qX⟩ := q
  have e1 : qa = e.1 := Nat.eq_of_beq_eq_true h2.1
  have e2 : qk = e.2 := Nat.eq_of_beq_eq_true h2.2
  obtain ⟨ct, h3, -⟩ := sfit_cell h hq
  exact ⟨qn, ct, by rw [← e1, ← e2]; exact h3⟩
def sUp (a : Nat) (c : sC) : sH → sH → Bool
  | [], [] => true
  | e :: t, e2 :: t2 => (cond (Nat.beq e.1 a) (@decide (e2 = (a, c)) (dqE _ _)) (@decide (e2 = e) (dqE _ _))) && sUp a c t t2
  | _, _ => false
theorem sUp_keys {a : Nat} {c : sC} {S S2 : sH} (h : sUp a c S S2 = true) : S2.map (·.1) = S.map (·.1) := by
  induction S generalizing S2 with
  | nil => cases S2 with
    | nil => rfl
    | cons e t => cases h
  | cons e t ih => cases S2 with
    | nil => cases h
    | cons e2 t2 =>
      simp only [sUp, Bool.and_eq_true] at h
      rw [List.map_cons, List.map_cons, ih h.2]
      congr 1
      cases hb : Nat.beq e.1 a with
      | true =>
        rw [hb] at h
        have h1 := @of_decide_eq_true _ (dqE _ _) h.1
        rw [h1]
        exact (Nat.eq_of_beq_eq_true hb).symm
      | false =>
        rw [hb] at h
        have h1 := @of_decide_eq_true _ (dqE _ _) h.1
        rw [h1]
theorem sUp_mem {a : Nat} {c : sC} {S S2 : sH} (h : sUp a c S S2 = true) {q : Nat × sC} (hq : q ∈ S2) : q = (a, c) ∨ (q ∈ S ∧ q.1 ≠ a) := by
  induction S generalizing S2 with
  | nil => cases S2 with
    | nil => cases hq
    | cons e t => cases h
  | cons e t ih => cases S2 with
    | nil => cases h
    | cons e2 t2 =>
      simp only [sUp, Bool.and_eq_true] at h
      rcases List.mem_cons.mp hq with h9 | hq
      · subst h9
        cases hb : Nat.beq e.1 a with
        | true =>
          rw [hb] at h
          exact Or.inl (@of_decide_eq_true _ (dqE _ _) h.1)
        | false =>
          rw [hb] at h
          have h1 := @of_decide_eq_true _ (dqE _ _) h.1
          rw [h1]
          refine Or.inr ⟨List.mem_cons_self, fun w => ?_⟩
          rw [w, Nat.beq_refl] at hb
          cases hb
      · rcases ih h.2 hq with h9 | ⟨h8, h9⟩
        · exact Or.inl h9
        · exact Or.inr ⟨List.mem_cons_of_mem _ h8, h9⟩
theorem sfit_up {ρ : Nat → Nat} {Op : Nat → Bool} {S S2 : sH} {u u2 : dH} {a kd n ct : Nat} (hu : sUp a (kd, n, .inl ct) S S2 = true) (h : sfit ρ Op S u) (hw : hwf u2) (ho : ∀ k, k ≠ a → hat u2 k = hat u k) (ha : hat u2 a = some (kd, n, ct)) (hO : Op a = false) : sfit ρ Op S2 u2 := by
  refine sfit_mk hw (by rw [sUp_keys hu]; exact h.2.2.2.1) (fun e he => ?_) fun q kd2 n2 X hm => ?_
  · rcases sUp_mem hu he with h9 | ⟨h8, -⟩
    · rw [h9]; exact hO
    · exact h.2.2.2.2.1 e h8
  · rcases sUp_mem hu hm with h9 | ⟨h8, h9⟩
    · cases h9
      exact ⟨ct, ha, rfl⟩
    · obtain ⟨c1, h1, h2⟩ := sfit_cell h h8
      exact ⟨c1, (ho q h9).trans h1, h2⟩
def r0 (_ : Nat) : Nat := 0
theorem r0_ok : sok r0 BG := by
  intro v lo hi h
  match v, h with
  | 0, h => cases h; exact ⟨Nat.le_refl _, Nat.le_refl _⟩
  | n + 1, h => cases h
theorem WG_of {g : dH} (hk : kdG kdg g) : sFor BG fx0 kdgf pgm pghm orc0 2000 20 dProg r0 opN g IT :=
  ⟨r0_ok, fun _ _ _ _ h => (nomatch (show (none : Option sN) = some _ from h)), pgm_ok, pghm_ok, fun _ _ _ _ _ => trivial, fun a kd h S u hS _ => kd_keep hS rfl (hk _ (dalk_mem h)), fun _ _ _ h => (nomatch (show (none : Option (List (Option sV))) = some _ from h))⟩
def gQ (_ : Nat) (u : dH) : Prop := kdG kdg u
theorem gQ_keep (k : Nat) (g u : dH) (h : gQ k g) (hn : ∀ a kd n ct, opN a = false → hat g a = some (kd, n, ct) → ∃ ct2, hat u a = some (kd, n, ct2)) : gQ k u := by
  intro q hq
  obtain ⟨n, ct, h1⟩ := h q hq
  obtain ⟨ct2, h2⟩ := hn _ _ _ _ rfl h1
  exact ⟨n, ct2, h2⟩
def kdS (S : sH) : Bool := kdg.all fun e => S.any fun q => Nat.beq q.1 e.1 && Nat.beq q.2.1 e.2
/-- a method of grammar that is run whole -/
theorem g_whole {u0 : dH} {f d y N F e : Nat} {L : sL} {S S2 : sH} {v : Option sV} {k k2 : Nat} (hF : f ≤ F) (h1 : kdS S = true) (h2 : kdS S2 = true) (h : sAll (sex BG fx0 kdgf pghm st0 orc0 2000 20 N f d y 0 (0, 0) [] L [] S [] []) (tEnd KsG [] v S2) = true) : tOKc dProg r0 opN KsG IT u0 F e (gQ k) (gQ k2) (d, y, L, S, v, S2) := by
  intro f2 u hf hS _ hfr _
  have hf : F ≤ f2 := hf
  have hS : sfit r0 opN S u := hS
  obtain ⟨v9, S9, u2, e1, e2, e3, -⟩ := sex_all (WG_of (kd_sfit h1 hS)) h (f2 - f + e) hS trivial
  unfold tEnd at e1
  simp only [Bool.and_eq_true] at e1
  obtain ⟨q1, q2, -, q3⟩ := e1
  have q1 := @of_decide_eq_true _ (dqO v9 v) q1
  subst q1
  have hfit := sfit_of e3 q2
  rw [show f + (f2 - f + e) = f2 + e by omega] at e2
  exact ⟨u2, e2, hfit, trivial, fr_tr hfr (fr_of (fun a h => (nomatch (show false = true from h))) q3 e3), kd_sfit h2 hfit⟩
set_option maxRecDepth 1000000 in
theorem g_cpUp : sUp 45 (2, 7200, .inl kg63) gS0 gS10 = true := by decide +kernel
set_option maxRecDepth 1000000 in
theorem g_kdB : kdS gS10 = true := by decide +kernel
set_option maxRecDepth 1000000 in
theorem g_kd_gS0 : kdS gS0 = true := by decide +kernel
set_option maxRecDepth 1000000 in
theorem g_kd_gS1 : kdS gS1 = true := by decide +kernel
set_option maxRecDepth 1000000 in
theorem g_kd_gS2 : kdS gS2 = true := by decide +kernel
set_option maxRecDepth 1000000 in
theorem g_kd_gS3 : kdS gS3 = true := by decide +kernel
set_option maxRecDepth 1000000 in
theorem g_kd_gS4 : kdS gS4 = true := by decide +kernel
set_option maxRecDepth 1000000 in
theorem g_kd_gS5 : kdS gS5 = true := by decide +kernel
set_option maxRecDepth 1000000 in
theorem g_kd_gS6 : kdS gS6 = true := by decide +kernel
set_option maxRecDepth 1000000 in
theorem g_kd_gS7 : kdS gS7 = true := by decide +kernel
set_option maxRecDepth 1000000 in
theorem g_kd_gS8 : kdS gS8 = true := by decide +kernel
set_option maxRecDepth 1000000 in
theorem g_kd_gS9 : kdS gS9 = true := by decide +kernel
set_option maxRecDepth 1000000 in
theorem g_kd_gS10 : kdS gS10 = true := by decide +kernel
theorem g_copy {u0 : dH} {e : Nat} : tOKc dProg r0 opN KsG IT u0 5000 e (gQ 0) (gQ 1) (58, 270, [(0, .inr (.inr 2)), (1, .inl (0, [])), (2, .inr (.inr 46)), (3, .inl (1200, [])), (4, .inl (180, []))], gS0, none, gS10) := by
  intro f u hf hS _ hfr _
  have hf : 5000 ≤ f := hf
  have hS : sfit r0 opN gS0 u := hS
  obtain ⟨ct1, h1, h1c⟩ := sfit_cell hS (a := 1) (kd := 2) (n := 3000) (X := .inl kg30) (List.mem_of_getElem? (i := 51) rfl)
  obtain ⟨ct2, h2, h2c⟩ := sfit_cell hS (a := 45) (kd := 2) (n := 7200) (X := .inl kg23) (List.mem_of_getElem? (i := 31) rfl)
  have h1c : ct1 = kg30 := h1c
  have h2c : ct2 = kg23 := h2c
  subst h1c h2c
  obtain ⟨u2, q1, z1, z2, w2, a2⟩ := lcopy (p1 := 0) (p2 := 1200) (n := 180) (f := f + e - 2) (d := 57) hS.1 h1 h2 (by decide) (by decide) (by decide) (by decide) (by decide)
  have hk3 : dcp kg30 kg23 0 1200 180 = kg63 := by decide +kernel
  have hfit : sfit r0 opN gS10 u2 := sfit_up (a := 45) (kd := 2) (n := 7200) (ct := kg63) g_cpUp hS w2 (fun k hk => by rw [a2, if_neg hk]) (by rw [a2, if_pos rfl, hk3]) rfl
  refine ⟨u2, ?_, hfit, trivial, fr_tr hfr ⟨z1, z2, fun a ha => by rw [a2, if_neg (fun w => by rw [w] at ha; exact absurd ha (by decide))]⟩, kd_sfit g_kdB hfit⟩
  rw [show f + e - 2 + 2 = f + e by omega] at q1
  exact q1
theorem g_cutOK {u0 : dH} {e : Nat} : tOKc dProg r0 opN KsG IT u0 30000 e (gQ 0) (gQ 1) (59, 203, [(0, .inr (.inr 45)), (1, .inr (.inr 2)), (2, .inl (180, [])), (3, .inl (203, []))], gS0, none, gS2) := by
  intro f u hf hS _ hfr _
  have hf : 30000 ≤ f := hf
  have hS : sfit r0 opN gS0 u := hS
  have h := top_go (cs := gCp) (u0 := u) (e := f - 20000 + e) (Qs := gQ) (fun a h => (nomatch (show false = true from h))) (fun k g u _ hq _ hn => gQ_keep k g u hq hn) (fun k g _ _ _ hq => WG_of hq) (fun i c hi => ?_) g_cut hS trivial (kd_sfit g_kd_gS0 hS)
  · obtain ⟨u2, g2, q1, q2, -, q4, -⟩ := h
    rw [show 20000 + (f - 20000 + e) = f + e by omega] at q1
    exact ⟨u2, q1, q2, trivial, fr_tr hfr q4, kd_sfit g_kd_gS2 q2⟩
  · match i, hi with
    | 0, hi =>
      cases hi
      exact g_copy
    | n + 1, hi => cases hi
theorem gram_ok {u0 : dH} (hS : sfit r0 opN gS0 u0) (e : Nat) : tFin r0 opN KsG [] IT u0 (gQ 8) (some (.inl (8, []))) gS1 (drun dProg (40000 + e) 60 258 0 [(0, .inr (.inr 1))] [] u0) := by
  refine top_go (cs := gCs) (u0 := u0) (e := e) (Qs := gQ) (fun a h => (nomatch (show false = true from h))) (fun k g u _ hq _ hn => gQ_keep k g u hq hn) (fun k g _ _ _ hq => WG_of hq) (fun i c hi => ?_) g_top hS trivial (kd_sfit g_kd_gS0 hS)
  match i, hi with
  | 0, hi =>
    cases hi
    exact g_cutOK
  | 1, hi =>
    cases hi
    exact g_whole (by decide) g_kd_gS3 g_kd_gS4 g_run1
  | 2, hi =>
    cases hi
    exact g_whole (by decide) g_kd_gS4 g_kd_gS5 g_run2
  | 3, hi =>
    cases hi
    exact g_whole (by decide) g_kd_gS5 g_kd_gS6 g_run3
  | 4, hi =>
    cases hi
    exact g_whole (by decide) g_kd_gS6 g_kd_gS6 g_run4
  | 5, hi =>
    cases hi
    exact g_whole (by decide) g_kd_gS6 g_kd_gS7 g_run5
  | 6, hi =>
    cases hi
    exact g_whole (by decide) g_kd_gS7 g_kd_gS8 g_run6
  | 7, hi =>
    cases hi
    exact g_whole (by decide) g_kd_gS8 g_kd_gS9 g_run7
  | n + 8, hi => cases hi

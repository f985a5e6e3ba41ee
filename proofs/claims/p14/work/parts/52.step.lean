/-! ===== judge(5, 0): a cell's run as a step ===== -/
set_option maxRecDepth 100000 in
theorem fx5_ok {ρ : Nat → Nat} (h3 : ρ 3 ≤ 20) : ∀ i a b v, fx5 i a b = some v → opf i (sden ρ a) (sden ρ b) = sden ρ v := by
  intro i a b v h
  unfold fx5 at h
  obtain ⟨h0, h⟩ := scd_t h
  simp only [Bool.and_eq_true] at h0
  obtain ⟨a1, a2⟩ := a
  obtain ⟨b1, b2⟩ := b
  have e1 : a1 = 0 := Nat.eq_of_beq_eq_true h0.1
  have e2 : a2 = [3] := eq_of_beq h0.2.1
  have e3 : b1 = 0 := Nat.eq_of_beq_eq_true h0.2.2.1
  have e4 : b2 = [] := eq_of_beq h0.2.2.2
  subst e1 e2 e3 e4
  have ea : sden ρ (0, [3]) = ρ 3 := by
    show 0 + (ρ 3 + 0) = _
    omega
  rw [ea, show sden ρ (0, []) = 0 from rfl]
  have hl : dcd .lt (ρ 3) 0 = false := zlt_f (by omega)
  have hg : dcd .ge (ρ 3) 0 = true := zge0 (by omega)
  cases c1 : Nat.beq i 22 with
  | true =>
    rw [c1] at h
    have e5 := Nat.eq_of_beq_eq_true c1
    have e6 : v = (0, []) := (Option.some.inj h).symm
    subst e5
    rw [e6]
    have h9 : opf 22 (ρ 3) 0 = 0 := by simp only [opf, hl, cond_false]
    rw [h9]
    rfl
  | false =>
    rw [c1] at h
    obtain ⟨c2, h⟩ := scd_t (show cond (Nat.beq i 23) (some ((1, []) : sN)) none = some v from h)
    have e5 := Nat.eq_of_beq_eq_true c2
    have e6 : v = (1, []) := (Option.some.inj h).symm
    subst e5
    rw [e6]
    have h9 : opf 23 (ρ 3) 0 = 1 := by simp only [opf, hg, cond_true]
    rw [h9]
    rfl
theorem W5_of {ρ : Nat → Nat} {T : Nat → Nat → Prop} {K : List Nat} {tab : List (sN × sN)} {B : List (Nat × Nat)} {g : dH} (hK : ∀ key a, T key a → (3 * 2 ^ 32 + key) ∈ K) (hKl : K.length ≤ 1000) (hT : ∀ key a b, T key a → T key b → a = b) (hB : sok ρ B) (h3 : ρ 3 ≤ 20) (ht : tOK ρ T tab) (hk : kdG kdJ g) : sFor B fx5 kdf pgm pghm (orcM tab) 2000 20 dProg ρ opM g (MI T) :=
  ⟨hB, fx5_ok h3, pgm_ok, pghm_ok, fun u u2 h _ hM => MI_of h hM, fun a kd h S u hS hM => by
    have h1 := kdf_at h
    by_cases e : a = 106
    · subst e
      have h2 : kd = 10 := by
        have h3 : kdf 106 = some 10 := rfl
        rw [h3] at h
        exact (Option.some.inj h).symm
      obtain ⟨nm, cm, ct, m1, -⟩ := hM
      rw [h2]
      exact ⟨nm, cm, m1.1⟩
    · have h3 : (a, kd) ∈ kdJ := List.mem_filter.mpr ⟨h1, by
        cases hb : Nat.beq a 106 with
        | true => exact absurd (Nat.eq_of_beq_eq_true hb) e
        | false => rfl⟩
      have ho : opM a = false := by
        have h4 : ∀ q ∈ kdJ, opM q.1 = false := by decide
        exact h4 _ h3
      exact kd_keep hS ho (hk _ h3), orcM_ok hK hKl hT ht⟩
theorem blk31 : (pghm 62 31).isSome = true := by decide +kernel
/-- says, from its loop's head to its loop's head -/
theorem says5 {ρ : Nat → Nat} {T : Nat → Nat → Prop} {K : List Nat} {tab : List (sN × sN)} {S S2 : sH} (hK : ∀ key a, T key a → (3 * 2 ^ 32 + key) ∈ K) (hKl : K.length ≤ 1000) (hT : ∀ key a b, T key a → T key b → a = b) (hB : sok ρ B5) (h3 : ρ 3 ≤ 20) (ht : tOK ρ T tab) (h : all5 S2 (run5 5 tab S) = true) {u : dH} (hk : kdG kdJ u) (hS : sfit ρ opM S u) (hM : MI T u) (e : Nat) {G : dR → Prop}
    (k : ∀ (u2 : dH) (c f : Nat) (S9 : sH), c < 1000 → 5000 ≤ f → swk S9 S2 = true → sqA S9 S2 = true → ssat ρ opM u S9 u2 → MI T u2 → G (drun dProg (f + e) 59 62 31 (slD ρ (lS5 (4294967292, []) (c, [4]))) [] u2)) :
    G (drun dProg (10001 + e) 59 62 31 (slD ρ (lS5 (4294967292, []) (0, [4]))) [] u) := by
  unfold run5 at h
  cases hp : pghm 62 31 with
  | none =>
    have h9 := blk31
    rw [hp] at h9
    cases h9
  | some hl =>
    rw [hp] at h
    obtain ⟨is, g1, g2⟩ := pghm_ok 62 31 hl hp
    have hb : sblk pgm 62 (31, 0) = is := by
      unfold sblk
      rw [g1]; rfl
    have h : all5 S2 (sexL B5 fx5 kdf pghm st5 (orcM tab) 2000 20 100000 10000 59 62 31 (31, 0) hl (lS5 (4294967292, []) (0, [4])) [] S [] []) = true := h
    rw [g2] at h
    cases hr : sexL B5 fx5 kdf pghm st5 (orcM tab) 2000 20 100000 10000 59 62 31 (31, 0) (is.map hxf) (lS5 (4294967292, []) (0, [4])) [] S [] [] with
    | none => rw [hr] at h; cases h
    | some lv =>
      rw [hr] at h
      have hgo := sexL_goK (W5_of hK hKl hT hB h3 ht hk) (b := (31, 0)) (is := is) (Or.inr hb) hr e (G := G) (fun x hx => ?_) hS hM
      · have e4 : drun dProg (10001 + e) 59 62 31 (slD ρ (lS5 (4294967292, []) (0, [4]))) [] u = dcomp 62 is 31 (drun dProg (10000 + e)) 59 (slD ρ (lS5 (4294967292, []) (0, [4]))) [] u := by
          rw [show 10001 + e = (10000 + e) + 1 by omega]
          show opt (dProg 62 31) (fun c => c (drun dProg (10000 + e)) 59 (slD ρ (lS5 (4294967292, []) (0, [4]))) [] u) = _
          rw [pgm_ok 62 31 is g1]; rfl
        rw [e4]
        exact hgo
      · have h2 := List.all_eq_true.mp h x hx
        unfold chk5 at h2
        split at h2
        · rename_i f d y pc L st S9 K9
          simp only [Bool.and_eq_true] at h2
          obtain ⟨q1, q2, q3, q4, q5, q6, ⟨q7, q9⟩, q8⟩ := h2
          have q2 := Nat.eq_of_beq_eq_true q2
          have q3 := Nat.eq_of_beq_eq_true q3
          have q4 := Nat.eq_of_beq_eq_true q4
          have q5 : st = [] := List.isEmpty_iff.mp q5
          have q6 : K9 = [] := List.isEmpty_iff.mp q6
          subst q2 q3 q4 q5 q6
          split at q8
          · rename_i c
            exact fun u2 hS2 hI2 => k u2 c f S9 (di_blt.mp q8) (Nat.le_of_ble_eq_true q1) q7 q9 hS2 hI2
          · cases q8
        · cases h2
set_option maxRecDepth 100000 in
theorem fx7_ok {ρ : Nat → Nat} (h3 : ρ 3 ≤ 20) : ∀ i a b v, fx7 i a b = some v → opf i (sden ρ a) (sden ρ b) = sden ρ v := by
  intro i a b v h
  unfold fx7 at h
  obtain ⟨h0, h⟩ := scd_t h
  simp only [Bool.and_eq_true] at h0
  obtain ⟨a1, a2⟩ := a
  obtain ⟨b1, b2⟩ := b
  have e1 : a1 = 0 := Nat.eq_of_beq_eq_true h0.1
  have e2 : a2 = [3] := eq_of_beq h0.2.1
  have e3 : b1 = 0 := Nat.eq_of_beq_eq_true h0.2.2.1
  have e4 : b2 = [] := eq_of_beq h0.2.2.2
  subst e1 e2 e3 e4
  have ea : sden ρ (0, [3]) = ρ 3 := by
    show 0 + (ρ 3 + 0) = _
    omega
  rw [ea, show sden ρ (0, []) = 0 from rfl]
  have hl : dcd .lt (ρ 3) 0 = false := zlt_f (by omega)
  have hg : dcd .ge (ρ 3) 0 = true := zge0 (by omega)
  cases c1 : Nat.beq i 22 with
  | true =>
    rw [c1] at h
    have e5 := Nat.eq_of_beq_eq_true c1
    have e6 : v = (0, []) := (Option.some.inj h).symm
    subst e5
    rw [e6]
    have h9 : opf 22 (ρ 3) 0 = 0 := by simp only [opf, hl, cond_false]
    rw [h9]
    rfl
  | false =>
    rw [c1] at h
    obtain ⟨c2, h⟩ := scd_t (show cond (Nat.beq i 23) (some ((1, []) : sN)) none = some v from h)
    have e5 := Nat.eq_of_beq_eq_true c2
    have e6 : v = (1, []) := (Option.some.inj h).symm
    subst e5
    rw [e6]
    have h9 : opf 23 (ρ 3) 0 = 1 := by simp only [opf, hg, cond_true]
    rw [h9]
    rfl
theorem W7_of {ρ : Nat → Nat} {T : Nat → Nat → Prop} {K : List Nat} {tab : List (sN × sN)} {B : List (Nat × Nat)} {g : dH} (hK : ∀ key a, T key a → (3 * 2 ^ 32 + key) ∈ K) (hKl : K.length ≤ 1000) (hT : ∀ key a b, T key a → T key b → a = b) (hB : sok ρ B) (h3 : ρ 3 ≤ 20) (ht : tOK ρ T tab) (hk : kdG kdJ g) : sFor B fx7 kdf pgm pghm (orcM tab) 2000 20 dProg ρ opM g (MI T) :=
  ⟨hB, fx7_ok h3, pgm_ok, pghm_ok, fun u u2 h _ hM => MI_of h hM, fun a kd h S u hS hM => by
    have h1 := kdf_at h
    by_cases e : a = 106
    · subst e
      have h2 : kd = 10 := by
        have h3 : kdf 106 = some 10 := rfl
        rw [h3] at h
        exact (Option.some.inj h).symm
      obtain ⟨nm, cm, ct, m1, -⟩ := hM
      rw [h2]
      exact ⟨nm, cm, m1.1⟩
    · have h3 : (a, kd) ∈ kdJ := List.mem_filter.mpr ⟨h1, by
        cases hb : Nat.beq a 106 with
        | true => exact absurd (Nat.eq_of_beq_eq_true hb) e
        | false => rfl⟩
      have ho : opM a = false := by
        have h4 : ∀ q ∈ kdJ, opM q.1 = false := by decide
        exact h4 _ h3
      exact kd_keep hS ho (hk _ h3), orcM_ok hK hKl hT ht⟩
/-- says, from its loop's head to its loop's head; judge(7, 0) -/
theorem says7 {ρ : Nat → Nat} {T : Nat → Nat → Prop} {K : List Nat} {tab : List (sN × sN)} {S S2 : sH} (hK : ∀ key a, T key a → (3 * 2 ^ 32 + key) ∈ K) (hKl : K.length ≤ 1000) (hT : ∀ key a b, T key a → T key b → a = b) (hB : sok ρ B7) (h3 : ρ 3 ≤ 20) (ht : tOK ρ T tab) (h : all7 S2 (run7 7 tab S) = true) {u : dH} (hk : kdG kdJ u) (hS : sfit ρ opM S u) (hM : MI T u) (e : Nat) {G : dR → Prop}
    (k : ∀ (u2 : dH) (c f : Nat) (S9 : sH), c < 1000 → 5000 ≤ f → swk S9 S2 = true → sqA S9 S2 = true → ssat ρ opM u S9 u2 → MI T u2 → G (drun dProg (f + e) 59 62 31 (slD ρ (lS7 (4294967292, []) (c, [4]))) [] u2)) :
    G (drun dProg (10001 + e) 59 62 31 (slD ρ (lS7 (4294967292, []) (0, [4]))) [] u) := by
  unfold run7 at h
  cases hp : pghm 62 31 with
  | none =>
    have h9 := blk31
    rw [hp] at h9
    cases h9
  | some hl =>
    rw [hp] at h
    obtain ⟨is, g1, g2⟩ := pghm_ok 62 31 hl hp
    have hb : sblk pgm 62 (31, 0) = is := by
      unfold sblk
      rw [g1]; rfl
    have h : all7 S2 (sexL B7 fx7 kdf pghm st7 (orcM tab) 2000 20 100000 10000 59 62 31 (31, 0) hl (lS7 (4294967292, []) (0, [4])) [] S [] []) = true := h
    rw [g2] at h
    cases hr : sexL B7 fx7 kdf pghm st7 (orcM tab) 2000 20 100000 10000 59 62 31 (31, 0) (is.map hxf) (lS7 (4294967292, []) (0, [4])) [] S [] [] with
    | none => rw [hr] at h; cases h
    | some lv =>
      rw [hr] at h
      have hgo := sexL_goK (W7_of hK hKl hT hB h3 ht hk) (b := (31, 0)) (is := is) (Or.inr hb) hr e (G := G) (fun x hx => ?_) hS hM
      · have e4 : drun dProg (10001 + e) 59 62 31 (slD ρ (lS7 (4294967292, []) (0, [4]))) [] u = dcomp 62 is 31 (drun dProg (10000 + e)) 59 (slD ρ (lS7 (4294967292, []) (0, [4]))) [] u := by
          rw [show 10001 + e = (10000 + e) + 1 by omega]
          show opt (dProg 62 31) (fun c => c (drun dProg (10000 + e)) 59 (slD ρ (lS7 (4294967292, []) (0, [4]))) [] u) = _
          rw [pgm_ok 62 31 is g1]; rfl
        rw [e4]
        exact hgo
      · have h2 := List.all_eq_true.mp h x hx
        unfold chk7 at h2
        split at h2
        · rename_i f d y pc L st S9 K9
          simp only [Bool.and_eq_true] at h2
          obtain ⟨q1, q2, q3, q4, q5, q6, ⟨q7, q9⟩, q8⟩ := h2
          have q2 := Nat.eq_of_beq_eq_true q2
          have q3 := Nat.eq_of_beq_eq_true q3
          have q4 := Nat.eq_of_beq_eq_true q4
          have q5 : st = [] := List.isEmpty_iff.mp q5
          have q6 : K9 = [] := List.isEmpty_iff.mp q6
          subst q2 q3 q4 q5 q6
          split at q8
          · rename_i c
            exact fun u2 hS2 hI2 => k u2 c f S9 (di_blt.mp q8) (Nat.le_of_ble_eq_true q1) q7 q9 hS2 hI2
          · cases q8
        · cases h2

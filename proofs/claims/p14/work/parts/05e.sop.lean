/-! ===== what each instruction does with sums ===== -/
noncomputable def sdcat (st : List sV) : Nat := List.rec (motive := fun _ => Nat) 0 (fun v _ ih => Nat.add (cond (sisl v) 2 1) ih) st
theorem sdcat_d (ρ : Nat → Nat) (st : List sV) : dcat (st.map (svd ρ)) = sdcat st := by
  induction st with
  | nil => rfl
  | cons v t ih =>
    show Nat.add (cond (disl (svd ρ v)) 2 1) (dcat (t.map (svd ρ))) = Nat.add (cond (sisl v) 2 1) (sdcat t)
    rw [ih, sisl_d]
noncomputable def spop (n : Nat) : List sV → List sV → (List sV → List sV → sR) → sR := Nat.rec (motive := fun _ => List sV → List sV → (List sV → List sV → sR) → sR) (fun st acc k => k acc st) (fun _ ih st acc k => sP st fun v r => ih r (v :: acc) k) n
theorem spop_s (ρ : Nat → Nat) {n : Nat} {st acc : List sV} {k : List sV → List sV → sR} {w : List sLf} (h : spop n st acc k = some w) : ∃ as r, k as r = some w ∧ ∀ k2 : List dV → List dV → dR, dpop n (st.map (svd ρ)) (acc.map (svd ρ)) k2 = k2 (as.map (svd ρ)) (r.map (svd ρ)) := by
  induction n generalizing st acc with
  | zero => exact ⟨acc, st, h, fun _ => rfl⟩
  | succ n ih =>
    obtain ⟨v, r, rfl, h2⟩ := sP_s (α := List sLf) (st := st) (k := fun v r => spop n r (v :: acc) k) h
    exact ih h2
noncomputable def sfv (tc : Nat) (w : sN) (k : sV → sR) : sR := match tc with
  | 0 => k (.inl w)
  | 1 => k (.inr (.inl w))
  | 2 => k (.inl w)
  | _ => scs w none fun n => k (.inr (.inr n))
theorem sfv_s (ρ : Nat → Nat) {tc : Nat} {w : sN} {k : sV → sR} {lv : List sLf} (h : sfv tc w k = some lv) : ∃ v, k v = some lv ∧ svd ρ v = fv tc (sden ρ w) := by
  match tc, h with
  | 0, h => exact ⟨_, h, rfl⟩
  | 1, h => exact ⟨_, h, rfl⟩
  | 2, h => exact ⟨_, h, rfl⟩
  | n + 3, h =>
    rcases scs_spec ρ w none (fun n => k (.inr (.inr n))) with ⟨e, e2, -⟩ | e
    · have h2 : scs w none (fun n => k (.inr (.inr n))) = some lv := h
      rw [e] at h2
      exact ⟨_, h2, by rw [e2]; rfl⟩
    · have h2 : scs w none (fun n => k (.inr (.inr n))) = some lv := h
      rw [e] at h2; cases h2
noncomputable def sfe (B : List (Nat × Nat)) (tc : Nat) (v : sV) (k : sN → sR) : sR := match tc with
  | 0 => sI v fun a => sun B (fun x => Nat.mod x 4294967296) 4294967296 a none k
  | 1 => sJ v fun a => sun B (fun x => Nat.mod x 18446744073709551616) 18446744073709551616 a none k
  | 2 => sI v fun a => sbel B 2 a none (k a)
  | 3 => sRf v fun n => cond (Nat.blt n 18446744073709551616) (k (n, [])) none
  | _ => none
theorem sfe_s {ρ : Nat → Nat} {B : List (Nat × Nat)} (hB : sok ρ B) {tc : Nat} {v : sV} {k : sN → sR} {lv : List sLf} (h : sfe B tc v k = some lv) : ∃ w, k w = some lv ∧ sden ρ w < 2 ^ 64 ∧ ∀ k2 : Nat → dR, fe tc (svd ρ v) k2 = k2 (sden ρ w) := by
  match tc, h with
  | 0, h =>
    obtain ⟨a, rfl, h0⟩ := sI_s h
    obtain ⟨w, h1, h2⟩ := sor_s (sun_spec hB (fun x => Nat.mod x 4294967296) 4294967296 (fun x hx => Nat.mod_eq_of_lt hx) a none k) h0
    rw [h1] at h0
    refine ⟨w, h0, ?_, fun k2 => ?_⟩
    · rw [h2]; exact Nat.lt_of_lt_of_le (Nat.mod_lt _ (by decide)) (by decide)
    · show fo (Nat.mod (sden ρ a) 4294967296) k2 = _
      rw [fo_eq, h2]
  | 1, h =>
    obtain ⟨a, rfl, h0⟩ := sJ_s h
    obtain ⟨w, h1, h2⟩ := sor_s (sun_spec hB (fun x => Nat.mod x 18446744073709551616) 18446744073709551616 (fun x hx => Nat.mod_eq_of_lt hx) a none k) h0
    rw [h1] at h0
    refine ⟨w, h0, ?_, fun k2 => ?_⟩
    · rw [h2]; exact Nat.mod_lt _ (by decide)
    · show fo (Nat.mod (sden ρ a) 18446744073709551616) k2 = _
      rw [fo_eq, h2]
  | 2, h =>
    obtain ⟨a, rfl, h0⟩ := sI_s h
    obtain ⟨h1, h2⟩ := sor_s (sbel_spec hB 2 a none (k a)) h0
    rw [h1] at h0
    refine ⟨a, h0, by omega, fun k2 => ?_⟩
    show cond (Nat.ble (Nat.mod (sden ρ a) 4294967296) 1) (fo (Nat.mod (sden ρ a) 4294967296) k2) none = _
    rw [show Nat.mod (sden ρ a) 4294967296 = sden ρ a from Nat.mod_eq_of_lt (by omega), show Nat.ble (sden ρ a) 1 = true from Nat.ble_eq_true_of_le (by omega), fo_eq]; rfl
  | 3, h =>
    obtain ⟨n, rfl, h0⟩ := sRf_s h
    obtain ⟨h1, h2⟩ := scd_t h0
    refine ⟨_, h2, di_blt.mp h1, fun k2 => ?_⟩
    show cond (Nat.blt n 18446744073709551616) (k2 n) none = _
    rw [h1]; rfl
  | n + 4, h => cases h
noncomputable def slc (B : List (Nat × Nat)) (a b : sN) (z : sR) (k : sN → sR) : sR := scs a (sbel B 9223372036854775808 a z (sbel B 9223372036854775808 b z (scmp B a b (k (4294967295, [])) (k (0, [])) (k (1, [])) z))) fun _ => scs b (sbel B 9223372036854775808 a z (sbel B 9223372036854775808 b z (scmp B a b (k (4294967295, [])) (k (0, [])) (k (1, [])) z))) fun _ => sbin dCmp a b z k
theorem dll_eq {a b : Nat} (ha : a < 9223372036854775808) (hb : b < 9223372036854775808) : dLLt a b = decide (a < b) := by
  show Nat.blt ((a + 9223372036854775808) % 18446744073709551616) ((b + 9223372036854775808) % 18446744073709551616) = _
  cases h : Nat.blt ((a + 9223372036854775808) % 18446744073709551616) ((b + 9223372036854775808) % 18446744073709551616) with
  | true => have := di_blt.mp h; exact (decide_eq_true (by omega)).symm
  | false =>
    have h2 : ¬ ((a + 9223372036854775808) % 18446744073709551616 < (b + 9223372036854775808) % 18446744073709551616) := fun w => by rw [di_blt.mpr w] at h; cases h
    exact (decide_eq_false (by omega)).symm
theorem slc_s {ρ : Nat → Nat} {B : List (Nat × Nat)} (hB : sok ρ B) {a b : sN} {z : sR} {k : sN → sR} : slc B a b z k = z ∨ ∃ v, slc B a b z k = k v ∧ sden ρ v = dCmp (sden ρ a) (sden ρ b) := by
  have key : ∀ X, X = sbel B 9223372036854775808 a z (sbel B 9223372036854775808 b z (scmp B a b (k (4294967295, [])) (k (0, [])) (k (1, [])) z)) → X = z ∨ ∃ v, X = k v ∧ sden ρ v = dCmp (sden ρ a) (sden ρ b) := by
    intro X hX
    rcases sbel_spec hB 9223372036854775808 a z (sbel B 9223372036854775808 b z (scmp B a b (k (4294967295, [])) (k (0, [])) (k (1, [])) z)) with q | ⟨q, ha⟩
    · exact Or.inl (hX.trans q)
    · rcases sbel_spec hB 9223372036854775808 b z (scmp B a b (k (4294967295, [])) (k (0, [])) (k (1, [])) z) with w | ⟨w, hb⟩
      · exact Or.inl (hX.trans (q.trans w))
      · have e1 := dll_eq ha hb
        have e2 := dll_eq hb ha
        rcases scmp_spec hB a b (k (4294967295, [])) (k (0, [])) (k (1, [])) z with p | ⟨p, g⟩ | ⟨p, g⟩ | ⟨p, g⟩
        · exact Or.inl (hX.trans (q.trans (w.trans p)))
        · refine Or.inr ⟨_, hX.trans (q.trans (w.trans p)), ?_⟩
          show 4294967295 = cond (dLLt _ _) 4294967295 _
          rw [e1, decide_eq_true g]; rfl
        · refine Or.inr ⟨_, hX.trans (q.trans (w.trans p)), ?_⟩
          show 0 = cond (dLLt _ _) 4294967295 (cond (dLLt _ _) 1 0)
          rw [e1, e2, decide_eq_false (by omega), decide_eq_false (by omega)]; rfl
        · refine Or.inr ⟨_, hX.trans (q.trans (w.trans p)), ?_⟩
          show 1 = cond (dLLt _ _) 4294967295 (cond (dLLt _ _) 1 0)
          rw [e1, e2, decide_eq_false (by omega), decide_eq_true g]; rfl
  unfold slc
  rcases scs_spec ρ a (sbel B 9223372036854775808 a z (sbel B 9223372036854775808 b z (scmp B a b (k (4294967295, [])) (k (0, [])) (k (1, [])) z))) (fun _ => scs b (sbel B 9223372036854775808 a z (sbel B 9223372036854775808 b z (scmp B a b (k (4294967295, [])) (k (0, [])) (k (1, [])) z))) fun _ => sbin dCmp a b z k) with ⟨e, -⟩ | e
  · rw [e]
    rcases scs_spec ρ b (sbel B 9223372036854775808 a z (sbel B 9223372036854775808 b z (scmp B a b (k (4294967295, [])) (k (0, [])) (k (1, [])) z))) (fun _ => sbin dCmp a b z k) with ⟨e, -⟩ | e
    · rw [e]
      exact sbin_spec ρ dCmp a b z k
    · exact key _ e
  · exact key _ e
/-- the greater or the lesser of two -/
noncomputable def smx (B : List (Nat × Nat)) (f : Nat → Nat → Nat) (big : Bool) (a b : sN) (k : sN → sR) : sR := scs a (sbel B 2147483648 a none (sbel B 2147483648 b none (scmp B a b (cond big (k b) (k a)) (k a) (cond big (k a) (k b)) none))) fun _ => scs b (sbel B 2147483648 a none (sbel B 2147483648 b none (scmp B a b (cond big (k b) (k a)) (k a) (cond big (k a) (k b)) none))) fun _ => sbin f a b none k
theorem smx_s {ρ : Nat → Nat} {B : List (Nat × Nat)} (hB : sok ρ B) {f : Nat → Nat → Nat} {big : Bool} (hf : ∀ x y, x < 2147483648 → y < 2147483648 → f x y = cond big (max x y) (min x y)) {a b : sN} {k : sN → sR} {lv : List sLf} (h : smx B f big a b k = some lv) : ∃ v, k v = some lv ∧ sden ρ v = f (sden ρ a) (sden ρ b) := by
  have key : sbel B 2147483648 a none (sbel B 2147483648 b none (scmp B a b (cond big (k b) (k a)) (k a) (cond big (k a) (k b)) none)) = some lv → ∃ v, k v = some lv ∧ sden ρ v = f (sden ρ a) (sden ρ b) := by
    intro h0
    obtain ⟨h1, ha⟩ := sor_s (sbel_spec hB _ a none _) h0
    rw [h1] at h0
    obtain ⟨h2, hb⟩ := sor_s (sbel_spec hB _ b none _) h0
    rw [h2] at h0
    rw [hf _ _ ha hb]
    rcases sor_s (scmp_spec hB a b (cond big (k b) (k a)) (k a) (cond big (k a) (k b)) none) h0 with ⟨q, g⟩ | ⟨q, g⟩ | ⟨q, g⟩
    · rw [q] at h0
      cases big with
      | true => exact ⟨b, h0, by show _ = max _ _; omega⟩
      | false => exact ⟨a, h0, by show _ = min _ _; omega⟩
    · rw [q] at h0
      cases big with
      | true => exact ⟨a, h0, by show _ = max _ _; omega⟩
      | false => exact ⟨a, h0, by show _ = min _ _; omega⟩
    · rw [q] at h0
      cases big with
      | true => exact ⟨a, h0, by show _ = max _ _; omega⟩
      | false => exact ⟨b, h0, by show _ = min _ _; omega⟩
  unfold smx at h
  rcases scs_spec ρ a (sbel B 2147483648 a none (sbel B 2147483648 b none (scmp B a b (cond big (k b) (k a)) (k a) (cond big (k a) (k b)) none))) (fun _ => scs b (sbel B 2147483648 a none (sbel B 2147483648 b none (scmp B a b (cond big (k b) (k a)) (k a) (cond big (k a) (k b)) none))) fun _ => sbin f a b none k) with ⟨e, -⟩ | e
  · rw [e] at h
    rcases scs_spec ρ b (sbel B 2147483648 a none (sbel B 2147483648 b none (scmp B a b (cond big (k b) (k a)) (k a) (cond big (k a) (k b)) none))) (fun _ => sbin f a b none k) with ⟨e, -⟩ | e
    · rw [e] at h
      obtain ⟨v, h1, h2⟩ := sor_s (sbin_spec ρ f a b none k) h
      rw [h1] at h
      exact ⟨v, h, h2⟩
    · rw [e] at h; exact key h
  · rw [e] at h; exact key h
/-- a place in a row of n -/
noncomputable def sin (B : List (Nat × Nat)) (i : sN) (n : Nat) (k : sR) : sR := sbel B n i none (sbel B 2147483648 i none k)
theorem sin_s {ρ : Nat → Nat} {B : List (Nat × Nat)} (hB : sok ρ B) {i : sN} {n : Nat} {k : sR} {lv : List sLf} (h : sin B i n k = some lv) : k = some lv ∧ sden ρ i % 4294967296 = sden ρ i ∧ ∀ X : dR, din (sden ρ i) n X = X := by
  unfold sin at h
  obtain ⟨h1, ha⟩ := sor_s (sbel_spec hB n i none _) h
  rw [h1] at h
  obtain ⟨h2, hb⟩ := sor_s (sbel_spec hB 2147483648 i none _) h
  rw [h2] at h
  refine ⟨h, Nat.mod_eq_of_lt (by omega), fun X => ?_⟩
  show cond (Nat.blt _ n) (cond (Nat.blt _ 2147483648) X none) none = X
  rw [di_blt.mpr ha, di_blt.mpr hb]; rfl

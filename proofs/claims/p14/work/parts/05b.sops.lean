/-! ===== what is reckoned with sums ===== -/
def clt : ClassFile.Cond → Bool
  | .lt => true
  | .le => true
  | .ne => true
  | _ => false
def ceq : ClassFile.Cond → Bool
  | .eq => true
  | .ge => true
  | .le => true
  | _ => false
def cgt : ClassFile.Cond → Bool
  | .gt => true
  | .ge => true
  | .ne => true
  | _ => false
theorem dlt_eq {a b : Nat} (ha : a < 2147483648) (hb : b < 2147483648) : dLt a b = decide (a < b) := by
  show Nat.blt ((a + 2147483648) % 4294967296) ((b + 2147483648) % 4294967296) = _
  cases h : Nat.blt ((a + 2147483648) % 4294967296) ((b + 2147483648) % 4294967296) with
  | true => have := di_blt.mp h; exact (decide_eq_true (by omega)).symm
  | false =>
    have h2 : ¬ ((a + 2147483648) % 4294967296 < (b + 2147483648) % 4294967296) := fun w => by rw [di_blt.mpr w] at h; cases h
    exact (decide_eq_false (by omega)).symm
theorem deq_eq {a b : Nat} (ha : a < 4294967296) (hb : b < 4294967296) : dEq a b = decide (a = b) := by
  show Nat.beq (a % 4294967296) (b % 4294967296) = _
  cases h : Nat.beq (a % 4294967296) (b % 4294967296) with
  | true => have := Nat.eq_of_beq_eq_true h; exact (decide_eq_true (by omega)).symm
  | false =>
    have h2 : ¬ (a % 4294967296 = b % 4294967296) := fun w => by rw [w, Nat.beq_refl] at h; cases h
    exact (decide_eq_false (by omega)).symm
theorem dcd_lt {a b : Nat} (c : ClassFile.Cond) (ha : a < 2147483648) (hb : b < 2147483648) (h : a < b) : dcd c a b = clt c := by
  have e1 := dlt_eq ha hb
  have e2 := dlt_eq hb ha
  have e3 := deq_eq (show a < 4294967296 by omega) (show b < 4294967296 by omega)
  rw [decide_eq_true h] at e1
  rw [decide_eq_false (by omega)] at e2 e3
  cases c <;> simp [dcd, clt, e1, e2, e3]
theorem dcd_gt {a b : Nat} (c : ClassFile.Cond) (ha : a < 2147483648) (hb : b < 2147483648) (h : b < a) : dcd c a b = cgt c := by
  have e1 := dlt_eq ha hb
  have e2 := dlt_eq hb ha
  have e3 := deq_eq (show a < 4294967296 by omega) (show b < 4294967296 by omega)
  rw [decide_eq_true h] at e2
  rw [decide_eq_false (by omega)] at e1 e3
  cases c <;> simp [dcd, cgt, e1, e2, e3]
theorem dcd_eq {a b : Nat} (c : ClassFile.Cond) (ha : a < 2147483648) (h : a = b) : dcd c a b = ceq c := by
  subst h
  have e1 := dlt_eq ha ha
  have e3 := deq_eq (show a < 4294967296 by omega) (show a < 4294967296 by omega)
  rw [decide_eq_false (by omega)] at e1
  rw [decide_eq_true rfl] at e3
  cases c <;> simp [dcd, ceq, e1, e3]
theorem dcd_neg {a b : Nat} (c : ClassFile.Cond) (ha : a < 2147483648) (hb : 2147483648 ≤ b) (hb2 : b < 4294967296) : dcd c a b = cgt c := by
  have e1 : dLt a b = false := by
    show Nat.blt ((a + 2147483648) % 4294967296) ((b + 2147483648) % 4294967296) = false
    exact Bool.eq_false_iff.mpr fun z => by have := di_blt.mp z; omega
  have e2 : dLt b a = true := by
    show Nat.blt ((b + 2147483648) % 4294967296) ((a + 2147483648) % 4294967296) = true
    exact di_blt.mpr (by omega)
  have e3 := deq_eq (show a < 4294967296 by omega) hb2
  rw [decide_eq_false (by omega)] at e3
  cases c <;> simp [dcd, cgt, e1, e2, e3]
theorem dcd_neg2 {a b : Nat} (c : ClassFile.Cond) (hb : b < 2147483648) (ha : 2147483648 ≤ a) (ha2 : a < 4294967296) : dcd c a b = clt c := by
  have e1 : dLt b a = false := by
    show Nat.blt ((b + 2147483648) % 4294967296) ((a + 2147483648) % 4294967296) = false
    exact Bool.eq_false_iff.mpr fun z => by have := di_blt.mp z; omega
  have e2 : dLt a b = true := by
    show Nat.blt ((a + 2147483648) % 4294967296) ((b + 2147483648) % 4294967296) = true
    exact di_blt.mpr (by omega)
  have e3 := deq_eq ha2 (show b < 4294967296 by omega)
  rw [decide_eq_false (by omega)] at e3
  cases c <;> simp [dcd, clt, e1, e2, e3]
section S
variable {β : Type}
noncomputable def sbl (t : Bool) (k : Bool → β) : β := cond t (k true) (k false)
theorem sbl_eq (t : Bool) (k : Bool → β) : sbl t k = k t := by cases t <;> rfl
/-- a number, and no unknowns -/
noncomputable def scs (a : sN) (n : β) (y : Nat → β) : β := snil a.2 (y a.1) n
theorem scs_spec (ρ : Nat → Nat) (a : sN) (n : β) (y : Nat → β) : (scs a n y = y a.1 ∧ sden ρ a = a.1 ∧ a = (a.1, [])) ∨ scs a n y = n := by
  obtain ⟨c, vs⟩ := a
  cases vs with
  | nil => exact Or.inl ⟨rfl, rfl, rfl⟩
  | cons v t => exact Or.inr rfl
/-- it is below a bound -/
noncomputable def sbel (B : List (Nat × Nat)) (m : Nat) (a : sN) (z y : β) : β := shi B z a.2 a.1 a.1 fun _ hi => cond (Nat.blt hi m) y z
theorem sbel_spec {ρ : Nat → Nat} {B : List (Nat × Nat)} (hB : sok ρ B) (m : Nat) (a : sN) (z y : β) : sbel B m a z y = z ∨ (sbel B m a z y = y ∧ sden ρ a < m) := by
  rcases shi_spec hB z a.2 a.1 a.1 a.1 (fun _ hi => cond (Nat.blt hi m) y z) (Nat.le_refl _) (Nat.le_refl _) with h | ⟨lo, hi, h, h1, h2⟩
  · exact Or.inl h
  · unfold sbel
    rw [h]
    cases e : Nat.blt hi m with
    | true => exact Or.inr ⟨rfl, Nat.lt_of_le_of_lt h2 (di_blt.mp e)⟩
    | false => exact Or.inl rfl
/-- a comparison of ints -/
noncomputable def scd (B : List (Nat × Nat)) (c : ClassFile.Cond) (a b : sN) (z : β) (k : Bool → β) : β := scs a (sbel B 2147483648 a z (scs b (sbel B 2147483648 b z (scmp B a b (k (clt c)) (k (ceq c)) (k (cgt c)) z)) fun y => cond (Nat.blt y 2147483648) (scmp B a b (k (clt c)) (k (ceq c)) (k (cgt c)) z) (cond (Nat.blt y 4294967296) (k (cgt c)) z))) fun x => scs b (cond (Nat.blt x 2147483648) (sbel B 2147483648 a z (sbel B 2147483648 b z (scmp B a b (k (clt c)) (k (ceq c)) (k (cgt c)) z))) (cond (Nat.blt x 4294967296) (sbel B 2147483648 b z (k (clt c))) z)) fun y => sbl (dcd c x y) k
theorem scd_spec {ρ : Nat → Nat} {B : List (Nat × Nat)} (hB : sok ρ B) (c : ClassFile.Cond) (a b : sN) (z : β) (k : Bool → β) : scd B c a b z k = z ∨ scd B c a b z k = k (dcd c (sden ρ a) (sden ρ b)) := by
  have key : ∀ X, X = scmp B a b (k (clt c)) (k (ceq c)) (k (cgt c)) z → sden ρ a < 2147483648 → sden ρ b < 2147483648 → X = z ∨ X = k (dcd c (sden ρ a) (sden ρ b)) := by
    intro X hX ha hb
    rcases scmp_spec hB a b (k (clt c)) (k (ceq c)) (k (cgt c)) z with h | ⟨h, g⟩ | ⟨h, g⟩ | ⟨h, g⟩
    · exact Or.inl (hX.trans h)
    · exact Or.inr (by rw [hX, h, dcd_lt c ha hb g])
    · exact Or.inr (by rw [hX, h, dcd_eq c ha g])
    · exact Or.inr (by rw [hX, h, dcd_gt c ha hb g])
  unfold scd
  rcases scs_spec ρ a (sbel B 2147483648 a z (scs b (sbel B 2147483648 b z (scmp B a b (k (clt c)) (k (ceq c)) (k (cgt c)) z)) fun y => cond (Nat.blt y 2147483648) (scmp B a b (k (clt c)) (k (ceq c)) (k (cgt c)) z) (cond (Nat.blt y 4294967296) (k (cgt c)) z))) (fun x => scs b (cond (Nat.blt x 2147483648) (sbel B 2147483648 a z (sbel B 2147483648 b z (scmp B a b (k (clt c)) (k (ceq c)) (k (cgt c)) z))) (cond (Nat.blt x 4294967296) (sbel B 2147483648 b z (k (clt c))) z)) fun y => sbl (dcd c x y) k) with ⟨h, h2, -⟩ | h
  · rw [h]
    rcases scs_spec ρ b (cond (Nat.blt a.1 2147483648) (sbel B 2147483648 a z (sbel B 2147483648 b z (scmp B a b (k (clt c)) (k (ceq c)) (k (cgt c)) z))) (cond (Nat.blt a.1 4294967296) (sbel B 2147483648 b z (k (clt c))) z)) (fun y => sbl (dcd c a.1 y) k) with ⟨g, g2, -⟩ | g
    · rw [g, sbl_eq, h2, g2]; exact Or.inr rfl
    · rw [g]
      cases e1 : Nat.blt a.1 2147483648 with
      | false =>
        have h5 : ¬ a.1 < 2147483648 := fun w => by rw [di_blt.mpr w] at e1; cases e1
        cases e2 : Nat.blt a.1 4294967296 with
        | false => exact Or.inl rfl
        | true =>
          rcases sbel_spec hB 2147483648 b z (k (clt c)) with q | ⟨q, qb⟩
          · exact Or.inl q
          · refine Or.inr ?_
            show sbel B 2147483648 b z (k (clt c)) = _
            rw [q, h2, dcd_neg2 c qb (by omega) (di_blt.mp e2)]
      | true =>
      show sbel B 2147483648 a z _ = z ∨ sbel B 2147483648 a z _ = _
      rcases sbel_spec hB 2147483648 a z (sbel B 2147483648 b z (scmp B a b (k (clt c)) (k (ceq c)) (k (cgt c)) z)) with q | ⟨q, qa⟩
      · exact Or.inl q
      · rw [q]
        rcases sbel_spec hB 2147483648 b z (scmp B a b (k (clt c)) (k (ceq c)) (k (cgt c)) z) with w | ⟨w, wb⟩
        · exact Or.inl w
        · exact key _ w qa wb
  · rw [h]
    rcases sbel_spec hB 2147483648 a z (scs b (sbel B 2147483648 b z (scmp B a b (k (clt c)) (k (ceq c)) (k (cgt c)) z)) fun y => cond (Nat.blt y 2147483648) (scmp B a b (k (clt c)) (k (ceq c)) (k (cgt c)) z) (cond (Nat.blt y 4294967296) (k (cgt c)) z)) with q | ⟨q, qa⟩
    · exact Or.inl q
    · rw [q]
      rcases scs_spec ρ b (sbel B 2147483648 b z (scmp B a b (k (clt c)) (k (ceq c)) (k (cgt c)) z)) (fun y => cond (Nat.blt y 2147483648) (scmp B a b (k (clt c)) (k (ceq c)) (k (cgt c)) z) (cond (Nat.blt y 4294967296) (k (cgt c)) z)) with ⟨g, g2, -⟩ | g
      · rw [g]
        cases e1 : Nat.blt b.1 2147483648 with
        | true => exact key _ rfl qa (by rw [g2]; exact di_blt.mp e1)
        | false =>
          have h5 : ¬ b.1 < 2147483648 := fun w => by rw [di_blt.mpr w] at e1; cases e1
          cases e2 : Nat.blt b.1 4294967296 with
          | true => exact Or.inr (by show k _ = _; rw [g2, dcd_neg c qa (by omega) (di_blt.mp e2)])
          | false => exact Or.inl rfl
      · rw [g]
        rcases sbel_spec hB 2147483648 b z (scmp B a b (k (clt c)) (k (ceq c)) (k (cgt c)) z) with w | ⟨w, wb⟩
        · exact Or.inl w
        · exact key _ w qa wb
noncomputable def sapp (vs : List Nat) : List Nat → (List Nat → β) → β := List.rec (motive := fun _ => List Nat → (List Nat → β) → β) (fun ws k => k ws) (fun v _ ih ws k => ih ws fun u => k (v :: u)) vs
theorem sapp_spec (ρ : Nat → Nat) (vs ws : List Nat) (k : List Nat → β) : ∃ u, sapp vs ws k = k u ∧ ssum ρ u = ssum ρ vs + ssum ρ ws := by
  induction vs generalizing k with
  | nil => exact ⟨ws, rfl, by simp only [ssum]; omega⟩
  | cons v t ih =>
    obtain ⟨u, h1, h2⟩ := ih (fun u => k (v :: u))
    exact ⟨v :: u, h1, by simp only [ssum]; omega⟩
/-- a function of two numbers -/
noncomputable def sbin (f : Nat → Nat → Nat) (a b : sN) (z : β) (k : sN → β) : β := scs a z fun x => scs b z fun y => fo (f x y) fun v => k (v, [])
theorem sbin_spec (ρ : Nat → Nat) (f : Nat → Nat → Nat) (a b : sN) (z : β) (k : sN → β) : sbin f a b z k = z ∨ ∃ v, sbin f a b z k = k v ∧ sden ρ v = f (sden ρ a) (sden ρ b) := by
  unfold sbin
  rcases scs_spec ρ a z (fun x => scs b z fun y => fo (f x y) fun v => k (v, [])) with ⟨h, h2, -⟩ | h
  · rw [h]
    rcases scs_spec ρ b z (fun y => fo (f a.1 y) fun v => k (v, [])) with ⟨g, g2, -⟩ | g
    · rw [g, fo_eq]; exact Or.inr ⟨_, rfl, by rw [h2, g2]; rfl⟩
    · exact Or.inl g
  · exact Or.inl h
/-- a sum; M: from where it would begin anew -/
noncomputable def sadd (B : List (Nat × Nat)) (M : Nat) (a b : sN) (z : β) (k : sN → β) : β := sapp a.2 b.2 fun u => fo (Nat.add a.1 b.1) fun c => cond (Nat.blt c M) (sbel B M (c, u) z (k (c, u))) (fo (Nat.sub c M) fun c => sbel B M (c, u) z (k (c, u)))
theorem sadd_spec {ρ : Nat → Nat} {B : List (Nat × Nat)} (hB : sok ρ B) (M : Nat) (hM : 0 < M) (a b : sN) (z : β) (k : sN → β) : sadd B M a b z k = z ∨ ∃ v, sadd B M a b z k = k v ∧ sden ρ v = (sden ρ a + sden ρ b) % M := by
  obtain ⟨u, h1, h2⟩ := sapp_spec ρ a.2 b.2 (fun u => fo (Nat.add a.1 b.1) fun c => cond (Nat.blt c M) (sbel B M (c, u) z (k (c, u))) (fo (Nat.sub c M) fun c => sbel B M (c, u) z (k (c, u))))
  unfold sadd
  rw [h1, fo_eq]
  cases e : Nat.blt (Nat.add a.1 b.1) M with
  | true =>
    show sbel B M (Nat.add a.1 b.1, u) z _ = z ∨ ∃ v, sbel B M (Nat.add a.1 b.1, u) z _ = _ ∧ _
    rcases sbel_spec hB M (Nat.add a.1 b.1, u) z (k (Nat.add a.1 b.1, u)) with q | ⟨q, qa⟩
    · exact Or.inl q
    · refine Or.inr ⟨_, q, ?_⟩
      have e2 : sden ρ (Nat.add a.1 b.1, u) = sden ρ a + sden ρ b := by
        show a.1 + b.1 + ssum ρ u = _
        unfold sden; omega
      rw [e2] at qa ⊢
      exact (Nat.mod_eq_of_lt qa).symm
  | false =>
    have h5 : ¬ a.1 + b.1 < M := fun w => by rw [show Nat.blt (Nat.add a.1 b.1) M = true from di_blt.mpr w] at e; cases e
    show fo (Nat.sub (Nat.add a.1 b.1) M) (fun c => sbel B M (c, u) z (k (c, u))) = z ∨ ∃ v, fo (Nat.sub (Nat.add a.1 b.1) M) (fun c => sbel B M (c, u) z (k (c, u))) = _ ∧ _
    rw [fo_eq]
    rcases sbel_spec hB M (Nat.sub (Nat.add a.1 b.1) M, u) z (k (Nat.sub (Nat.add a.1 b.1) M, u)) with q | ⟨q, qa⟩
    · exact Or.inl q
    · refine Or.inr ⟨_, q, ?_⟩
      have e2 : sden ρ a + sden ρ b = sden ρ (Nat.sub (Nat.add a.1 b.1) M, u) + M := by
        show _ = a.1 + b.1 - M + ssum ρ u + M
        unfold sden; omega
      rw [e2, Nat.add_mod_right]
      exact (Nat.mod_eq_of_lt qa).symm
theorem sub_mod (M a b : Nat) (hM : 0 < M) (h1 : b ≤ a) (h2 : a < M) : (a + (M - b % M)) % M = a - b := by
  rw [Nat.mod_eq_of_lt (show b < M by omega), show a + (M - b) = (a - b) + M by omega, Nat.add_mod_right, Nat.mod_eq_of_lt (by omega)]
theorem sub_same (M c d s : Nat) (hM : 0 < M) : (c + s + (M - (d + s) % M)) % M = (c + (M - d % M)) % M := by
  have key : ∀ x : Nat, (x + (M - x % M)) % M = 0 := by
    intro x
    have h := Nat.div_add_mod x M
    have h3 := Nat.mod_lt x hM
    have h4 : x + (M - x % M) = M * (x / M) + M := by omega
    rw [h4, Nat.add_mod_right, Nat.mul_mod_right]
  -- both sides are c - d
  have l1 : (c + s + (M - (d + s) % M) + (d + (M - d % M))) % M = (c + (M - d % M) + ((d + s) + (M - (d + s) % M))) % M := by
    congr 1; omega
  rw [Nat.add_mod, key d, Nat.add_zero, Nat.mod_mod] at l1
  rw [Nat.add_mod (c + (M - d % M)), key (d + s), Nat.add_zero, Nat.mod_mod] at l1
  exact l1
/-- a difference -/
noncomputable def ssub (B : List (Nat × Nat)) (M : Nat) (f : Nat → Nat → Nat) (a b : sN) (z : β) (k : sN → β) : β := scn a.2 b.2 [] fun xs ys => snil ys (cond (Nat.ble b.1 a.1) (sbel B M a z (fo (Nat.sub a.1 b.1) fun c => k (c, xs))) (snil xs (fo (f a.1 b.1) fun c => k (c, [])) z)) z
theorem ssub_spec {ρ : Nat → Nat} {B : List (Nat × Nat)} (hB : sok ρ B) (M : Nat) (hM : 0 < M) (f : Nat → Nat → Nat) (hf : ∀ x y, f x y = (x + (M - y % M)) % M) (a b : sN) (z : β) (k : sN → β) : ssub B M f a b z k = z ∨ ∃ v, ssub B M f a b z k = k v ∧ sden ρ v = f (sden ρ a) (sden ρ b) := by
  obtain ⟨xs, ys, h1, h2⟩ := scn_spec ρ a.2 b.2 [] (fun xs ys => snil ys (cond (Nat.ble b.1 a.1) (sbel B M a z (fo (Nat.sub a.1 b.1) fun c => k (c, xs))) (snil xs (fo (f a.1 b.1) fun c => k (c, [])) z)) z)
  unfold ssub
  rw [h1]
  simp only [ssum, Nat.add_zero] at h2
  rcases snil_spec ys (cond (Nat.ble b.1 a.1) (sbel B M a z (fo (Nat.sub a.1 b.1) fun c => k (c, xs))) (snil xs (fo (f a.1 b.1) fun c => k (c, [])) z)) z with ⟨hy, e⟩ | ⟨-, e⟩
  · rw [e]
    subst hy
    simp only [ssum, Nat.add_zero] at h2
    cases e1 : Nat.ble b.1 a.1 with
    | true =>
      have h3 := Nat.le_of_ble_eq_true e1
      rcases sbel_spec hB M a z (fo (Nat.sub a.1 b.1) fun c => k (c, xs)) with q | ⟨q, qa⟩
      · exact Or.inl q
      · refine Or.inr ⟨(Nat.sub a.1 b.1, xs), ?_, ?_⟩
        · show sbel B M a z _ = _
          rw [q, fo_eq]
        · rw [hf, sub_mod M _ _ hM (by unfold sden; omega) qa]
          show a.1 - b.1 + ssum ρ xs = _
          unfold sden; omega
    | false =>
      rcases snil_spec xs (fo (f a.1 b.1) fun c => k (c, [])) z with ⟨hx, g⟩ | ⟨-, g⟩
      · subst hx
        simp only [ssum, Nat.add_zero] at h2
        refine Or.inr ⟨(f a.1 b.1, []), ?_, ?_⟩
        · exact g.trans (fo_eq _ _)
        · show f a.1 b.1 + 0 = f (a.1 + ssum ρ a.2) (b.1 + ssum ρ b.2)
          rw [Nat.add_zero, hf, hf, h2]
          exact (sub_same M _ _ _ hM).symm
      · exact Or.inl g
  · exact Or.inl e
/-- what stays under a mask of ones -/
noncomputable def sand (B : List (Nat × Nat)) (M : Nat) (f : Nat → Nat → Nat) (a b : sN) (z : β) (k : sN → β) : β := scs a (scs b z fun m => cond (Nat.beq (Nat.land (Nat.add m 1) m) 0) (cond (Nat.blt m M) (sbel B (Nat.add m 1) a z (k a)) z) z) fun _ => sbin f a b z k
theorem and_mask {x m : Nat} (h : Nat.land (m + 1) m = 0) (hx : x < m + 1) : Nat.land x m = x := by
  obtain ⟨n, hn⟩ : ∃ n, m + 1 = 2 ^ n := by
    have h2 : (m + 1) &&& (m + 1 - 1) = 0 := h
    exact (Nat.ne_zero_and_sub_one_eq_zero_iff_isPowerOfTwo).mp ⟨by omega, h2⟩
  obtain rfl : m = 2 ^ n - 1 := by omega
  show x &&& (2 ^ n - 1) = x
  rw [Nat.and_two_pow_sub_one_eq_mod]
  exact Nat.mod_eq_of_lt (by omega)
end S

/-! ===== a heap of which some cells are known in part ===== -/
abbrev sX : Type := Nat ⊕ List (sN × sN)
abbrev sC : Type := Nat × Nat × sX
abbrev sH : Type := List (Nat × sC)
def kw (kd : Nat) : Nat := match kd with
  | 0 => 32
  | 2 => 8
  | 3 => 8
  | _ => 64
section S
variable {β : Type}
theorem sand_spec {ρ : Nat → Nat} {B : List (Nat × Nat)} (hB : sok ρ B) (M : Nat) (f : Nat → Nat → Nat) (hf : ∀ x y, f x y = Nat.land (x % M) (y % M)) (a b : sN) (z : β) (k : sN → β) : sand B M f a b z k = z ∨ ∃ v, sand B M f a b z k = k v ∧ sden ρ v = f (sden ρ a) (sden ρ b) := by
  unfold sand
  rcases scs_spec ρ a (scs b z fun m => cond (Nat.beq (Nat.land (Nat.add m 1) m) 0) (cond (Nat.blt m M) (sbel B (Nat.add m 1) a z (k a)) z) z) (fun _ => sbin f a b z k) with ⟨h, -⟩ | h
  · rw [h]; exact sbin_spec ρ f a b z k
  · rw [h]
    rcases scs_spec ρ b z (fun m => cond (Nat.beq (Nat.land (Nat.add m 1) m) 0) (cond (Nat.blt m M) (sbel B (Nat.add m 1) a z (k a)) z) z) with ⟨g, g2, -⟩ | g
    · rw [g]
      cases e1 : Nat.beq (Nat.land (Nat.add b.1 1) b.1) 0 with
      | false => exact Or.inl rfl
      | true => cases e2 : Nat.blt b.1 M with
        | false => exact Or.inl rfl
        | true =>
          rcases sbel_spec hB (Nat.add b.1 1) a z (k a) with q | ⟨q, qa⟩
          · exact Or.inl q
          · refine Or.inr ⟨a, q, ?_⟩
            have h3 := di_blt.mp e2
            have h4 : sden ρ a < b.1 + 1 := qa
            rw [hf, g2, Nat.mod_eq_of_lt h3, Nat.mod_eq_of_lt (show sden ρ a < M by omega)]
            exact (and_mask (Nat.eq_of_beq_eq_true e1) h4).symm
    · exact Or.inl g
/-- a function of one number that leaves those below m -/
noncomputable def sun (B : List (Nat × Nat)) (f : Nat → Nat) (m : Nat) (a : sN) (z : β) (k : sN → β) : β := scs a (sbel B m a z (k a)) fun x => fo (f x) fun v => k (v, [])
theorem sun_spec {ρ : Nat → Nat} {B : List (Nat × Nat)} (hB : sok ρ B) (f : Nat → Nat) (m : Nat) (hf : ∀ x, x < m → f x = x) (a : sN) (z : β) (k : sN → β) : sun B f m a z k = z ∨ ∃ v, sun B f m a z k = k v ∧ sden ρ v = f (sden ρ a) := by
  unfold sun
  rcases scs_spec ρ a (sbel B m a z (k a)) (fun x => fo (f x) fun v => k (v, [])) with ⟨h, h2, -⟩ | h
  · rw [h, fo_eq]; exact Or.inr ⟨_, rfl, by rw [h2]; rfl⟩
  · rw [h]
    rcases sbel_spec hB m a z (k a) with q | ⟨q, qa⟩
    · exact Or.inl q
    · exact Or.inr ⟨a, q, (hf _ qa).symm⟩
/-- bits side by side -/
noncomputable def sor (B : List (Nat × Nat)) (M : Nat) (f : Nat → Nat → Nat) (a b : sN) (z : β) (k : sN → β) : β := scs b (scs a z fun c => fo (Nat.sub c (Nat.land c (Nat.sub c 1))) fun w => cond (Nat.beq (Nat.land w (Nat.sub w 1)) 0) (cond (Nat.beq w 0) z (cond (Nat.beq (Nat.mod c w) 0) (sbel B w b z (fo (Nat.add c b.1) fun s => sbel B M (s, b.2) z (k (s, b.2)))) z)) z) fun _ => sbin f a b z k
theorem or_add {c w b : Nat} (h1 : Nat.land w (Nat.sub w 1) = 0) (h0 : w ≠ 0) (h2 : c % w = 0) (h3 : b < w) : Nat.lor c b = c + b := by
  obtain ⟨n, rfl⟩ : ∃ n, w = 2 ^ n := (Nat.ne_zero_and_sub_one_eq_zero_iff_isPowerOfTwo).mp ⟨h0, h1⟩
  obtain ⟨q, rfl⟩ := Nat.dvd_of_mod_eq_zero h2
  exact (Nat.two_pow_add_eq_or_of_lt h3 q).symm
theorem sor_spec {ρ : Nat → Nat} {B : List (Nat × Nat)} (hB : sok ρ B) (M : Nat) (f : Nat → Nat → Nat) (hf : ∀ x y, f x y = Nat.lor x y % M) (a b : sN) (z : β) (k : sN → β) : sor B M f a b z k = z ∨ ∃ v, sor B M f a b z k = k v ∧ sden ρ v = f (sden ρ a) (sden ρ b) := by
  unfold sor
  rcases scs_spec ρ b (scs a z fun c => fo (Nat.sub c (Nat.land c (Nat.sub c 1))) fun w => cond (Nat.beq (Nat.land w (Nat.sub w 1)) 0) (cond (Nat.beq w 0) z (cond (Nat.beq (Nat.mod c w) 0) (sbel B w b z (fo (Nat.add c b.1) fun s => sbel B M (s, b.2) z (k (s, b.2)))) z)) z) (fun _ => sbin f a b z k) with ⟨h, -⟩ | h
  · rw [h]; exact sbin_spec ρ f a b z k
  · rw [h]
    rcases scs_spec ρ a z (fun c => fo (Nat.sub c (Nat.land c (Nat.sub c 1))) fun w => cond (Nat.beq (Nat.land w (Nat.sub w 1)) 0) (cond (Nat.beq w 0) z (cond (Nat.beq (Nat.mod c w) 0) (sbel B w b z (fo (Nat.add c b.1) fun s => sbel B M (s, b.2) z (k (s, b.2)))) z)) z) with ⟨g, g2, -⟩ | g
    · rw [g, fo_eq]
      generalize hw : Nat.sub a.1 (Nat.land a.1 (Nat.sub a.1 1)) = w
      cases e1 : Nat.beq (Nat.land w (Nat.sub w 1)) 0 with
      | false => exact Or.inl rfl
      | true => cases e2 : Nat.beq w 0 with
        | true => exact Or.inl rfl
        | false => cases e3 : Nat.beq (Nat.mod a.1 w) 0 with
          | false => exact Or.inl rfl
          | true =>
            show sbel B w b z _ = z ∨ ∃ v, sbel B w b z _ = _ ∧ _
            rcases sbel_spec hB w b z (fo (Nat.add a.1 b.1) fun s => sbel B M (s, b.2) z (k (s, b.2))) with q | ⟨q, qa⟩
            · exact Or.inl q
            · rw [q, fo_eq]
              rcases sbel_spec hB M (Nat.add a.1 b.1, b.2) z (k (Nat.add a.1 b.1, b.2)) with p | ⟨p, pa⟩
              · exact Or.inl p
              · refine Or.inr ⟨_, p, ?_⟩
                have e4 : sden ρ (Nat.add a.1 b.1, b.2) = a.1 + sden ρ b := by show a.1 + b.1 + ssum ρ b.2 = _; unfold sden; omega
                rw [hf, g2, or_add (Nat.eq_of_beq_eq_true e1) (fun w0 => by rw [w0] at e2; cases e2) (Nat.eq_of_beq_eq_true e3) qa, e4]
                rw [e4] at pa
                exact (Nat.mod_eq_of_lt pa).symm
    · exact Or.inl g
noncomputable def slk (S : sH) (a : Nat) (z : β) (k : Nat → Nat → sX → β) : β := List.rec (motive := fun _ => β) z (fun e _ ih => cond (Nat.beq e.1 a) (k e.2.1 e.2.2.1 e.2.2.2) ih) S
theorem slk_spec (S : sH) (a : Nat) (z : β) (k : Nat → Nat → sX → β) : slk S a z k = z ∨ ∃ kd n X, (a, kd, n, X) ∈ S ∧ slk S a z k = k kd n X := by
  induction S with
  | nil => exact Or.inl rfl
  | cons e t ih =>
    have e1 : slk (e :: t) a z k = cond (Nat.beq e.1 a) (k e.2.1 e.2.2.1 e.2.2.2) (slk t a z k) := rfl
    cases h : Nat.beq e.1 a with
    | true =>
      obtain ⟨a', kd, n, X⟩ := e
      have := Nat.eq_of_beq_eq_true h
      subst this
      rw [e1, h]
      exact Or.inr ⟨kd, n, X, List.mem_cons_self, rfl⟩
    | false =>
      rw [e1, h]
      rcases ih with q | ⟨kd, n, X, q1, q2⟩
      · exact Or.inl q
      · exact Or.inr ⟨kd, n, X, List.mem_cons_of_mem _ q1, q2⟩
def ssl (a : Nat) (c : sC) : sH → sH
  | [] => []
  | e :: t => if e.1 = a then (a, c) :: t else e :: ssl a c t
noncomputable def sst (a : Nat) (c : sC) (S : sH) : (sH → β) → β := List.rec (motive := fun _ => (sH → β) → β) (fun k => k []) (fun e t ih k => cond (Nat.beq e.1 a) (k ((a, c) :: t)) (ih fun u => k (e :: u))) S
theorem sst_eq (a : Nat) (c : sC) (S : sH) (k : sH → β) : sst a c S k = k (ssl a c S) := by
  induction S generalizing k with
  | nil => rfl
  | cons e t ih =>
    have e1 : sst a c (e :: t) k = cond (Nat.beq e.1 a) (k ((a, c) :: t)) (sst a c t fun u => k (e :: u)) := rfl
    cases h : Nat.beq e.1 a with
    | true => rw [e1, h, ssl, if_pos (Nat.eq_of_beq_eq_true h)]; rfl
    | false =>
      rw [e1, h, ssl, if_neg (fun w => by rw [w, Nat.beq_refl] at h; cases h)]
      exact ih _
theorem ssl_keys (a : Nat) (c : sC) (S : sH) : (ssl a c S).map (·.1) = S.map (·.1) := by
  induction S with
  | nil => rfl
  | cons e t ih =>
    rw [ssl]
    split
    · rename_i h; rw [List.map_cons, List.map_cons, h]
    · rw [List.map_cons, List.map_cons, ih]
theorem ssl_mem {a : Nat} {c : sC} {S : sH} (hn : (S.map (·.1)).Nodup) {e : Nat × sC} (h : e ∈ ssl a c S) : e = (a, c) ∨ (e ∈ S ∧ e.1 ≠ a) := by
  induction S with
  | nil => cases h
  | cons x t ih =>
    rw [List.map_cons, List.nodup_cons] at hn
    rw [ssl] at h
    split at h
    · rename_i hx
      rcases List.mem_cons.mp h with h | h
      · exact Or.inl h
      · exact Or.inr ⟨List.mem_cons_of_mem _ h, fun w => hn.1 (by rw [hx, ← w]; exact List.mem_map.mpr ⟨e, h, rfl⟩)⟩
    · rename_i hx
      rcases List.mem_cons.mp h with h | h
      · rw [h]; exact Or.inr ⟨List.mem_cons_self, hx⟩
      · rcases ih hn.2 h with q | ⟨q1, q2⟩
        · exact Or.inl q
        · exact Or.inr ⟨List.mem_cons_of_mem _ q1, q2⟩
/-- a place whose word is known -/
noncomputable def sgt (B : List (Nat × Nat)) (i : sN) (z : β) (O : List (sN × sN)) (k : sN → β) : β := List.rec (motive := fun _ => β) z (fun e _ ih => scmp B e.1 i ih (k e.2) ih z) O
theorem sgt_spec {ρ : Nat → Nat} {B : List (Nat × Nat)} (hB : sok ρ B) (i : sN) (z : β) (O : List (sN × sN)) (k : sN → β) : sgt B i z O k = z ∨ ∃ e ∈ O, sden ρ e.1 = sden ρ i ∧ sgt B i z O k = k e.2 := by
  induction O with
  | nil => exact Or.inl rfl
  | cons e t ih =>
    have e1 : sgt B i z (e :: t) k = scmp B e.1 i (sgt B i z t k) (k e.2) (sgt B i z t k) z := rfl
    have tl : ∀ X, X = sgt B i z t k → X = z ∨ ∃ e' ∈ e :: t, sden ρ e'.1 = sden ρ i ∧ X = k e'.2 := by
      intro X hX
      rcases ih with q | ⟨e', q1, q2, q3⟩
      · exact Or.inl (hX.trans q)
      · exact Or.inr ⟨e', List.mem_cons_of_mem _ q1, q2, hX.trans q3⟩
    rcases scmp_spec hB e.1 i (sgt B i z t k) (k e.2) (sgt B i z t k) z with h | ⟨h, -⟩ | ⟨h, g⟩ | ⟨h, -⟩
    · exact Or.inl (e1.trans h)
    · exact tl _ (e1.trans h)
    · exact Or.inr ⟨e, List.mem_cons_self, g, e1.trans h⟩
    · exact tl _ (e1.trans h)
/-- what a row of known places says of a content; elsewhere it is as at first -/
def sct (ρ : Nat → Nat) (w ct0 : Nat) (X : sX) (ct : Nat) : Prop := match X with
  | .inl c => ct = c
  | .inr O => (O.map fun e => sden ρ e.1).Nodup ∧ (∀ e ∈ O, wd w ct (sden ρ e.1) = sden ρ e.2) ∧ ∀ j, (∀ e ∈ O, sden ρ e.1 ≠ j) → wd w ct j = wd w ct0 j
noncomputable def srd (B : List (Nat × Nat)) (w : Nat) (X : sX) (i : sN) (z : β) (k : sN → β) : β := Sum.rec (motive := fun _ => β) (fun ct => scs i z fun j => fo (wd w ct j) fun v => k (v, [])) (fun O => sgt B i z O k) X
theorem srd_spec {ρ : Nat → Nat} {B : List (Nat × Nat)} (hB : sok ρ B) (w ct0 ct : Nat) (X : sX) (hX : sct ρ w ct0 X ct) (i : sN) (z : β) (k : sN → β) : srd B w X i z k = z ∨ ∃ v, srd B w X i z k = k v ∧ sden ρ v = wd w ct (sden ρ i) := by
  cases X with
  | inl c =>
    have hc : ct = c := hX
    subst hc
    show scs i z (fun j => fo (wd w ct j) fun v => k (v, [])) = z ∨ ∃ v, scs i z (fun j => fo (wd w ct j) fun v => k (v, [])) = k v ∧ _
    rcases scs_spec ρ i z (fun j => fo (wd w ct j) fun v => k (v, [])) with ⟨h, h2, -⟩ | h
    · rw [h, fo_eq]; exact Or.inr ⟨_, rfl, by rw [h2]; rfl⟩
    · exact Or.inl h
  | inr O =>
    rcases sgt_spec hB i z O k with h | ⟨e, h1, h2, h3⟩
    · exact Or.inl h
    · exact Or.inr ⟨e.2, h3, by rw [← h2]; exact (hX.2.1 e h1).symm⟩
noncomputable def sup (B : List (Nat × Nat)) (i v : sN) (z : β) (O : List (sN × sN)) : (List (sN × sN) → β) → β := List.rec (motive := fun _ => (List (sN × sN) → β) → β) (fun k => k [(i, v)]) (fun e t ih k => scmp B e.1 i (ih fun u => k (e :: u)) (k ((i, v) :: t)) (ih fun u => k (e :: u)) z) O
theorem sup_spec {ρ : Nat → Nat} {B : List (Nat × Nat)} (hB : sok ρ B) (i v : sN) (z : β) (O : List (sN × sN)) (k : List (sN × sN) → β) : sup B i v z O k = z ∨ ∃ O', sup B i v z O k = k O' ∧ ((∃ P e Q, O = P ++ e :: Q ∧ sden ρ e.1 = sden ρ i ∧ O' = P ++ (i, v) :: Q) ∨ (O' = O ++ [(i, v)] ∧ ∀ e ∈ O, sden ρ e.1 ≠ sden ρ i)) := by
  induction O generalizing k with
  | nil => exact Or.inr ⟨[(i, v)], rfl, Or.inr ⟨rfl, fun e he => by cases he⟩⟩
  | cons e t ih =>
    have e1 : sup B i v z (e :: t) k = scmp B e.1 i (sup B i v z t fun u => k (e :: u)) (k ((i, v) :: t)) (sup B i v z t fun u => k (e :: u)) z := rfl
    have tl : ∀ X, X = sup B i v z t (fun u => k (e :: u)) → sden ρ e.1 ≠ sden ρ i → X = z ∨ ∃ O', X = k O' ∧ ((∃ P e' Q, e :: t = P ++ e' :: Q ∧ sden ρ e'.1 = sden ρ i ∧ O' = P ++ (i, v) :: Q) ∨ (O' = (e :: t) ++ [(i, v)] ∧ ∀ e' ∈ e :: t, sden ρ e'.1 ≠ sden ρ i)) := by
      intro X hX hne
      rcases ih (fun u => k (e :: u)) with q | ⟨O', q1, q2⟩
      · exact Or.inl (hX.trans q)
      · refine Or.inr ⟨e :: O', hX.trans q1, ?_⟩
        rcases q2 with ⟨P, e', Q, w1, w2, w3⟩ | ⟨w1, w2⟩
        · exact Or.inl ⟨e :: P, e', Q, by rw [w1]; rfl, w2, by rw [w3]; rfl⟩
        · refine Or.inr ⟨by rw [w1]; rfl, fun e' he' => ?_⟩
          rcases List.mem_cons.mp he' with rfl | he'
          · exact hne
          · exact w2 e' he'
    rcases scmp_spec hB e.1 i (sup B i v z t fun u => k (e :: u)) (k ((i, v) :: t)) (sup B i v z t fun u => k (e :: u)) z with h | ⟨h, g⟩ | ⟨h, g⟩ | ⟨h, g⟩
    · exact Or.inl (e1.trans h)
    · exact tl _ (e1.trans h) (by omega)
    · exact Or.inr ⟨_, e1.trans h, Or.inl ⟨[], e, t, rfl, g, rfl⟩⟩
    · exact tl _ (e1.trans h) (by omega)
noncomputable def swr (B : List (Nat × Nat)) (w : Nat) (X : sX) (i v : sN) (z : β) (k : sX → β) : β := Sum.rec (motive := fun _ => β) (fun ct => scs i z fun j => scs v z fun x => fo (wst w ct j x) fun c => k (.inl c)) (fun O => sup B i v z O fun O' => k (.inr O')) X
theorem swr_spec {ρ : Nat → Nat} {B : List (Nat × Nat)} (hB : sok ρ B) (w ct : Nat) (X : sX) (i v : sN) (hv : sden ρ v < 2 ^ w) (z : β) (k : sX → β) : swr B w X i v z k = z ∨ ∃ X', swr B w X i v z k = k X' ∧ ∀ ct0, sct ρ w ct0 X ct → sct ρ w ct0 X' (wst w ct (sden ρ i) (sden ρ v)) := by
  cases X with
  | inl c =>
    show scs i z (fun j => scs v z fun x => fo (wst w c j x) fun c => k (.inl c)) = z ∨ ∃ X', scs i z (fun j => scs v z fun x => fo (wst w c j x) fun c => k (.inl c)) = k X' ∧ _
    rcases scs_spec ρ i z (fun j => scs v z fun x => fo (wst w c j x) fun c => k (.inl c)) with ⟨h, h2, -⟩ | h
    · rw [h]
      rcases scs_spec ρ v z (fun x => fo (wst w c i.1 x) fun c => k (.inl c)) with ⟨g, g2, -⟩ | g
      · rw [g, fo_eq]; exact Or.inr ⟨_, rfl, fun ct0 hX => by rw [show ct = c from hX, h2, g2]; rfl⟩
      · exact Or.inl g
    · exact Or.inl h
  | inr O =>
    have r : ∀ j, wd w (wst w ct (sden ρ i) (sden ρ v)) j = if j = sden ρ i then sden ρ v else wd w ct j := fun j => wd_wst j hv
    rcases sup_spec hB i v z O (fun O' => k (.inr O')) with h | ⟨O', h1, h2⟩
    · exact Or.inl h
    · refine Or.inr ⟨.inr O', h1, fun ct0 hX => ?_⟩
      obtain ⟨n1, n2, n3⟩ := hX
      rcases h2 with ⟨P, e, Q, rfl, w2, rfl⟩ | ⟨rfl, w2⟩
      · have n1' : ((P ++ (i, v) :: Q).map fun e => sden ρ e.1).Nodup := by
          simp only [List.map_append, List.map_cons] at n1 ⊢
          rw [w2] at n1
          exact n1
        have ne : ∀ e' ∈ P ++ Q, sden ρ e'.1 ≠ sden ρ i := by
          intro e' he' w
          simp only [List.map_append, List.map_cons] at n1'
          rw [List.nodup_append] at n1'
          obtain ⟨-, m2, m3⟩ := n1'
          rcases List.mem_append.mp he' with he' | he'
          · exact m3 _ (List.mem_map.mpr ⟨e', he', rfl⟩) _ List.mem_cons_self w
          · exact (List.nodup_cons.mp m2).1 (by rw [← w]; exact List.mem_map.mpr ⟨e', he', rfl⟩)
        refine ⟨n1', fun e' he' => ?_, fun j hj => ?_⟩
        · rw [r]
          rcases List.mem_append.mp he' with he' | he'
          · rw [if_neg (ne e' (List.mem_append_left _ he'))]
            exact n2 e' (List.mem_append_left _ he')
          · rcases List.mem_cons.mp he' with rfl | he'
            · rw [if_pos rfl]
            · rw [if_neg (ne e' (List.mem_append_right _ he'))]
              exact n2 e' (List.mem_append_right _ (List.mem_cons_of_mem _ he'))
        · have hji : ¬ j = sden ρ i := fun w => hj (i, v) (List.mem_append_right _ List.mem_cons_self) w.symm
          rw [r, if_neg hji]
          refine n3 j fun e' he' => ?_
          rcases List.mem_append.mp he' with he' | he'
          · exact hj e' (List.mem_append_left _ he')
          · rcases List.mem_cons.mp he' with rfl | he'
            · rw [w2]; exact fun w => hji w.symm
            · exact hj e' (List.mem_append_right _ (List.mem_cons_of_mem _ he'))
      · refine ⟨?_, fun e' he' => ?_, fun j hj => ?_⟩
        · rw [List.map_append, List.nodup_append]
          refine ⟨n1, by simp, fun x hx y hy => ?_⟩
          obtain ⟨e', he', rfl⟩ := List.mem_map.mp hx
          rw [List.map_cons, List.map_nil, List.mem_singleton] at hy
          rw [hy]
          exact w2 e' he'
        · rw [r]
          rcases List.mem_append.mp he' with he' | he'
          · rw [if_neg (w2 e' he')]; exact n2 e' he'
          · rw [List.mem_singleton.mp he', if_pos rfl]
        · have hji : ¬ j = sden ρ i := fun w => hj (i, v) (List.mem_append_right _ (List.mem_singleton.mpr rfl)) w.symm
          rw [r, if_neg hji]
          exact n3 j fun e' he' => hj e' (List.mem_append_left _ he')
end S

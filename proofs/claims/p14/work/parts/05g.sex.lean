/-! ===== the symbolic run: calls, jumps, answers, and answers that are known by contract ===== -/
noncomputable def sdal {β : Type} (as : List sV) : Nat → (sL → Nat → β) → β := List.rec (motive := fun _ => Nat → (sL → Nat → β) → β) (fun i k => k [] i) (fun v _ ih i k => cond (sisl v) (fo (Nat.add i 2) fun j => ih j (fun u n => k ((i, v) :: u) n)) (fo (Nat.add i 1) fun j => ih j (fun u n => k ((i, v) :: u) n))) as
theorem sdal_s (ρ : Nat → Nat) {β : Type} (as : List sV) (i : Nat) (k : sL → Nat → β) : ∃ L2 n, sdal as i k = k L2 n ∧ ∀ {γ : Type} (k2 : dL → Nat → γ), dargs (as.map (svd ρ)) i k2 = k2 (slD ρ L2) n := by
  induction as generalizing i k with
  | nil => exact ⟨[], i, rfl, fun _ => rfl⟩
  | cons v t ih =>
    have e1 : sdal (v :: t) i k = cond (sisl v) (fo (Nat.add i 2) fun j => sdal t j (fun u n => k ((i, v) :: u) n)) (fo (Nat.add i 1) fun j => sdal t j (fun u n => k ((i, v) :: u) n)) := rfl
    have e2 : ∀ {γ : Type} (k2 : dL → Nat → γ), dargs ((v :: t).map (svd ρ)) i k2 = cond (disl (svd ρ v)) (dargs (t.map (svd ρ)) (Nat.succ (Nat.succ i)) (fun u n => k2 ((i, svd ρ v) :: u) n)) (dargs (t.map (svd ρ)) (Nat.succ i) (fun u n => k2 ((i, svd ρ v) :: u) n)) := fun _ => rfl
    cases h : sisl v with
    | true =>
      obtain ⟨L2, n, h1, h2⟩ := ih (i + 2) (fun u n => k ((i, v) :: u) n)
      refine ⟨(i, v) :: L2, n, by rw [e1, h, cond_true, fo_eq]; exact h1, fun k2 => ?_⟩
      rw [e2, sisl_d, h]
      exact h2 _
    | false =>
      obtain ⟨L2, n, h1, h2⟩ := ih (i + 1) (fun u n => k ((i, v) :: u) n)
      refine ⟨(i, v) :: L2, n, by rw [e1, h, cond_false, fo_eq]; exact h1, fun k2 => ?_⟩
      rw [e2, sisl_d, h]
      exact h2 _
def spsh (v : Option sV) (st : List sV) : List sV := match v with
  | none => st
  | some w => w :: st
def sthr (v : Option sV) : Bool := match v with
  | some (.inr (.inr _)) => true
  | _ => false
theorem sthr_d (ρ : Nat → Nat) (v : Option sV) : dthr (v.map (svd ρ)) = sthr v := by
  match v with
  | none => rfl
  | some (.inl _) => rfl
  | some (.inr (.inl _)) => rfl
  | some (.inr (.inr _)) => rfl
theorem spsh_d (ρ : Nat → Nat) (nxt : dCode) (rec : dRec) (d : Nat) (L : dL) (st : List sV) (v : Option sV) (u : dH) : dgo nxt rec d L (st.map (svd ρ)) (v.map (svd ρ)) u = nxt rec d L ((spsh v st).map (svd ρ)) u := by cases v <;> rfl
/-- an instruction: how long, its number, what it does -/
abbrev sHi : Type := Nat × Nat × sOp
noncomputable def hxf (i : dI) : sHi := (i.2.1, i.2.2, sopO i.1 i.2.2)
abbrev sEx : Type := Nat → Nat → Nat → Nat → (Nat × Nat) → List sHi → sL → List sV → sH → List sFr → List sLf → sR
noncomputable def sdrp {α : Type} (n : Nat) : List α → List α := Nat.rec (motive := fun _ => List α → List α) (fun l => l) (fun _ ih l => List.rec (motive := fun _ => List α) [] (fun _ t _ => ih t) l) n
theorem sdrp_eq {α : Type} (n : Nat) (l : List α) : sdrp n l = l.drop n := by
  induction n generalizing l with
  | zero => rfl
  | succ n ih => cases l with
    | nil => rfl
    | cons a t => exact ih t
section D
variable (B : List (Nat × Nat)) (fx : Nat → sN → sN → Option sN) (kdo : Nat → Option Nat) (pgh : Nat → Nat → Option (List sHi)) (stp : Nat → Nat → List sFr → Bool) (orc : Nat → List sV → Option (List (Option sV))) (F0 D0 : Nat)
noncomputable def sjmp (ih : sEx) (f d y pc : Nat) (L : sL) (st : List sV) (S : sH) (K : List sFr) (acc : List sLf) : sR := cond (stp y pc K) (some (.inl (f, d, y, pc, L, st, S, K) :: acc)) (Nat.rec (motive := fun _ => sR) none (fun f2 _ => sO (pgh y pc) fun is => ih f2 d y pc (pc, 0) is L st S K acc) f)
noncomputable def sfrk (ih : sEx) (f d y pc : Nat) (b : Nat × Nat) (is : List sHi) (L : sL) (r : List sV) (S : sH) (K : List sFr) (outs : List (Option sV)) : List sLf → sR := List.rec (motive := fun _ => List sLf → sR) (fun acc => some acc) (fun o _ t acc => cond (sthr o) none (sO (ih f d y pc b is L (spsh o r) S K acc) fun acc2 => t acc2)) outs
noncomputable def scal (ih : sEx) (f d y pc : Nat) (b : Nat × Nat) (is : List sHi) (x : Nat) (L : sL) (S : sH) (K : List sFr) (acc : List sLf) (fl : Bool) (as r : List sV) : sR := Nat.rec (motive := fun _ => sR) none (fun d2 _ => sdal as 0 fun L2 n => cond (Nat.ble n (Nat.mod (Nat.div x 256) 64)) (fo (Nat.div x 16384) fun y2 => Option.rec (motive := fun _ => sR) (sjmp pgh stp ih f d2 y2 0 L2 [] S ((fl, f, d, y, pc, b, L, r) :: K) acc) (fun outs => cond (Nat.ble F0 f) (cond (Nat.ble D0 d2) (sfrk ih f d y pc b is L r S K outs acc) none) none) (orc y2 as)) none) d
noncomputable def sret (ih : sEx) (S : sH) (K : List sFr) (acc : List sLf) (v : Option sV) : sR := List.rec (motive := fun _ => sR) (some (.inr (v, S) :: acc)) (fun q K2 _ => cond (sthr v) none (sO (pgh q.2.2.2.1 q.2.2.2.2.2.1.1) fun hl => ih q.2.1 q.2.2.1 q.2.2.2.1 q.2.2.2.2.1 q.2.2.2.2.2.1 (sdrp q.2.2.2.2.2.1.2 hl) q.2.2.2.2.2.2.1 (spsh v q.2.2.2.2.2.2.2) S K2 acc)) K
noncomputable def sex (N : Nat) : sEx := Nat.rec (motive := fun _ => sEx) (fun _ _ _ _ _ _ _ _ _ _ _ => none) (fun _ ih f d y pc b is L st S K acc => List.rec (motive := fun _ => sR) (sjmp pgh stp ih f d y pc L st S K acc) (fun i rest _ => fo (Nat.add pc i.1) fun pc2 => fo (Nat.succ b.2) fun n2 => i.2.2 B fx kdo d L st S (fun L st S => ih f d y pc2 (b.1, n2) rest L st S K acc) (fun pc3 L st => sjmp pgh stp ih f d y pc3 L st S K acc) (fun fl as r => scal pgh stp orc F0 D0 ih f d y pc2 (b.1, n2) rest i.2.1 L S K acc fl as r) (fun v => sret pgh ih S K acc v)) is) N
end D
/-- what a run shows, with the calls that wait for it -/
def kGoal (G : dR → Prop) : List (Option dV → dH → dR) → dR → Prop
  | [], z => G z
  | k :: ks, z => kGoal G ks (opt z fun q => k q.1 q.2)
/-- what is left of a block -/
noncomputable def sblk (pg : Nat → Nat → Option (List dI)) (y : Nat) (b : Nat × Nat) : List dI := match pg y b.1 with
  | some is => is.drop b.2
  | none => []
noncomputable def kden (pg : Nat → Nat → Option (List dI)) (P : Nat → Nat → Option dCode) (ρ : Nat → Nat) (e : Nat) (q : sFr) : Option dV → dH → dR := fun v u => cond (dthr v) (cond q.1 (some (v, u)) none) (dgo (dcomp q.2.2.2.1 (sblk pg q.2.2.2.1 q.2.2.2.2.2.1) q.2.2.2.2.1) (drun P (q.2.1 + e)) q.2.2.1 (slD ρ q.2.2.2.2.2.2.1) (q.2.2.2.2.2.2.2.map (svd ρ)) v u)
def leafOK (pg : Nat → Nat → Option (List dI)) (P : Nat → Nat → Option dCode) (ρ : Nat → Nat) (e : Nat) (Op : Nat → Bool) (g : dH) (I : dH → Prop) (G : dR → Prop) (x : sLf) : Prop := match x with
  | .inl (f, d, y, pc, L, st, S, K) => ∀ u, ssat ρ Op g S u → I u → kGoal G (K.map (kden pg P ρ e)) (drun P (f + e) d y pc (slD ρ L) (st.map (svd ρ)) u)
  | .inr (v, S) => ∀ u, ssat ρ Op g S u → I u → G (some (v.map (svd ρ), u))
section S
variable {B : List (Nat × Nat)} {fx : Nat → sN → sN → Option sN} {kdo : Nat → Option Nat} {pg : Nat → Nat → Option (List dI)} {pgh : Nat → Nat → Option (List sHi)} {stp : Nat → Nat → List sFr → Bool} {orc : Nat → List sV → Option (List (Option sV))} {F0 D0 : Nat} {P : Nat → Nat → Option dCode} {ρ : Nat → Nat} {Op : Nat → Bool} {g : dH} {I : dH → Prop} {G : dR → Prop}
theorem dcomp_cons (y : Nat) (i : dI) (is : List dI) (pc : Nat) {o : dOp} (h : dop i.1 i.2.2 = some o) : dcomp y (i :: is) pc = o y i.2.2 (dcomp y is (pc + i.2.1)) := by
  show (match dop i.1 i.2.2 with
    | none => dnone
    | some o => o y i.2.2 (dcomp y is (pc + i.2.1))) = _
  rw [h]
theorem ssat_new {S : sH} {u u2 : dH} (h : ssat ρ Op g S u) (hw : hwf u2) (e1 : u2.1 = u.1) (e2 : u2.2.1 = u.2.1) (e : ∀ a, Op a = false → hat u2 a = hat u a) : ssat ρ Op g S u2 := by
  obtain ⟨h1, h2, h3, h4, h5, h6, h7⟩ := h
  refine ⟨hw, e1.trans h2, e2.trans h3, h4, h5, fun a ha hn => (e a ha).trans (h6 a ha hn), fun a kd n X hm => ?_⟩
  obtain ⟨c0, ct, g1, g2, g3⟩ := h7 a kd n X hm
  exact ⟨c0, ct, g1, (e a (h5 _ hm)).trans g2, g3⟩
theorem sex_ok (e : Nat) (hB : sok ρ B) (hfx : ∀ i a b v, fx i a b = some v → opf i (sden ρ a) (sden ρ b) = sden ρ v) (hP : ∀ y pc is, pg y pc = some is → P y pc = some (dcomp y is pc)) (hH : ∀ y pc hl, pgh y pc = some hl → ∃ is, pg y pc = some is ∧ hl = is.map hxf) (hIo : ∀ u u2 : dH, (∀ q, Op q = true → hat u2 q = hat u q) → hwf u2 → I u → I u2)
    (hK : ∀ a kd, kdo a = some kd → ∀ S u, ssat ρ Op g S u → I u → ∃ n ct, hat u a = some (kd, n, ct))
    (hO : ∀ y as outs, orc y as = some outs → ∀ f d u S, F0 ≤ f → D0 ≤ d → ssat ρ Op g S u → I u → ∃ o ∈ outs, ∃ u2, (dargs (as.map (svd ρ)) 0 fun L _ => drun P f d y 0 L [] u) = some (o.map (svd ρ), u2) ∧ I u2 ∧ hwf u2 ∧ u2.1 = u.1 ∧ u2.2.1 = u.2.1 ∧ ∀ a, Op a = false → hat u2 a = hat u a)
    (N : Nat) : ∀ f d y pc b is hl L st S K acc lv, (is = [] ∨ sblk pg y b = is) → hl = is.map hxf → sex B fx kdo pgh stp orc F0 D0 N f d y pc b hl L st S K acc = some lv → (∀ x ∈ lv, leafOK pg P ρ e Op g I G x) → ∀ u, ssat ρ Op g S u → I u → (∀ x ∈ acc, x ∈ lv) ∧ kGoal G (K.map (kden pg P ρ e)) (dcomp y is pc (drun P (f + e)) d (slD ρ L) (st.map (svd ρ)) u) := by
  induction N with
  | zero => intro f d y pc b is hl L st S K acc lv _ _ h; cases h
  | succ N ih =>
    intro f d y pc b is hll L st S K acc lv hb hh h hl u hS hI
    have hj : ∀ (f d y pc : Nat) (L : sL) (st : List sV) (S : sH) (K : List sFr) (acc lv : List sLf) (u : dH), sjmp pgh stp (sex B fx kdo pgh stp orc F0 D0 N) f d y pc L st S K acc = some lv → (∀ x ∈ lv, leafOK pg P ρ e Op g I G x) → ssat ρ Op g S u → I u → (∀ x ∈ acc, x ∈ lv) ∧ kGoal G (K.map (kden pg P ρ e)) (drun P (f + e) d y pc (slD ρ L) (st.map (svd ρ)) u) := by
      intro f d y pc L st S K acc lv u h hl hS hI
      unfold sjmp at h
      cases es : stp y pc K with
      | true =>
        rw [es] at h
        cases h
        exact ⟨fun x hx => List.mem_cons_of_mem _ hx, hl _ List.mem_cons_self u hS hI⟩
      | false =>
        rw [es] at h
        cases f with
        | zero => cases h
        | succ f2 =>
          obtain ⟨hl2, h0, h2⟩ := sO_s (show sO (pgh y pc) (fun is => sex B fx kdo pgh stp orc F0 D0 N f2 d y pc (pc, 0) is L st S K acc) = some lv from h)
          obtain ⟨is, h1, h9⟩ := hH y pc hl2 h0
          have h3 := ih f2 d y pc (pc, 0) is hl2 L st S K acc lv (Or.inr (by unfold sblk; rw [h1]; rfl)) h9 h2 hl u hS hI
          refine ⟨h3.1, ?_⟩
          have e4 : drun P (f2 + 1 + e) d y pc (slD ρ L) (st.map (svd ρ)) u = dcomp y is pc (drun P (f2 + e)) d (slD ρ L) (st.map (svd ρ)) u := by
            rw [show f2 + 1 + e = (f2 + e) + 1 by omega]
            show opt (P y pc) (fun c => c (drun P (f2 + e)) d (slD ρ L) (st.map (svd ρ)) u) = _
            rw [hP y pc is h1]; rfl
          rw [e4]
          exact h3.2
    cases is with
    | nil =>
      subst hh
      have h2 : sjmp pgh stp (sex B fx kdo pgh stp orc F0 D0 N) f d y pc L st S K acc = some lv := h
      exact hj f d y pc L st S K acc lv u h2 hl hS hI
    | cons i rest =>
      subst hh
      have hb2 : sblk pg y (b.1, Nat.succ b.2) = rest := by
        have hb3 : sblk pg y b = i :: rest := hb.resolve_left (by simp)
        unfold sblk at hb3 ⊢
        cases hp : pg y b.1 with
        | none => rw [hp] at hb3; cases hb3
        | some l =>
          rw [hp] at hb3
          show l.drop (b.2 + 1) = rest
          have hb4 : l.drop b.2 = i :: rest := hb3
          rw [← List.drop_drop, hb4]; rfl
      have h2 : (fo (Nat.add pc i.2.1) fun pc2 => fo (Nat.succ b.2) fun n2 => sop B fx kdo d i.1 i.2.2 L st S (fun L st S => sex B fx kdo pgh stp orc F0 D0 N f d y pc2 (b.1, n2) (rest.map hxf) L st S K acc) (fun pc3 L st => sjmp pgh stp (sex B fx kdo pgh stp orc F0 D0 N) f d y pc3 L st S K acc) (fun fl as r => scal pgh stp orc F0 D0 (sex B fx kdo pgh stp orc F0 D0 N) f d y pc2 (b.1, n2) (rest.map hxf) i.2.2 L S K acc fl as r) (fun v => sret pgh (sex B fx kdo pgh stp orc F0 D0 N) S K acc v)) = some lv := h
      rw [fo_eq, fo_eq] at h2
      obtain ⟨o, ho, hT⟩ := sop_ok (T := fun z => (∀ x ∈ acc, x ∈ lv) ∧ kGoal G (K.map (kden pg P ρ e)) z) (nxt := dcomp y rest (pc + i.2.1)) (rec := drun P (f + e)) (y := y) hB hfx hIo hK hS hI
        (fun L2 st2 S2 u2 hS2 hI2 hn => ih f d y _ (b.1, Nat.succ b.2) rest _ L2 st2 S2 K acc lv (Or.inr hb2) rfl hn hl u2 hS2 hI2)
        (fun pc3 L2 st2 hn => hj f d y pc3 L2 st2 S K acc lv u hn hl hS hI)
        (fun fl as r hn => by
          unfold scal at hn
          cases d with
          | zero => cases hn
          | succ d2 =>
            obtain ⟨L2, n, g1, g2⟩ := sdal_s ρ as 0 (fun L2 n => cond (Nat.ble n (Nat.mod (Nat.div i.2.2 256) 64)) (fo (Nat.div i.2.2 16384) fun y2 => Option.rec (motive := fun _ => sR) (sjmp pgh stp (sex B fx kdo pgh stp orc F0 D0 N) f d2 y2 0 L2 [] S ((fl, f, d2 + 1, y, pc + i.2.1, (b.1, Nat.succ b.2), L, r) :: K) acc) (fun outs => cond (Nat.ble F0 f) (cond (Nat.ble D0 d2) (sfrk (sex B fx kdo pgh stp orc F0 D0 N) f (d2 + 1) y (pc + i.2.1) (b.1, Nat.succ b.2) (rest.map hxf) L r S K outs acc) none) none) (orc y2 as)) none)
            have hn2 : sdal as 0 (fun L2 n => cond (Nat.ble n (Nat.mod (Nat.div i.2.2 256) 64)) (fo (Nat.div i.2.2 16384) fun y2 => Option.rec (motive := fun _ => sR) (sjmp pgh stp (sex B fx kdo pgh stp orc F0 D0 N) f d2 y2 0 L2 [] S ((fl, f, d2 + 1, y, pc + i.2.1, (b.1, Nat.succ b.2), L, r) :: K) acc) (fun outs => cond (Nat.ble F0 f) (cond (Nat.ble D0 d2) (sfrk (sex B fx kdo pgh stp orc F0 D0 N) f (d2 + 1) y (pc + i.2.1) (b.1, Nat.succ b.2) (rest.map hxf) L r S K outs acc) none) none) (orc y2 as)) none) = some lv := hn
            rw [g1] at hn2
            obtain ⟨g3, hn3⟩ := scd_t hn2
            rw [fo_eq] at hn3
            have ed : ∀ k : Option dV → dH → dR, dcall (drun P (f + e)) (d2 + 1) i.2.2 (as.map (svd ρ)) u k = opt (drun P (f + e) d2 (Nat.div i.2.2 16384) 0 (slD ρ L2) [] u) fun z => k z.1 z.2 := by
              intro k
              show dargs (as.map (svd ρ)) 0 (fun L n => cond (Nat.ble n (Nat.mod (Nat.div i.2.2 256) 64)) (opt (drun P (f + e) d2 (Nat.div i.2.2 16384) 0 L [] u) fun z => Prod.rec (motive := fun _ => dR) (fun r h' => k r h') z) none) = _
              rw [g2, g3]; rfl
            rw [ed]
            cases eo : orc (Nat.div i.2.2 16384) as with
            | none =>
              rw [eo] at hn3
              rw [show dcomp y rest (pc + i.2.1) = dcomp y (sblk pg y (b.1, Nat.succ b.2)) (pc + i.2.1) by rw [hb2]]
              exact hj f d2 _ 0 L2 [] S ((fl, f, d2 + 1, y, pc + i.2.1, (b.1, Nat.succ b.2), L, r) :: K) acc lv u hn3 hl hS hI
            | some outs =>
              rw [eo] at hn3
              obtain ⟨g4, hn4⟩ := scd_t (show cond (Nat.ble F0 f) (cond (Nat.ble D0 d2) (sfrk (sex B fx kdo pgh stp orc F0 D0 N) f (d2 + 1) y (pc + i.2.1) (b.1, Nat.succ b.2) (rest.map hxf) L r S K outs acc) none) none = some lv from hn3)
              obtain ⟨g5, hn5⟩ := scd_t hn4
              obtain ⟨o, ho, u2, q1, q2, q3, q4, q5, q6⟩ := hO _ as outs eo (f + e) d2 u S (Nat.le_trans (Nat.le_of_ble_eq_true g4) (Nat.le_add_right f e)) (Nat.le_of_ble_eq_true g5) hS hI
              rw [g2] at q1
              rw [q1]
              have hS2 := ssat_new hS q3 q4 q5 q6
              have key : ∀ (outs : List (Option sV)) (acc lv : List sLf), sfrk (sex B fx kdo pgh stp orc F0 D0 N) f (d2 + 1) y (pc + i.2.1) (b.1, Nat.succ b.2) (rest.map hxf) L r S K outs acc = some lv → (∀ x ∈ lv, leafOK pg P ρ e Op g I G x) → (∀ x ∈ acc, x ∈ lv) ∧ ∀ o ∈ outs, sthr o = false ∧ kGoal G (K.map (kden pg P ρ e)) (dcomp y rest (pc + i.2.1) (drun P (f + e)) (d2 + 1) (slD ρ L) ((spsh o r).map (svd ρ)) u2) := by
                intro outs
                induction outs with
                | nil =>
                  intro acc lv hh _
                  cases hh
                  exact ⟨fun x hx => hx, fun o ho => by cases ho⟩
                | cons o t iht =>
                  intro acc lv hh hl
                  have hh2 : cond (sthr o) none (sO (sex B fx kdo pgh stp orc F0 D0 N f (d2 + 1) y (pc + i.2.1) (b.1, Nat.succ b.2) (rest.map hxf) L (spsh o r) S K acc) fun acc2 => sfrk (sex B fx kdo pgh stp orc F0 D0 N) f (d2 + 1) y (pc + i.2.1) (b.1, Nat.succ b.2) (rest.map hxf) L r S K t acc2) = some lv := hh
                  cases et : sthr o with
                  | true => rw [et] at hh2; cases hh2
                  | false =>
                    rw [et] at hh2
                    obtain ⟨acc2, w1, w2⟩ := sO_s (show sO (sex B fx kdo pgh stp orc F0 D0 N f (d2 + 1) y (pc + i.2.1) (b.1, Nat.succ b.2) (rest.map hxf) L (spsh o r) S K acc) (fun acc2 => sfrk (sex B fx kdo pgh stp orc F0 D0 N) f (d2 + 1) y (pc + i.2.1) (b.1, Nat.succ b.2) (rest.map hxf) L r S K t acc2) = some lv from hh2)
                    obtain ⟨w3, w4⟩ := iht acc2 lv w2 hl
                    obtain ⟨w5, w6⟩ := ih f (d2 + 1) y _ (b.1, Nat.succ b.2) rest _ L (spsh o r) S K acc acc2 (Or.inr hb2) rfl w1 (fun x hx => hl x (w3 x hx)) u2 hS2 q2
                    refine ⟨fun x hx => w3 x (w5 x hx), fun o2 ho2 => ?_⟩
                    rcases List.mem_cons.mp ho2 with rfl | ho2
                    · exact ⟨et, w6⟩
                    · exact w4 o2 ho2
              obtain ⟨k1, k2⟩ := key outs acc lv hn5 hl
              obtain ⟨k3, k4⟩ := k2 o ho
              refine ⟨k1, ?_⟩
              show kGoal G (K.map (kden pg P ρ e)) (cond (dthr (o.map (svd ρ))) (cond fl (some (o.map (svd ρ), u2)) none) (dgo (dcomp y rest (pc + i.2.1)) (drun P (f + e)) (d2 + 1) (slD ρ L) (r.map (svd ρ)) (o.map (svd ρ)) u2))
              rw [sthr_d, k3, spsh_d]
              exact k4)
        (fun v hn => by
          unfold sret at hn
          cases K with
          | nil =>
            have hn2 : some ((.inr (v, S) : sLf) :: acc) = some lv := hn
            cases hn2
            exact ⟨fun x hx => List.mem_cons_of_mem _ hx, hl _ List.mem_cons_self u hS hI⟩
          | cons q K2 =>
            obtain ⟨fl, f1, d1, y1, pc1, b1, L1, st1⟩ := q
            have hn2 : cond (sthr v) none (sO (pgh y1 b1.1) fun hl => sex B fx kdo pgh stp orc F0 D0 N f1 d1 y1 pc1 b1 (sdrp b1.2 hl) L1 (spsh v st1) S K2 acc) = some lv := hn
            cases et : sthr v with
            | true => rw [et] at hn2; cases hn2
            | false =>
              rw [et] at hn2
              obtain ⟨hl1, g1, hn3⟩ := sO_s (show sO (pgh y1 b1.1) (fun hl => sex B fx kdo pgh stp orc F0 D0 N f1 d1 y1 pc1 b1 (sdrp b1.2 hl) L1 (spsh v st1) S K2 acc) = some lv from hn2)
              obtain ⟨is1, g2, g3⟩ := hH y1 b1.1 hl1 g1
              obtain ⟨w1, w2⟩ := ih f1 d1 y1 pc1 b1 (sblk pg y1 b1) _ L1 (spsh v st1) S K2 acc lv (Or.inr rfl) (by rw [sdrp_eq, g3]; unfold sblk; rw [g2]; exact (List.map_drop ..).symm) hn3 hl u hS hI
              refine ⟨w1, ?_⟩
              show kGoal G (K2.map (kden pg P ρ e)) (cond (dthr (v.map (svd ρ))) (cond fl (some (v.map (svd ρ), u)) none) (dgo (dcomp y1 (sblk pg y1 b1) pc1) (drun P (f1 + e)) d1 (slD ρ L1) (st1.map (svd ρ)) (v.map (svd ρ)) u))
              rw [sthr_d, et, spsh_d]
              exact w2)
        h2
      rw [dcomp_cons y i rest pc ho]
      exact hT
end S

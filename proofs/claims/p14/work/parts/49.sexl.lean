/-! ===== the symbolic run once more, stopping by what it knows ===== -/
section DL
variable (B : List (Nat × Nat)) (fx : Nat → sN → sN → Option sN) (kdo : Nat → Option Nat) (pgh : Nat → Nat → Option (List sHi)) (stp : Nat → Nat → sL → sH → List sFr → Bool) (orc : Nat → List sV → Option (List (Option sV))) (F0 D0 : Nat)
noncomputable def sjmpL (ih : sEx) (f d y pc : Nat) (L : sL) (st : List sV) (S : sH) (K : List sFr) (acc : List sLf) : sR := cond (stp y pc L S K) (some (.inl (f, d, y, pc, L, st, S, K) :: acc)) (Nat.rec (motive := fun _ => sR) none (fun f2 _ => sO (pgh y pc) fun is => ih f2 d y pc (pc, 0) is L st S K acc) f)
noncomputable def sfrkL (ih : sEx) (f d y pc : Nat) (b : Nat × Nat) (is : List sHi) (L : sL) (r : List sV) (S : sH) (K : List sFr) (outs : List (Option sV)) : List sLf → sR := List.rec (motive := fun _ => List sLf → sR) (fun acc => some acc) (fun o _ t acc => cond (sthr o) none (sO (ih f d y pc b is L (spsh o r) S K acc) fun acc2 => t acc2)) outs
noncomputable def scalL (ih : sEx) (f d y pc : Nat) (b : Nat × Nat) (is : List sHi) (x : Nat) (L : sL) (S : sH) (K : List sFr) (acc : List sLf) (fl : Bool) (as r : List sV) : sR := Nat.rec (motive := fun _ => sR) none (fun d2 _ => sdal as 0 fun L2 n => cond (Nat.ble n (Nat.mod (Nat.div x 256) 64)) (fo (Nat.div x 16384) fun y2 => Option.rec (motive := fun _ => sR) (sjmpL pgh stp ih f d2 y2 0 L2 [] S ((fl, f, d, y, pc, b, L, r) :: K) acc) (fun outs => cond (Nat.ble F0 f) (cond (Nat.ble D0 d2) (sfrkL ih f d y pc b is L r S K outs acc) none) none) (orc y2 as)) none) d
noncomputable def sretL (ih : sEx) (S : sH) (K : List sFr) (acc : List sLf) (v : Option sV) : sR := List.rec (motive := fun _ => sR) (some (.inr (v, S) :: acc)) (fun q K2 _ => cond (sthr v) none (sO (pgh q.2.2.2.1 q.2.2.2.2.2.1.1) fun hl => ih q.2.1 q.2.2.1 q.2.2.2.1 q.2.2.2.2.1 q.2.2.2.2.2.1 (sdrp q.2.2.2.2.2.1.2 hl) q.2.2.2.2.2.2.1 (spsh v q.2.2.2.2.2.2.2) S K2 acc)) K
noncomputable def sexL (N : Nat) : sEx := Nat.rec (motive := fun _ => sEx) (fun _ _ _ _ _ _ _ _ _ _ _ => none) (fun _ ih f d y pc b is L st S K acc => List.rec (motive := fun _ => sR) (sjmpL pgh stp ih f d y pc L st S K acc) (fun i rest _ => fo (Nat.add pc i.1) fun pc2 => fo (Nat.succ b.2) fun n2 => i.2.2 B fx kdo d L st S (fun L st S => ih f d y pc2 (b.1, n2) rest L st S K acc) (fun pc3 L st => sjmpL pgh stp ih f d y pc3 L st S K acc) (fun fl as r => scalL pgh stp orc F0 D0 ih f d y pc2 (b.1, n2) rest i.2.1 L S K acc fl as r) (fun v => sretL pgh ih S K acc v)) is) N
end DL
section SL2
variable {B : List (Nat × Nat)} {fx : Nat → sN → sN → Option sN} {kdo : Nat → Option Nat} {pg : Nat → Nat → Option (List dI)} {pgh : Nat → Nat → Option (List sHi)} {stp : Nat → Nat → sL → sH → List sFr → Bool} {orc : Nat → List sV → Option (List (Option sV))} {F0 D0 : Nat} {P : Nat → Nat → Option dCode} {ρ : Nat → Nat} {Op : Nat → Bool} {g : dH} {I : dH → Prop} {G : dR → Prop}
theorem sex_okL (e : Nat) (hB : sok ρ B) (hfx : ∀ i a b v, fx i a b = some v → opf i (sden ρ a) (sden ρ b) = sden ρ v) (hP : ∀ y pc is, pg y pc = some is → P y pc = some (dcomp y is pc)) (hH : ∀ y pc hl, pgh y pc = some hl → ∃ is, pg y pc = some is ∧ hl = is.map hxf) (hIo : ∀ u u2 : dH, (∀ q, Op q = true → hat u2 q = hat u q) → hwf u2 → I u → I u2)
    (hK : ∀ a kd, kdo a = some kd → ∀ S u, ssat ρ Op g S u → I u → ∃ n ct, hat u a = some (kd, n, ct))
    (hO : ∀ y as outs, orc y as = some outs → ∀ f d u S, F0 ≤ f → D0 ≤ d → ssat ρ Op g S u → I u → ∃ o ∈ outs, ∃ u2, (dargs (as.map (svd ρ)) 0 fun L _ => drun P f d y 0 L [] u) = some (o.map (svd ρ), u2) ∧ I u2 ∧ hwf u2 ∧ u2.1 = u.1 ∧ u2.2.1 = u.2.1 ∧ ∀ a, Op a = false → hat u2 a = hat u a)
    (N : Nat) : ∀ f d y pc b is hl L st S K acc lv, (is = [] ∨ sblk pg y b = is) → hl = is.map hxf → sexL B fx kdo pgh stp orc F0 D0 N f d y pc b hl L st S K acc = some lv → (∀ x ∈ lv, leafOK pg P ρ e Op g I G x) → ∀ u, ssat ρ Op g S u → I u → (∀ x ∈ acc, x ∈ lv) ∧ kGoal G (K.map (kden pg P ρ e)) (dcomp y is pc (drun P (f + e)) d (slD ρ L) (st.map (svd ρ)) u) := by
  induction N with
  | zero => intro f d y pc b is hl L st S K acc lv _ _ h; cases h
  | succ N ih =>
    intro f d y pc b is hll L st S K acc lv hb hh h hl u hS hI
    have hj : ∀ (f d y pc : Nat) (L : sL) (st : List sV) (S : sH) (K : List sFr) (acc lv : List sLf) (u : dH), sjmpL pgh stp (sexL B fx kdo pgh stp orc F0 D0 N) f d y pc L st S K acc = some lv → (∀ x ∈ lv, leafOK pg P ρ e Op g I G x) → ssat ρ Op g S u → I u → (∀ x ∈ acc, x ∈ lv) ∧ kGoal G (K.map (kden pg P ρ e)) (drun P (f + e) d y pc (slD ρ L) (st.map (svd ρ)) u) := by
      intro f d y pc L st S K acc lv u h hl hS hI
      unfold sjmpL at h
      cases es : stp y pc L S K with
      | true =>
        rw [es] at h
        cases h
        exact ⟨fun x hx => List.mem_cons_of_mem _ hx, hl _ List.mem_cons_self u hS hI⟩
      | false =>
        rw [es] at h
        cases f with
        | zero => cases h
        | succ f2 =>
          obtain ⟨hl2, h0, h2⟩ := sO_s (show sO (pgh y pc) (fun is => sexL B fx kdo pgh stp orc F0 D0 N f2 d y pc (pc, 0) is L st S K acc) = some lv from h)
          obtain ⟨is, h1, h9⟩ := hH y pc hl2 h0
          have h3 := ih f2 d y pc (pc, 0) is hl2 L st S K acc lv (Or.inr (by unfold sblk; rw [h1]; rfl)) h9 h2 hl u hS hI
          refine ⟨h3.1, ?_⟩
          have e4 : drun P (f2 + 1 + e) d y pc (slD ρ L) (st.map (svd ρ)) u = dcomp y is pc (drun P (f2 + e)) d (slD ρ L) (st.map (svd ρ)) u := by
            rw [show f2 + 1 + e = (f2 + e) + 1 by omega]
            show opt (P y pc) (fun c => c (drun P (f2 + e)) d (slD ρ L) (st.map (svd ρ)) u) = _
            rw [hP y pc is h1]; rfl
          rw [e4]
          exact h3.2
    cases is with
    | nil =>
      subst hh
      have h2 : sjmpL pgh stp (sexL B fx kdo pgh stp orc F0 D0 N) f d y pc L st S K acc = some lv := h
      exact hj f d y pc L st S K acc lv u h2 hl hS hI
    | cons i rest =>
      subst hh
      have hb2 : sblk pg y (b.1, Nat.succ b.2) = rest := by
        have hb3 : sblk pg y b = i :: rest := hb.resolve_left (by simp)
        unfold sblk at hb3 ⊢
        cases hp : pg y b.1 with
        | none => rw [hp] at hb3; cases hb3
        | some l =>
          rw [hp] at hb3
          show l.drop (b.2 + 1) = rest
          have hb4 : l.drop b.2 = i :: rest := hb3
          rw [← List.drop_drop, hb4]; rfl
      have h2 : (fo (Nat.add pc i.2.1) fun pc2 => fo (Nat.succ b.2) fun n2 => sop B fx kdo d i.1 i.2.2 L st S (fun L st S => sexL B fx kdo pgh stp orc F0 D0 N f d y pc2 (b.1, n2) (rest.map hxf) L st S K acc) (fun pc3 L st => sjmpL pgh stp (sexL B fx kdo pgh stp orc F0 D0 N) f d y pc3 L st S K acc) (fun fl as r => scalL pgh stp orc F0 D0 (sexL B fx kdo pgh stp orc F0 D0 N) f d y pc2 (b.1, n2) (rest.map hxf) i.2.2 L S K acc fl as r) (fun v => sretL pgh (sexL B fx kdo pgh stp orc F0 D0 N) S K acc v)) = some lv := h
      rw [fo_eq, fo_eq] at h2
      obtain ⟨o, ho, hT⟩ := sop_ok (T := fun z => (∀ x ∈ acc, x ∈ lv) ∧ kGoal G (K.map (kden pg P ρ e)) z) (nxt := dcomp y rest (pc + i.2.1)) (rec := drun P (f + e)) (y := y) hB hfx hIo hK hS hI
        (fun L2 st2 S2 u2 hS2 hI2 hn => ih f d y _ (b.1, Nat.succ b.2) rest _ L2 st2 S2 K acc lv (Or.inr hb2) rfl hn hl u2 hS2 hI2)
        (fun pc3 L2 st2 hn => hj f d y pc3 L2 st2 S K acc lv u hn hl hS hI)
        (fun fl as r hn => by
          unfold scalL at hn
          cases d with
          | zero => cases hn
          | succ d2 =>
            obtain ⟨L2, n, g1, g2⟩ := sdal_s ρ as 0 (fun L2 n => cond (Nat.ble n (Nat.mod (Nat.div i.2.2 256) 64)) (fo (Nat.div i.2.2 16384) fun y2 => Option.rec (motive := fun _ => sR) (sjmpL pgh stp (sexL B fx kdo pgh stp orc F0 D0 N) f d2 y2 0 L2 [] S ((fl, f, d2 + 1, y, pc + i.2.1, (b.1, Nat.succ b.2), L, r) :: K) acc) (fun outs => cond (Nat.ble F0 f) (cond (Nat.ble D0 d2) (sfrkL (sexL B fx kdo pgh stp orc F0 D0 N) f (d2 + 1) y (pc + i.2.1) (b.1, Nat.succ b.2) (rest.map hxf) L r S K outs acc) none) none) (orc y2 as)) none)
            have hn2 : sdal as 0 (fun L2 n => cond (Nat.ble n (Nat.mod (Nat.div i.2.2 256) 64)) (fo (Nat.div i.2.2 16384) fun y2 => Option.rec (motive := fun _ => sR) (sjmpL pgh stp (sexL B fx kdo pgh stp orc F0 D0 N) f d2 y2 0 L2 [] S ((fl, f, d2 + 1, y, pc + i.2.1, (b.1, Nat.succ b.2), L, r) :: K) acc) (fun outs => cond (Nat.ble F0 f) (cond (Nat.ble D0 d2) (sfrkL (sexL B fx kdo pgh stp orc F0 D0 N) f (d2 + 1) y (pc + i.2.1) (b.1, Nat.succ b.2) (rest.map hxf) L r S K outs acc) none) none) (orc y2 as)) none) = some lv := hn
            rw [g1] at hn2
            obtain ⟨g3, hn3⟩ := scd_t hn2
            rw [fo_eq] at hn3
            have ed : ∀ k : Option dV → dH → dR, dcall (drun P (f + e)) (d2 + 1) i.2.2 (as.map (svd ρ)) u k = opt (drun P (f + e) d2 (Nat.div i.2.2 16384) 0 (slD ρ L2) [] u) fun z => k z.1 z.2 := by
              intro k
              show dargs (as.map (svd ρ)) 0 (fun L n => cond (Nat.ble n (Nat.mod (Nat.div i.2.2 256) 64)) (opt (drun P (f + e) d2 (Nat.div i.2.2 16384) 0 L [] u) fun z => Prod.rec (motive := fun _ => dR) (fun r h' => k r h') z) none) = _
              rw [g2, g3]; rfl
            rw [ed]
            cases eo : orc (Nat.div i.2.2 16384) as with
            | none =>
              rw [eo] at hn3
              rw [show dcomp y rest (pc + i.2.1) = dcomp y (sblk pg y (b.1, Nat.succ b.2)) (pc + i.2.1) by rw [hb2]]
              exact hj f d2 _ 0 L2 [] S ((fl, f, d2 + 1, y, pc + i.2.1, (b.1, Nat.succ b.2), L, r) :: K) acc lv u hn3 hl hS hI
            | some outs =>
              rw [eo] at hn3
              obtain ⟨g4, hn4⟩ := scd_t (show cond (Nat.ble F0 f) (cond (Nat.ble D0 d2) (sfrkL (sexL B fx kdo pgh stp orc F0 D0 N) f (d2 + 1) y (pc + i.2.1) (b.1, Nat.succ b.2) (rest.map hxf) L r S K outs acc) none) none = some lv from hn3)
              obtain ⟨g5, hn5⟩ := scd_t hn4
              obtain ⟨o, ho, u2, q1, q2, q3, q4, q5, q6⟩ := hO _ as outs eo (f + e) d2 u S (Nat.le_trans (Nat.le_of_ble_eq_true g4) (Nat.le_add_right f e)) (Nat.le_of_ble_eq_true g5) hS hI
              rw [g2] at q1
              rw [q1]
              have hS2 := ssat_new hS q3 q4 q5 q6
              have key : ∀ (outs : List (Option sV)) (acc lv : List sLf), sfrkL (sexL B fx kdo pgh stp orc F0 D0 N) f (d2 + 1) y (pc + i.2.1) (b.1, Nat.succ b.2) (rest.map hxf) L r S K outs acc = some lv → (∀ x ∈ lv, leafOK pg P ρ e Op g I G x) → (∀ x ∈ acc, x ∈ lv) ∧ ∀ o ∈ outs, sthr o = false ∧ kGoal G (K.map (kden pg P ρ e)) (dcomp y rest (pc + i.2.1) (drun P (f + e)) (d2 + 1) (slD ρ L) ((spsh o r).map (svd ρ)) u2) := by
                intro outs
                induction outs with
                | nil =>
                  intro acc lv hh _
                  cases hh
                  exact ⟨fun x hx => hx, fun o ho => by cases ho⟩
                | cons o t iht =>
                  intro acc lv hh hl
                  have hh2 : cond (sthr o) none (sO (sexL B fx kdo pgh stp orc F0 D0 N f (d2 + 1) y (pc + i.2.1) (b.1, Nat.succ b.2) (rest.map hxf) L (spsh o r) S K acc) fun acc2 => sfrkL (sexL B fx kdo pgh stp orc F0 D0 N) f (d2 + 1) y (pc + i.2.1) (b.1, Nat.succ b.2) (rest.map hxf) L r S K t acc2) = some lv := hh
                  cases et : sthr o with
                  | true => rw [et] at hh2; cases hh2
                  | false =>
                    rw [et] at hh2
                    obtain ⟨acc2, w1, w2⟩ := sO_s (show sO (sexL B fx kdo pgh stp orc F0 D0 N f (d2 + 1) y (pc + i.2.1) (b.1, Nat.succ b.2) (rest.map hxf) L (spsh o r) S K acc) (fun acc2 => sfrkL (sexL B fx kdo pgh stp orc F0 D0 N) f (d2 + 1) y (pc + i.2.1) (b.1, Nat.succ b.2) (rest.map hxf) L r S K t acc2) = some lv from hh2)
                    obtain ⟨w3, w4⟩ := iht acc2 lv w2 hl
                    obtain ⟨w5, w6⟩ := ih f (d2 + 1) y _ (b.1, Nat.succ b.2) rest _ L (spsh o r) S K acc acc2 (Or.inr hb2) rfl w1 (fun x hx => hl x (w3 x hx)) u2 hS2 q2
                    refine ⟨fun x hx => w3 x (w5 x hx), fun o2 ho2 => ?_⟩
                    rcases List.mem_cons.mp ho2 with rfl | ho2
                    · exact ⟨et, w6⟩
                    · exact w4 o2 ho2
              obtain ⟨k1, k2⟩ := key outs acc lv hn5 hl
              obtain ⟨k3, k4⟩ := k2 o ho
              refine ⟨k1, ?_⟩
              show kGoal G (K.map (kden pg P ρ e)) (cond (dthr (o.map (svd ρ))) (cond fl (some (o.map (svd ρ), u2)) none) (dgo (dcomp y rest (pc + i.2.1)) (drun P (f + e)) (d2 + 1) (slD ρ L) (r.map (svd ρ)) (o.map (svd ρ)) u2))
              rw [sthr_d, k3, spsh_d]
              exact k4)
        (fun v hn => by
          unfold sretL at hn
          cases K with
          | nil =>
            have hn2 : some ((.inr (v, S) : sLf) :: acc) = some lv := hn
            cases hn2
            exact ⟨fun x hx => List.mem_cons_of_mem _ hx, hl _ List.mem_cons_self u hS hI⟩
          | cons q K2 =>
            obtain ⟨fl, f1, d1, y1, pc1, b1, L1, st1⟩ := q
            have hn2 : cond (sthr v) none (sO (pgh y1 b1.1) fun hl => sexL B fx kdo pgh stp orc F0 D0 N f1 d1 y1 pc1 b1 (sdrp b1.2 hl) L1 (spsh v st1) S K2 acc) = some lv := hn
            cases et : sthr v with
            | true => rw [et] at hn2; cases hn2
            | false =>
              rw [et] at hn2
              obtain ⟨hl1, g1, hn3⟩ := sO_s (show sO (pgh y1 b1.1) (fun hl => sexL B fx kdo pgh stp orc F0 D0 N f1 d1 y1 pc1 b1 (sdrp b1.2 hl) L1 (spsh v st1) S K2 acc) = some lv from hn2)
              obtain ⟨is1, g2, g3⟩ := hH y1 b1.1 hl1 g1
              obtain ⟨w1, w2⟩ := ih f1 d1 y1 pc1 b1 (sblk pg y1 b1) _ L1 (spsh v st1) S K2 acc lv (Or.inr rfl) (by rw [sdrp_eq, g3]; unfold sblk; rw [g2]; exact (List.map_drop ..).symm) hn3 hl u hS hI
              refine ⟨w1, ?_⟩
              show kGoal G (K2.map (kden pg P ρ e)) (cond (dthr (v.map (svd ρ))) (cond fl (some (v.map (svd ρ), u)) none) (dgo (dcomp y1 (sblk pg y1 b1) pc1) (drun P (f1 + e)) d1 (slD ρ L1) (st1.map (svd ρ)) (v.map (svd ρ)) u))
              rw [sthr_d, et, spsh_d]
              exact w2)
        h2
      rw [dcomp_cons y i rest pc ho]
      exact hT
end SL2
section U
variable {B : List (Nat × Nat)} {fx : Nat → sN → sN → Option sN} {kdo : Nat → Option Nat} {pg : Nat → Nat → Option (List dI)} {pgh : Nat → Nat → Option (List sHi)} {stp : Nat → Nat → sL → sH → List sFr → Bool} {orc : Nat → List sV → Option (List (Option sV))} {F0 D0 : Nat} {P : Nat → Nat → Option dCode} {ρ : Nat → Nat} {Op : Nat → Bool} {g : dH} {I : dH → Prop}
theorem sexL_goK (W : sFor B fx kdo pg pgh orc F0 D0 P ρ Op g I) {N f d y pc : Nat} {b : Nat × Nat} {is : List dI} {L : sL} {st : List sV} {S : sH} {K : List sFr} {lv : List sLf} (hb : is = [] ∨ sblk pg y b = is) (h : sexL B fx kdo pgh stp orc F0 D0 N f d y pc b (is.map hxf) L st S K [] = some lv) (e : Nat) {G : dR → Prop} (hl : ∀ x ∈ lv, leafOK pg P ρ e Op g I G x) {u : dH} (hS : ssat ρ Op g S u) (hI : I u) : kGoal G (K.map (kden pg P ρ e)) (dcomp y is pc (drun P (f + e)) d (slD ρ L) (st.map (svd ρ)) u) :=
  (sex_okL e W.1 W.2.1 W.2.2.1 W.2.2.2.1 W.2.2.2.2.1 W.2.2.2.2.2.1 W.2.2.2.2.2.2 N f d y pc b is _ L st S K [] lv hb rfl h hl u hS hI).2
/-- from a jump on -/
theorem sexL_jmp (W : sFor B fx kdo pg pgh orc F0 D0 P ρ Op g I) {N f d y pc : Nat} {L : sL} {st : List sV} {S : sH} {K : List sFr} {lv : List sLf} (h : sexL B fx kdo pgh stp orc F0 D0 N f d y pc (0, 0) [] L st S K [] = some lv) (e : Nat) {G : dR → Prop} (hl : ∀ x ∈ lv, leafOK pg P ρ e Op g I G x) {u : dH} (hS : ssat ρ Op g S u) (hI : I u) : kGoal G (K.map (kden pg P ρ e)) (drun P (f + e) d y pc (slD ρ L) (st.map (svd ρ)) u) :=
  sexL_goK W (is := []) (Or.inl rfl) h e hl hS hI
/-- from an answer on -/
theorem sbackL_go (W : sFor B fx kdo pg pgh orc F0 D0 P ρ Op g I) {N : Nat} {S : sH} {K : List sFr} {v : Option sV} {lv : List sLf} (h : sretL pgh (sexL B fx kdo pgh stp orc F0 D0 N) S K [] v = some lv) (e : Nat) {G : dR → Prop} (hl : ∀ x ∈ lv, leafOK pg P ρ e Op g I G x) {u : dH} (hS : ssat ρ Op g S u) (hI : I u) : kGoal G (K.map (kden pg P ρ e)) (some (v.map (svd ρ), u)) := by
  cases K with
  | nil =>
    have h2 : some ((.inr (v, S) : sLf) :: []) = some lv := h
    cases h2
    exact hl _ List.mem_cons_self u hS hI
  | cons q K2 =>
    obtain ⟨fl, f1, d1, y1, pc1, b1, L1, st1⟩ := q
    have hn2 : cond (sthr v) none (sO (pgh y1 b1.1) fun hl => sexL B fx kdo pgh stp orc F0 D0 N f1 d1 y1 pc1 b1 (sdrp b1.2 hl) L1 (spsh v st1) S K2 []) = some lv := h
    cases et : sthr v with
    | true => rw [et] at hn2; cases hn2
    | false =>
      rw [et] at hn2
      obtain ⟨hl1, g1, hn3⟩ := sO_s (show sO (pgh y1 b1.1) (fun hl => sexL B fx kdo pgh stp orc F0 D0 N f1 d1 y1 pc1 b1 (sdrp b1.2 hl) L1 (spsh v st1) S K2 []) = some lv from hn2)
      obtain ⟨is1, g2, g3⟩ := W.2.2.2.1 y1 b1.1 hl1 g1
      have e5 : sdrp b1.2 hl1 = (sblk pg y1 b1).map hxf := by rw [sdrp_eq, g3]; unfold sblk; rw [g2]; exact (List.map_drop ..).symm
      rw [e5] at hn3
      have w2 := sexL_goK W (Or.inr rfl) hn3 e hl hS hI
      show kGoal G (K2.map (kden pg P ρ e)) (cond (dthr (v.map (svd ρ))) (cond fl (some (v.map (svd ρ), u)) none) (dgo (dcomp y1 (sblk pg y1 b1) pc1) (drun P (f1 + e)) d1 (slD ρ L1) (st1.map (svd ρ)) (v.map (svd ρ)) u))
      rw [sthr_d, et, spsh_d]
      exact w2
end U

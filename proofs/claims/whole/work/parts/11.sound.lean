/-! ===== what the program of words answers, the machine answers ===== -/
theorem d2_inv {st : List dV} {k : Nat → Nat → List dV → dR} {z : Option dV × dH} (h : d2 st k = some z) : ∃ a b r, st = .inl b :: .inl a :: r ∧ k a b r = some z := by
  unfold d2 at h; split at h
  · exact ⟨_, _, _, rfl, h⟩
  · cases h
theorem d1_inv {st : List dV} {k : Nat → List dV → dR} {z : Option dV × dH} (h : d1 st k = some z) : ∃ a r, st = .inl a :: r ∧ k a r = some z := by
  unfold d1 at h; split at h
  · exact ⟨_, _, rfl, h⟩
  · cases h
theorem d2l_inv {st : List dV} {k : Nat → Nat → List dV → dR} {z : Option dV × dH} (h : d2l st k = some z) : ∃ a b r, st = .inr (.inl b) :: .inr (.inl a) :: r ∧ k a b r = some z := by
  unfold d2l at h; split at h
  · exact ⟨_, _, _, rfl, h⟩
  · cases h
theorem d1l_inv {st : List dV} {k : Nat → List dV → dR} {z : Option dV × dH} (h : d1l st k = some z) : ∃ a r, st = .inr (.inl a) :: r ∧ k a r = some z := by
  unfold d1l at h; split at h
  · exact ⟨_, _, rfl, h⟩
  · cases h
theorem dil_inv {st : List dV} {k : Nat → Nat → List dV → dR} {z : Option dV × dH} (h : dil st k = some z) : ∃ a b r, st = .inl b :: .inr (.inl a) :: r ∧ k a b r = some z := by
  unfold dil at h; split at h
  · exact ⟨_, _, _, rfl, h⟩
  · cases h
theorem d1a_inv {st : List dV} {k : Nat → List dV → dR} {z : Option dV × dH} (h : d1a st k = some z) : ∃ a r, st = .inr (.inr (Nat.succ a)) :: r ∧ k a r = some z := by
  unfold d1a at h; split at h
  · exact ⟨_, _, rfl, h⟩
  · cases h
theorem dia_inv {st : List dV} {k : Nat → Nat → List dV → dR} {z : Option dV × dH} (h : dia st k = some z) : ∃ a i r, st = .inl i :: .inr (.inr (Nat.succ a)) :: r ∧ k a (i % 4294967296) r = some z := by
  unfold dia at h; split at h
  · exact ⟨_, _, _, rfl, h⟩
  · cases h
theorem diia_inv {st : List dV} {k : Nat → Nat → Nat → List dV → dR} {z : Option dV × dH} (h : diia st k = some z) : ∃ a i v r, st = .inl v :: .inl i :: .inr (.inr (Nat.succ a)) :: r ∧ k a (i % 4294967296) v r = some z := by
  unfold diia at h; split at h
  · exact ⟨_, _, _, _, rfl, h⟩
  · cases h
theorem dlia_inv {st : List dV} {k : Nat → Nat → Nat → List dV → dR} {z : Option dV × dH} (h : dlia st k = some z) : ∃ a i v r, st = .inr (.inl v) :: .inl i :: .inr (.inr (Nat.succ a)) :: r ∧ k a (i % 4294967296) v r = some z := by
  unfold dlia at h; split at h
  · exact ⟨_, _, _, _, rfl, h⟩
  · cases h
theorem dco_inv {c : Bool} {x : dR} {z : Option dV × dH} (h : cond c x none = some z) : c = true ∧ x = some z := by
  cases c
  · cases h
  · exact ⟨rfl, h⟩
theorem din_inv {i n : Nat} {x : dR} {z : Option dV × dH} (h : din i n x none = some z) : i < n ∧ i < 2147483648 ∧ x = some z := by
  unfold din at h
  obtain ⟨h1, h⟩ := dco_inv h
  obtain ⟨h2, h⟩ := dco_inv h
  exact ⟨di_blt.mp h1, di_blt.mp h2, h⟩
theorem fe_inv {b tc : Nat} {v : dV} {k : Nat → dR} {z : Option dV × dH} (h : fe tc v k none = some z) : ∃ w, w < 2 ^ 64 ∧ k w = some z ∧ ∀ ty, tcode ty = tc → dv b (fv (tcode ty) w) = dv b v ∧ fits ty (dv b v) = true ∧ narrow ty (dv b v) = dv b v := by
  unfold fe at h
  split at h
  · split at h
    · rename_i n
      rw [fo_eq] at h
      refine ⟨_, Nat.lt_trans (Nat.mod_lt n (by decide)) (by decide), h, fun ty e => ?_⟩
      cases ty <;> first | (exact absurd e (by decide)) | (simp [tcode] at e; done) | skip
      exact ⟨congrArg Value.int (di_imod n), rfl, rfl⟩
    · cases h
  · split at h
    · rename_i n
      rw [fo_eq] at h
      refine ⟨_, Nat.mod_lt n (by decide), h, fun ty e => ?_⟩
      cases ty <;> first | (exact absurd e (by decide)) | (simp [tcode] at e; done) | skip
      exact ⟨congrArg Value.long (di_jmod n), rfl, rfl⟩
    · cases h
  · split at h
    · rename_i n
      obtain ⟨h1, h⟩ := dco_inv h
      rw [fo_eq] at h
      refine ⟨_, Nat.lt_trans (Nat.mod_lt n (by decide)) (by decide), h, fun ty e => ?_⟩
      cases ty <;> first | (exact absurd e (by decide)) | (simp [tcode] at e; done) | skip
      refine ⟨congrArg Value.int (di_imod n), ?_⟩
      have hn : n % 4294967296 ≤ 1 := Nat.le_of_ble_eq_true h1
      have he : dv b (.inl n) = .int (Int32.ofNat (n % 4294967296)) := congrArg Value.int (di_imod n).symm
      rw [he]
      rcases (show n % 4294967296 = 0 ∨ n % 4294967296 = 1 by omega) with q | q <;> rw [q] <;> exact ⟨by decide, by decide⟩
    · cases h
  · split at h
    · rename_i n
      obtain ⟨h1, h⟩ := dco_inv h
      refine ⟨n, di_blt.mp h1, h, fun ty e => ?_⟩
      cases ty <;> first | (exact absurd e (by decide)) | (simp [tcode] at e; done) | skip
      · cases n <;> exact ⟨rfl, rfl, rfl⟩
      · cases n <;> exact ⟨rfl, rfl, rfl⟩
    · cases h
  · cases h
theorem dcall_inv {ks : List (List (Option dK))} {rec : dRec} {d x : Nat} {as : List dV} {h : dH} {k : Option dV → dH → dR} {z : Option dV × dH} (e : dcall ks rec d x as h k = some z) : ∃ d' cd' v h1, d = d' + 1 ∧ dmth ks (x / 256) = some cd' ∧ dsz as ≤ cd'.1 ∧ rec d' cd' 0 (dal 0 as) [] h = some (v, h1) ∧ k v h1 = some z := by
  unfold dcall at e
  split at e
  · cases e
  · split at e
    · cases e
    · rename_i d' _ cd' hc
      rw [dargs_eq] at e
      obtain ⟨e1, e⟩ := dco_inv e
      split at e
      · cases e
      · rename_i v h1 hr
        exact ⟨d', cd', v, h1, rfl, hc, by have := Nat.le_of_ble_eq_true e1; omega, hr, e⟩
theorem dkB_f {q : dMI} {cd : dK} (h : dkB q cd = true) : q.1 < 14 ∧ cd.1 = q.2.2.2.1 ∧ q.2.2.2.1 ≤ 40 ∧ drcB cd.2.1 q.2.2.2.2 = true ∧ q.2.1.cls = cR q.1 ∧ plainName q.2.1.cls = true ∧ ck1 q cd.2.2 0 = true := by
  simp only [dkB, Bool.and_eq_true, decide_eq_true_eq, Nat.blt_eq, Nat.beq_eq, Nat.ble_eq] at h
  exact h
theorem dfx {q : dMI} {cd : dK} {pc len x : Nat} {ins : Instr} (h : dkB q cd = true) (e : dft cd.2.2 pc = some (ins, len, x)) : q.1 < 14 ∧ decode q.2.2.1 pc = .ok (ins, len) ∧ dxB q pc ins len x = true :=
  ⟨(dkB_f h).1, dft_ok (dkB_f h).2.2.2.2.2.2 e⟩
def dG (l : Launch) (D : dD) (b d : Nat) (cd : dK) (pc : Nat) (L : dL) (st : List dV) (h : dH) (r : Option dV) (h' : dH) : Prop :=
  (h.1 ≤ h'.1 ∧ h.2.1 ≤ h'.2.1 ∧ hwf h') ∧ ∀ q, dkB q cd = true → dWp l D b q d pc L st h r h'
theorem dlen : dMis.length ≤ 1000 := by decide +kernel
theorem dcallB_f {q t : dMI} {i x : Nat} {ks : List Nat} (h : dcallB q i x ks = true) (ht : dMis[x / 256]? = some t) : x % 16 < 14 ∧ t ∈ dMs ∧ t.2.1.cls = cR (x % 16) ∧ (parseMethodDescriptor t.2.1.desc).map (fun d => d.parameters.length) = some (x / 16 % 16) ∧ ∃ k, k ∈ ks ∧ (i, x / 256, k) ∈ dMT q.1 := by
  unfold dcallB at h
  rw [ht] at h
  simp only [Bool.and_eq_true, decide_eq_true_eq, Nat.blt_eq, List.any_eq_true, Nat.beq_eq, Bool.not_eq_true', List.contains_iff_mem] at h
  obtain ⟨⟨⟨e1, e2, e3⟩, he, h1, h2, h3⟩, g1, g2, g3, g4⟩ := h
  dsimp only at h1 h2 h3
  subst h1; subst h2
  exact ⟨g1, dMs_mem ht g2, g3, g4, e3, h3, he⟩
theorem dtsB_at {pc x : Nat} {l : List Int} {j0 j : Nat} {o : Int} (h : dtsB pc x l j0 = true) (e : l[j]? = some o) : (pc : Int) + o = ((wd 16 (x >>> 32) (j0 + j + 2) : Nat) : Int) := by
  induction l generalizing j0 j with
  | nil => cases e
  | cons a t ih =>
    simp only [dtsB, Bool.and_eq_true, decide_eq_true_eq] at h
    cases j with
    | zero => cases e; exact h.1
    | succ j =>
      have := ih h.2 (j := j) e
      rw [show j0 + (j + 1) + 2 = j0 + 1 + j + 2 by omega]; exact this
theorem ds_tsw {l : Launch} {D : dD} {b : Nat} {q : dMI} {d pc : Nat} {L : dL} {st : List dV} {h : dH} {r : Option dV} {h' : dH} {dd lo hi : Int} {os : Array Int} {len x a : Nat} (hdg : decode q.2.2.1 pc = .ok (.tableswitch dd lo hi os, len)) (hx : dxB q pc (.tableswitch dd lo hi os) len x = true)
    (G1 : ∀ j, j = dSub a (x % 4294967296) → j < wd 16 (x >>> 32) 0 → dWp l D b q d (wd 16 (x >>> 32) (j + 2)) L st h r h') (G2 : ¬ dSub a (x % 4294967296) < wd 16 (x >>> 32) 0 → dWp l D b q d (wd 16 (x >>> 32) 1) L st h r h') : dWp l D b q d pc L (.inl a :: st) h r h' := by
  intro p e R s m args below meth c H locs cells slots mc ms ls C hR hS hl hm e1 e2
  simp only [dxB, Bool.and_eq_true, decide_eq_true_eq, Nat.beq_eq] at hx
  obtain ⟨p1, ⟨p2, p2b, p2c⟩, p3, p4, p5, p6⟩ := hx
  have hj : dSub a (x % 4294967296) = (a + (4294967296 - x % 4294967296 % 4294967296)) % 4294967296 := rfl
  rw [di_iv] at p1
  by_cases hin : (Int32.ofNat a).toInt < lo ∨ hi < (Int32.ofNat a).toInt
  · refine lv_tableOut C.1 C.2.1 hdg hin p5 (G2 ?_ p e R s m args below meth c H locs cells slots mc ms ls C hR hS hl hm e1 e2)
    rw [di_iv] at hin
    rw [hj, p4]
    split at hin <;> split at p1 <;> omega
  · obtain ⟨i1, i2⟩ := not_or.mp hin
    have hjv : (dSub a (x % 4294967296) : Nat) = ((Int32.ofNat a).toInt - lo).toNat ∧ dSub a (x % 4294967296) < os.toList.length := by
      rw [di_iv] at i1 i2 ⊢
      rw [hj]
      split at i1 <;> split at p1 <;> (refine ⟨?_, ?_⟩ <;> (try rw [if_pos (by assumption)]) <;> (try rw [if_neg (by assumption)]) <;> omega)
    have hlt := hjv.2
    have ho := List.getElem?_eq_getElem hlt
    have ht := dtsB_at p6 ho
    refine lv_tableIn C.1 C.2.1 hdg i1 i2 (by rw [← hjv.1, ← Array.getElem?_toList]; exact ho) ht ?_
    rw [Nat.zero_add]
    exact G1 _ rfl (by rw [p4]; exact hlt) p e R s m args below meth c H locs cells slots mc ms ls C hR hS hl hm e1 e2
set_option maxHeartbeats 4000000 in
theorem di_step {ks : List (List (Option dK))} (hks : ∀ y cd, dmth ks y = some cd → ∃ q, dMis[y]? = some q ∧ dkB q cd = true) {l : Launch} {D : dD} {b : Nat} {rec : dRec} (ih : ∀ d cd pc L st h r h', rec d cd pc L st h = some (r, h') → hwf h → dG l D b d cd pc L st h r h') {d : Nat} {cd : dK} {pc : Nat} {L : dL} {st : List dV} {h : dH} {ins : Instr} {len x : Nat} {r : Option dV} {h' : dH}
    (hft : dft cd.2.2 pc = some (ins, len, x)) (hr : dstep ks rec d cd pc L st h ins len x = some (r, h')) (hw : hwf h) : dG l D b d cd pc L st h r h' := by
  have SM := @Nat.beq_eq
  cases ins
  case iconst n =>
    delta dstep at hr
    dsimp only at hr
    have G := ih _ _ _ _ _ _ _ _ hr hw
    exact ⟨G.1, fun q hk => by
      obtain ⟨ho, hdg, hx⟩ := dfx hk hft
      simp only [dxB, Bool.and_eq_true, Bool.or_eq_true, decide_eq_true_eq, Nat.beq_eq, Nat.blt_eq, Nat.ble_eq, Bool.not_eq_true'] at hx
      obtain ⟨hx, rfl⟩ := hx
      exact ds_iconst hdg hx (G.2 q hk)⟩
  case bipush n =>
    delta dstep at hr
    dsimp only at hr
    have G := ih _ _ _ _ _ _ _ _ hr hw
    exact ⟨G.1, fun q hk => by
      obtain ⟨ho, hdg, hx⟩ := dfx hk hft
      simp only [dxB, Bool.and_eq_true, Bool.or_eq_true, decide_eq_true_eq, Nat.beq_eq, Nat.blt_eq, Nat.ble_eq, Bool.not_eq_true'] at hx
      obtain ⟨hx, rfl⟩ := hx
      exact ds_bipush hdg hx (G.2 q hk)⟩
  case sipush n =>
    delta dstep at hr
    dsimp only at hr
    have G := ih _ _ _ _ _ _ _ _ hr hw
    exact ⟨G.1, fun q hk => by
      obtain ⟨ho, hdg, hx⟩ := dfx hk hft
      simp only [dxB, Bool.and_eq_true, Bool.or_eq_true, decide_eq_true_eq, Nat.beq_eq, Nat.blt_eq, Nat.ble_eq, Bool.not_eq_true'] at hx
      obtain ⟨hx, rfl⟩ := hx
      exact ds_sipush hdg hx (G.2 q hk)⟩
  case lconst n =>
    delta dstep at hr
    dsimp only at hr
    have G := ih _ _ _ _ _ _ _ _ hr hw
    exact ⟨G.1, fun q hk => by
      obtain ⟨ho, hdg, hx⟩ := dfx hk hft
      simp only [dxB, Bool.and_eq_true, Bool.or_eq_true, decide_eq_true_eq, Nat.beq_eq, Nat.blt_eq, Nat.ble_eq, Bool.not_eq_true'] at hx
      obtain ⟨hx, rfl⟩ := hx
      exact ds_lconst hdg hx (G.2 q hk)⟩
  case ldc i =>
    delta dstep at hr
    dsimp only at hr
    obtain ⟨g, hr9⟩ := dco_inv hr
    clear hr
    have hr := hr9
    clear hr9
    have G := ih _ _ _ _ _ _ _ _ hr hw
    exact ⟨G.1, fun q hk => by
      obtain ⟨ho, hdg, hx⟩ := dfx hk hft
      simp only [dxB, Bool.and_eq_true, Bool.or_eq_true, decide_eq_true_eq, Nat.beq_eq, Nat.blt_eq, Nat.ble_eq, Bool.not_eq_true'] at hx
      obtain ⟨rfl, hx⟩ := hx
      have g := di_blt.mp g
      rcases hx with hx | hx
      · omega
      · exact ds_ldc hdg ho hx (G.2 q hk)⟩
  case ldc_w i =>
    delta dstep at hr
    dsimp only at hr
    obtain ⟨g, hr9⟩ := dco_inv hr
    clear hr
    have hr := hr9
    clear hr9
    have G := ih _ _ _ _ _ _ _ _ hr hw
    exact ⟨G.1, fun q hk => by
      obtain ⟨ho, hdg, hx⟩ := dfx hk hft
      simp only [dxB, Bool.and_eq_true, Bool.or_eq_true, decide_eq_true_eq, Nat.beq_eq, Nat.blt_eq, Nat.ble_eq, Bool.not_eq_true'] at hx
      obtain ⟨rfl, hx⟩ := hx
      have g := di_blt.mp g
      rcases hx with hx | hx
      · omega
      · exact ds_ldcw hdg ho hx (G.2 q hk)⟩
  case ldc2_w i =>
    delta dstep at hr
    dsimp only at hr
    have G := ih _ _ _ _ _ _ _ _ hr hw
    exact ⟨G.1, fun q hk => by
      obtain ⟨ho, hdg, hx⟩ := dfx hk hft
      simp only [dxB, Bool.and_eq_true, Bool.or_eq_true, decide_eq_true_eq, Nat.beq_eq, Nat.blt_eq, Nat.ble_eq, Bool.not_eq_true'] at hx
      obtain ⟨rfl, hx⟩ := hx
      exact ds_ldc2 hdg ho hx (G.2 q hk)⟩
  case iload_n n =>
    delta dstep at hr
    dsimp only at hr
    split at hr
    · rename_i v hv
      have G := ih _ _ _ _ _ _ _ _ hr hw
      exact ⟨G.1, fun q hk => by
        obtain ⟨ho, hdg, hx⟩ := dfx hk hft
        simp only [dxB, Bool.and_eq_true, Bool.or_eq_true, decide_eq_true_eq, Nat.beq_eq, Nat.blt_eq, Nat.ble_eq, Bool.not_eq_true'] at hx
        obtain ⟨rfl, hx⟩ := hx
        exact ds_iload_n hdg hx hv (G.2 q hk)⟩
    · cases hr
  case iload n =>
    delta dstep at hr
    dsimp only at hr
    split at hr
    · rename_i v hv
      have G := ih _ _ _ _ _ _ _ _ hr hw
      exact ⟨G.1, fun q hk => by
        obtain ⟨ho, hdg, hx⟩ := dfx hk hft
        simp only [dxB, Bool.and_eq_true, Bool.or_eq_true, decide_eq_true_eq, Nat.beq_eq, Nat.blt_eq, Nat.ble_eq, Bool.not_eq_true'] at hx
        obtain ⟨rfl, rfl⟩ := hx
        exact ds_iload hdg hv (G.2 q hk)⟩
    · cases hr
  case lload_n n =>
    delta dstep at hr
    dsimp only at hr
    split at hr
    · rename_i v hv
      have G := ih _ _ _ _ _ _ _ _ hr hw
      exact ⟨G.1, fun q hk => by
        obtain ⟨ho, hdg, hx⟩ := dfx hk hft
        simp only [dxB, Bool.and_eq_true, Bool.or_eq_true, decide_eq_true_eq, Nat.beq_eq, Nat.blt_eq, Nat.ble_eq, Bool.not_eq_true'] at hx
        obtain ⟨rfl, hx⟩ := hx
        exact ds_lload_n hdg hx hv (G.2 q hk)⟩
    · cases hr
  case lload n =>
    delta dstep at hr
    dsimp only at hr
    split at hr
    · rename_i v hv
      have G := ih _ _ _ _ _ _ _ _ hr hw
      exact ⟨G.1, fun q hk => by
        obtain ⟨ho, hdg, hx⟩ := dfx hk hft
        simp only [dxB, Bool.and_eq_true, Bool.or_eq_true, decide_eq_true_eq, Nat.beq_eq, Nat.blt_eq, Nat.ble_eq, Bool.not_eq_true'] at hx
        obtain ⟨rfl, rfl⟩ := hx
        exact ds_lload hdg hv (G.2 q hk)⟩
    · cases hr
  case aload_n n =>
    delta dstep at hr
    dsimp only at hr
    split at hr
    · rename_i v hv
      have G := ih _ _ _ _ _ _ _ _ hr hw
      exact ⟨G.1, fun q hk => by
        obtain ⟨ho, hdg, hx⟩ := dfx hk hft
        simp only [dxB, Bool.and_eq_true, Bool.or_eq_true, decide_eq_true_eq, Nat.beq_eq, Nat.blt_eq, Nat.ble_eq, Bool.not_eq_true'] at hx
        obtain ⟨rfl, hx⟩ := hx
        exact ds_aload_n hdg hx hv (G.2 q hk)⟩
    · cases hr
  case aload n =>
    delta dstep at hr
    dsimp only at hr
    split at hr
    · rename_i v hv
      have G := ih _ _ _ _ _ _ _ _ hr hw
      exact ⟨G.1, fun q hk => by
        obtain ⟨ho, hdg, hx⟩ := dfx hk hft
        simp only [dxB, Bool.and_eq_true, Bool.or_eq_true, decide_eq_true_eq, Nat.beq_eq, Nat.blt_eq, Nat.ble_eq, Bool.not_eq_true'] at hx
        obtain ⟨rfl, rfl⟩ := hx
        exact ds_aload hdg hv (G.2 q hk)⟩
    · cases hr
  case istore_n n =>
    delta dstep at hr
    dsimp only at hr
    obtain ⟨v, st, rfl, hr9⟩ := d1_inv hr
    clear hr
    have hr := hr9
    clear hr9
    rw [fltc_eq] at hr
    have G := ih _ _ _ _ _ _ _ _ hr hw
    exact ⟨G.1, fun q hk => by
      obtain ⟨ho, hdg, hx⟩ := dfx hk hft
      simp only [dxB, Bool.and_eq_true, Bool.or_eq_true, decide_eq_true_eq, Nat.beq_eq, Nat.blt_eq, Nat.ble_eq, Bool.not_eq_true'] at hx
      obtain ⟨rfl, hx, hn⟩ := hx
      exact ds_istore_n hdg hx hn (G.2 q hk)⟩
  case istore n =>
    delta dstep at hr
    dsimp only at hr
    obtain ⟨v, st, rfl, hr9⟩ := d1_inv hr
    clear hr
    have hr := hr9
    clear hr9
    rw [fltc_eq] at hr
    have G := ih _ _ _ _ _ _ _ _ hr hw
    exact ⟨G.1, fun q hk => by
      obtain ⟨ho, hdg, hx⟩ := dfx hk hft
      simp only [dxB, Bool.and_eq_true, Bool.or_eq_true, decide_eq_true_eq, Nat.beq_eq, Nat.blt_eq, Nat.ble_eq, Bool.not_eq_true'] at hx
      obtain ⟨rfl, rfl, hn⟩ := hx
      exact ds_istore hdg hn (G.2 q hk)⟩
  case lstore_n n =>
    delta dstep at hr
    dsimp only at hr
    obtain ⟨v, st, rfl, hr9⟩ := d1l_inv hr
    clear hr
    have hr := hr9
    clear hr9
    rw [fltc_eq] at hr
    have G := ih _ _ _ _ _ _ _ _ hr hw
    exact ⟨G.1, fun q hk => by
      obtain ⟨ho, hdg, hx⟩ := dfx hk hft
      simp only [dxB, Bool.and_eq_true, Bool.or_eq_true, decide_eq_true_eq, Nat.beq_eq, Nat.blt_eq, Nat.ble_eq, Bool.not_eq_true'] at hx
      obtain ⟨rfl, hx, hn⟩ := hx
      exact ds_lstore_n hdg hx hn (G.2 q hk)⟩
  case lstore n =>
    delta dstep at hr
    dsimp only at hr
    obtain ⟨v, st, rfl, hr9⟩ := d1l_inv hr
    clear hr
    have hr := hr9
    clear hr9
    rw [fltc_eq] at hr
    have G := ih _ _ _ _ _ _ _ _ hr hw
    exact ⟨G.1, fun q hk => by
      obtain ⟨ho, hdg, hx⟩ := dfx hk hft
      simp only [dxB, Bool.and_eq_true, Bool.or_eq_true, decide_eq_true_eq, Nat.beq_eq, Nat.blt_eq, Nat.ble_eq, Bool.not_eq_true'] at hx
      obtain ⟨rfl, rfl, hn⟩ := hx
      exact ds_lstore hdg hn (G.2 q hk)⟩
  case astore_n n =>
    delta dstep at hr
    dsimp only at hr
    obtain ⟨v, st, rfl, hr9⟩ := d1a_inv hr
    clear hr
    have hr := hr9
    clear hr9
    rw [fltc_eq] at hr
    have G := ih _ _ _ _ _ _ _ _ hr hw
    exact ⟨G.1, fun q hk => by
      obtain ⟨ho, hdg, hx⟩ := dfx hk hft
      simp only [dxB, Bool.and_eq_true, Bool.or_eq_true, decide_eq_true_eq, Nat.beq_eq, Nat.blt_eq, Nat.ble_eq, Bool.not_eq_true'] at hx
      obtain ⟨rfl, hx, hn⟩ := hx
      exact ds_astore_n hdg hx hn (G.2 q hk)⟩
  case astore n =>
    delta dstep at hr
    dsimp only at hr
    obtain ⟨v, st, rfl, hr9⟩ := d1a_inv hr
    clear hr
    have hr := hr9
    clear hr9
    rw [fltc_eq] at hr
    have G := ih _ _ _ _ _ _ _ _ hr hw
    exact ⟨G.1, fun q hk => by
      obtain ⟨ho, hdg, hx⟩ := dfx hk hft
      simp only [dxB, Bool.and_eq_true, Bool.or_eq_true, decide_eq_true_eq, Nat.beq_eq, Nat.blt_eq, Nat.ble_eq, Bool.not_eq_true'] at hx
      obtain ⟨rfl, rfl, hn⟩ := hx
      exact ds_astore hdg hn (G.2 q hk)⟩
  case iinc i n =>
    delta dstep at hr
    dsimp only at hr
    split at hr
    · rename_i v hv
      rw [fo_eq, fltc_eq] at hr
      have G := ih _ _ _ _ _ _ _ _ hr hw
      exact ⟨G.1, fun q hk => by
        obtain ⟨ho, hdg, hx⟩ := dfx hk hft
        simp only [dxB, Bool.and_eq_true, Bool.or_eq_true, decide_eq_true_eq, Nat.beq_eq, Nat.blt_eq, Nat.ble_eq, Bool.not_eq_true'] at hx
        obtain ⟨rfl, rfl, hx, hn⟩ := hx
        exact ds_iinc hdg hx hv hn (G.2 q hk)⟩
    · cases hr
  case iadd =>
    delta dstep at hr
    dsimp only at hr
    obtain ⟨v, w, st, rfl, hr9⟩ := d2_inv hr
    clear hr
    have hr := hr9
    clear hr9
    rw [fo_eq] at hr
    have G := ih _ _ _ _ _ _ _ _ hr hw
    exact ⟨G.1, fun q hk => by
      obtain ⟨ho, hdg, hx⟩ := dfx hk hft
      simp only [dxB, Bool.and_eq_true, Bool.or_eq_true, decide_eq_true_eq, Nat.beq_eq, Nat.blt_eq, Nat.ble_eq, Bool.not_eq_true'] at hx
      subst hx
      exact ds_iadd hdg (G.2 q hk)⟩
  case isub =>
    delta dstep at hr
    dsimp only at hr
    obtain ⟨v, w, st, rfl, hr9⟩ := d2_inv hr
    clear hr
    have hr := hr9
    clear hr9
    rw [fo_eq] at hr
    have G := ih _ _ _ _ _ _ _ _ hr hw
    exact ⟨G.1, fun q hk => by
      obtain ⟨ho, hdg, hx⟩ := dfx hk hft
      simp only [dxB, Bool.and_eq_true, Bool.or_eq_true, decide_eq_true_eq, Nat.beq_eq, Nat.blt_eq, Nat.ble_eq, Bool.not_eq_true'] at hx
      subst hx
      exact ds_isub hdg (G.2 q hk)⟩
  case imul =>
    delta dstep at hr
    dsimp only at hr
    obtain ⟨v, w, st, rfl, hr9⟩ := d2_inv hr
    clear hr
    have hr := hr9
    clear hr9
    rw [fo_eq] at hr
    have G := ih _ _ _ _ _ _ _ _ hr hw
    exact ⟨G.1, fun q hk => by
      obtain ⟨ho, hdg, hx⟩ := dfx hk hft
      simp only [dxB, Bool.and_eq_true, Bool.or_eq_true, decide_eq_true_eq, Nat.beq_eq, Nat.blt_eq, Nat.ble_eq, Bool.not_eq_true'] at hx
      subst hx
      exact ds_imul hdg (G.2 q hk)⟩
  case iand =>
    delta dstep at hr
    dsimp only at hr
    obtain ⟨v, w, st, rfl, hr9⟩ := d2_inv hr
    clear hr
    have hr := hr9
    clear hr9
    rw [fo_eq] at hr
    have G := ih _ _ _ _ _ _ _ _ hr hw
    exact ⟨G.1, fun q hk => by
      obtain ⟨ho, hdg, hx⟩ := dfx hk hft
      simp only [dxB, Bool.and_eq_true, Bool.or_eq_true, decide_eq_true_eq, Nat.beq_eq, Nat.blt_eq, Nat.ble_eq, Bool.not_eq_true'] at hx
      subst hx
      exact ds_iand hdg (G.2 q hk)⟩
  case ior =>
    delta dstep at hr
    dsimp only at hr
    obtain ⟨v, w, st, rfl, hr9⟩ := d2_inv hr
    clear hr
    have hr := hr9
    clear hr9
    rw [fo_eq] at hr
    have G := ih _ _ _ _ _ _ _ _ hr hw
    exact ⟨G.1, fun q hk => by
      obtain ⟨ho, hdg, hx⟩ := dfx hk hft
      simp only [dxB, Bool.and_eq_true, Bool.or_eq_true, decide_eq_true_eq, Nat.beq_eq, Nat.blt_eq, Nat.ble_eq, Bool.not_eq_true'] at hx
      subst hx
      exact ds_ior hdg (G.2 q hk)⟩
  case ixor =>
    delta dstep at hr
    dsimp only at hr
    obtain ⟨v, w, st, rfl, hr9⟩ := d2_inv hr
    clear hr
    have hr := hr9
    clear hr9
    rw [fo_eq] at hr
    have G := ih _ _ _ _ _ _ _ _ hr hw
    exact ⟨G.1, fun q hk => by
      obtain ⟨ho, hdg, hx⟩ := dfx hk hft
      simp only [dxB, Bool.and_eq_true, Bool.or_eq_true, decide_eq_true_eq, Nat.beq_eq, Nat.blt_eq, Nat.ble_eq, Bool.not_eq_true'] at hx
      subst hx
      exact ds_ixor hdg (G.2 q hk)⟩
  case ishl =>
    delta dstep at hr
    dsimp only at hr
    obtain ⟨v, w, st, rfl, hr9⟩ := d2_inv hr
    clear hr
    have hr := hr9
    clear hr9
    rw [fo_eq] at hr
    have G := ih _ _ _ _ _ _ _ _ hr hw
    exact ⟨G.1, fun q hk => by
      obtain ⟨ho, hdg, hx⟩ := dfx hk hft
      simp only [dxB, Bool.and_eq_true, Bool.or_eq_true, decide_eq_true_eq, Nat.beq_eq, Nat.blt_eq, Nat.ble_eq, Bool.not_eq_true'] at hx
      subst hx
      exact ds_ishl hdg (G.2 q hk)⟩
  case ladd =>
    delta dstep at hr
    dsimp only at hr
    obtain ⟨v, w, st, rfl, hr9⟩ := d2l_inv hr
    clear hr
    have hr := hr9
    clear hr9
    rw [fo_eq] at hr
    have G := ih _ _ _ _ _ _ _ _ hr hw
    exact ⟨G.1, fun q hk => by
      obtain ⟨ho, hdg, hx⟩ := dfx hk hft
      simp only [dxB, Bool.and_eq_true, Bool.or_eq_true, decide_eq_true_eq, Nat.beq_eq, Nat.blt_eq, Nat.ble_eq, Bool.not_eq_true'] at hx
      subst hx
      exact ds_ladd hdg (G.2 q hk)⟩
  case lsub =>
    delta dstep at hr
    dsimp only at hr
    obtain ⟨v, w, st, rfl, hr9⟩ := d2l_inv hr
    clear hr
    have hr := hr9
    clear hr9
    rw [fo_eq] at hr
    have G := ih _ _ _ _ _ _ _ _ hr hw
    exact ⟨G.1, fun q hk => by
      obtain ⟨ho, hdg, hx⟩ := dfx hk hft
      simp only [dxB, Bool.and_eq_true, Bool.or_eq_true, decide_eq_true_eq, Nat.beq_eq, Nat.blt_eq, Nat.ble_eq, Bool.not_eq_true'] at hx
      subst hx
      exact ds_lsub hdg (G.2 q hk)⟩
  case lmul =>
    delta dstep at hr
    dsimp only at hr
    obtain ⟨v, w, st, rfl, hr9⟩ := d2l_inv hr
    clear hr
    have hr := hr9
    clear hr9
    rw [fo_eq] at hr
    have G := ih _ _ _ _ _ _ _ _ hr hw
    exact ⟨G.1, fun q hk => by
      obtain ⟨ho, hdg, hx⟩ := dfx hk hft
      simp only [dxB, Bool.and_eq_true, Bool.or_eq_true, decide_eq_true_eq, Nat.beq_eq, Nat.blt_eq, Nat.ble_eq, Bool.not_eq_true'] at hx
      subst hx
      exact ds_lmul hdg (G.2 q hk)⟩
  case land =>
    delta dstep at hr
    dsimp only at hr
    obtain ⟨v, w, st, rfl, hr9⟩ := d2l_inv hr
    clear hr
    have hr := hr9
    clear hr9
    rw [fo_eq] at hr
    have G := ih _ _ _ _ _ _ _ _ hr hw
    exact ⟨G.1, fun q hk => by
      obtain ⟨ho, hdg, hx⟩ := dfx hk hft
      simp only [dxB, Bool.and_eq_true, Bool.or_eq_true, decide_eq_true_eq, Nat.beq_eq, Nat.blt_eq, Nat.ble_eq, Bool.not_eq_true'] at hx
      subst hx
      exact ds_land hdg (G.2 q hk)⟩
  case lor =>
    delta dstep at hr
    dsimp only at hr
    obtain ⟨v, w, st, rfl, hr9⟩ := d2l_inv hr
    clear hr
    have hr := hr9
    clear hr9
    rw [fo_eq] at hr
    have G := ih _ _ _ _ _ _ _ _ hr hw
    exact ⟨G.1, fun q hk => by
      obtain ⟨ho, hdg, hx⟩ := dfx hk hft
      simp only [dxB, Bool.and_eq_true, Bool.or_eq_true, decide_eq_true_eq, Nat.beq_eq, Nat.blt_eq, Nat.ble_eq, Bool.not_eq_true'] at hx
      subst hx
      exact ds_lor hdg (G.2 q hk)⟩
  case lxor =>
    delta dstep at hr
    dsimp only at hr
    obtain ⟨v, w, st, rfl, hr9⟩ := d2l_inv hr
    clear hr
    have hr := hr9
    clear hr9
    rw [fo_eq] at hr
    have G := ih _ _ _ _ _ _ _ _ hr hw
    exact ⟨G.1, fun q hk => by
      obtain ⟨ho, hdg, hx⟩ := dfx hk hft
      simp only [dxB, Bool.and_eq_true, Bool.or_eq_true, decide_eq_true_eq, Nat.beq_eq, Nat.blt_eq, Nat.ble_eq, Bool.not_eq_true'] at hx
      subst hx
      exact ds_lxor hdg (G.2 q hk)⟩
  case lcmp =>
    delta dstep at hr
    dsimp only at hr
    obtain ⟨v, w, st, rfl, hr9⟩ := d2l_inv hr
    clear hr
    have hr := hr9
    clear hr9
    rw [fo_eq] at hr
    have G := ih _ _ _ _ _ _ _ _ hr hw
    exact ⟨G.1, fun q hk => by
      obtain ⟨ho, hdg, hx⟩ := dfx hk hft
      simp only [dxB, Bool.and_eq_true, Bool.or_eq_true, decide_eq_true_eq, Nat.beq_eq, Nat.blt_eq, Nat.ble_eq, Bool.not_eq_true'] at hx
      subst hx
      exact ds_lcmp hdg (G.2 q hk)⟩
  case lshl =>
    delta dstep at hr
    dsimp only at hr
    obtain ⟨v, w, st, rfl, hr9⟩ := dil_inv hr
    clear hr
    have hr := hr9
    clear hr9
    rw [fo_eq] at hr
    have G := ih _ _ _ _ _ _ _ _ hr hw
    exact ⟨G.1, fun q hk => by
      obtain ⟨ho, hdg, hx⟩ := dfx hk hft
      simp only [dxB, Bool.and_eq_true, Bool.or_eq_true, decide_eq_true_eq, Nat.beq_eq, Nat.blt_eq, Nat.ble_eq, Bool.not_eq_true'] at hx
      subst hx
      exact ds_lshl hdg (G.2 q hk)⟩
  case lushr =>
    delta dstep at hr
    dsimp only at hr
    obtain ⟨v, w, st, rfl, hr9⟩ := dil_inv hr
    clear hr
    have hr := hr9
    clear hr9
    rw [fo_eq] at hr
    have G := ih _ _ _ _ _ _ _ _ hr hw
    exact ⟨G.1, fun q hk => by
      obtain ⟨ho, hdg, hx⟩ := dfx hk hft
      simp only [dxB, Bool.and_eq_true, Bool.or_eq_true, decide_eq_true_eq, Nat.beq_eq, Nat.blt_eq, Nat.ble_eq, Bool.not_eq_true'] at hx
      subst hx
      exact ds_lushr hdg (G.2 q hk)⟩
  case ineg =>
    delta dstep at hr
    dsimp only at hr
    obtain ⟨v, st, rfl, hr9⟩ := d1_inv hr
    clear hr
    have hr := hr9
    clear hr9
    rw [fo_eq] at hr
    have G := ih _ _ _ _ _ _ _ _ hr hw
    exact ⟨G.1, fun q hk => by
      obtain ⟨ho, hdg, hx⟩ := dfx hk hft
      simp only [dxB, Bool.and_eq_true, Bool.or_eq_true, decide_eq_true_eq, Nat.beq_eq, Nat.blt_eq, Nat.ble_eq, Bool.not_eq_true'] at hx
      subst hx
      exact ds_ineg hdg (G.2 q hk)⟩
  case i2b =>
    delta dstep at hr
    dsimp only at hr
    obtain ⟨v, st, rfl, hr9⟩ := d1_inv hr
    clear hr
    have hr := hr9
    clear hr9
    rw [fo_eq] at hr
    have G := ih _ _ _ _ _ _ _ _ hr hw
    exact ⟨G.1, fun q hk => by
      obtain ⟨ho, hdg, hx⟩ := dfx hk hft
      simp only [dxB, Bool.and_eq_true, Bool.or_eq_true, decide_eq_true_eq, Nat.beq_eq, Nat.blt_eq, Nat.ble_eq, Bool.not_eq_true'] at hx
      subst hx
      exact ds_i2b hdg (G.2 q hk)⟩
  case i2l =>
    delta dstep at hr
    dsimp only at hr
    obtain ⟨v, st, rfl, hr9⟩ := d1_inv hr
    clear hr
    have hr := hr9
    clear hr9
    rw [fo_eq] at hr
    have G := ih _ _ _ _ _ _ _ _ hr hw
    exact ⟨G.1, fun q hk => by
      obtain ⟨ho, hdg, hx⟩ := dfx hk hft
      simp only [dxB, Bool.and_eq_true, Bool.or_eq_true, decide_eq_true_eq, Nat.beq_eq, Nat.blt_eq, Nat.ble_eq, Bool.not_eq_true'] at hx
      subst hx
      exact ds_i2l hdg (G.2 q hk)⟩
  case l2i =>
    delta dstep at hr
    dsimp only at hr
    obtain ⟨v, st, rfl, hr9⟩ := d1l_inv hr
    clear hr
    have hr := hr9
    clear hr9
    rw [fo_eq] at hr
    have G := ih _ _ _ _ _ _ _ _ hr hw
    exact ⟨G.1, fun q hk => by
      obtain ⟨ho, hdg, hx⟩ := dfx hk hft
      simp only [dxB, Bool.and_eq_true, Bool.or_eq_true, decide_eq_true_eq, Nat.beq_eq, Nat.blt_eq, Nat.ble_eq, Bool.not_eq_true'] at hx
      subst hx
      exact ds_l2i hdg (G.2 q hk)⟩
  case ifCond c o =>
    delta dstep at hr
    dsimp only at hr
    obtain ⟨v, st, rfl, hr9⟩ := d1_inv hr
    clear hr
    have hr := hr9
    clear hr9
    cases hc : dcd c v 0
    · rw [hc] at hr
      have G := ih _ _ _ _ _ _ _ _ hr hw
      exact ⟨G.1, fun q hk => by
        obtain ⟨ho, hdg, hx⟩ := dfx hk hft
        simp only [dxB, Bool.and_eq_true, Bool.or_eq_true, decide_eq_true_eq, Nat.beq_eq, Nat.blt_eq, Nat.ble_eq, Bool.not_eq_true'] at hx
        obtain ⟨rfl, hx⟩ := hx
        exact ds_if hdg hx (fun z => by rw [hc] at z; cases z) (fun _ => G.2 q hk)⟩
    · rw [hc] at hr
      have G := ih _ _ _ _ _ _ _ _ hr hw
      exact ⟨G.1, fun q hk => by
        obtain ⟨ho, hdg, hx⟩ := dfx hk hft
        simp only [dxB, Bool.and_eq_true, Bool.or_eq_true, decide_eq_true_eq, Nat.beq_eq, Nat.blt_eq, Nat.ble_eq, Bool.not_eq_true'] at hx
        obtain ⟨rfl, hx⟩ := hx
        exact ds_if hdg hx (fun _ => G.2 q hk) (fun z => by rw [hc] at z; cases z)⟩
  case if_icmp c o =>
    delta dstep at hr
    dsimp only at hr
    obtain ⟨v, w, st, rfl, hr9⟩ := d2_inv hr
    clear hr
    have hr := hr9
    clear hr9
    cases hc : dcd c v w
    · rw [hc] at hr
      have G := ih _ _ _ _ _ _ _ _ hr hw
      exact ⟨G.1, fun q hk => by
        obtain ⟨ho, hdg, hx⟩ := dfx hk hft
        simp only [dxB, Bool.and_eq_true, Bool.or_eq_true, decide_eq_true_eq, Nat.beq_eq, Nat.blt_eq, Nat.ble_eq, Bool.not_eq_true'] at hx
        obtain ⟨rfl, hx⟩ := hx
        exact ds_icmp hdg hx (fun z => by rw [hc] at z; cases z) (fun _ => G.2 q hk)⟩
    · rw [hc] at hr
      have G := ih _ _ _ _ _ _ _ _ hr hw
      exact ⟨G.1, fun q hk => by
        obtain ⟨ho, hdg, hx⟩ := dfx hk hft
        simp only [dxB, Bool.and_eq_true, Bool.or_eq_true, decide_eq_true_eq, Nat.beq_eq, Nat.blt_eq, Nat.ble_eq, Bool.not_eq_true'] at hx
        obtain ⟨rfl, hx⟩ := hx
        exact ds_icmp hdg hx (fun _ => G.2 q hk) (fun z => by rw [hc] at z; cases z)⟩
  case goto o =>
    delta dstep at hr
    dsimp only at hr
    have G := ih _ _ _ _ _ _ _ _ hr hw
    exact ⟨G.1, fun q hk => by
      obtain ⟨ho, hdg, hx⟩ := dfx hk hft
      simp only [dxB, Bool.and_eq_true, Bool.or_eq_true, decide_eq_true_eq, Nat.beq_eq, Nat.blt_eq, Nat.ble_eq, Bool.not_eq_true'] at hx
      obtain ⟨rfl, hx⟩ := hx
      exact ds_goto hdg hx (G.2 q hk)⟩
  case tableswitch dd lo hi os =>
    delta dstep at hr
    dsimp only at hr
    obtain ⟨v, st, rfl, hr9⟩ := d1_inv hr
    clear hr
    have hr := hr9
    clear hr9
    rw [fo_eq, fo_eq] at hr
    change cond (Nat.blt (dSub v (x % 4294967296)) (wd 16 (x >>> 32) 0)) _ _ = _ at hr
    cases hc : Nat.blt (dSub v (x % 4294967296)) (wd 16 (x >>> 32) 0)
    · rw [hc] at hr
      simp only [cond_false, cond_true, fo_eq] at hr
      have G := ih _ _ _ _ _ _ _ _ hr hw
      have hn : ¬ dSub v (x % 4294967296) < wd 16 (x >>> 32) 0 := fun z => by rw [di_blt.mpr z] at hc; cases hc
      exact ⟨G.1, fun q hk => by
        obtain ⟨ho, hdg, hx⟩ := dfx hk hft
        exact ds_tsw hdg hx (fun j e z => absurd (by rw [← e]; exact z) hn) (fun _ => G.2 q hk)⟩
    · rw [hc] at hr
      simp only [cond_false, cond_true, fo_eq] at hr
      have G := ih _ _ _ _ _ _ _ _ hr hw
      have hn := di_blt.mp hc
      exact ⟨G.1, fun q hk => by
        obtain ⟨ho, hdg, hx⟩ := dfx hk hft
        exact ds_tsw hdg hx (fun j e _ => by rw [e]; exact G.2 q hk) (fun z => absurd hn z)⟩
  case dup =>
    delta dstep at hr
    dsimp only at hr
    cases st with
    | nil => cases hr
    | cons v st =>
      change cond (disl v) none _ = _ at hr
      cases hv : disl v
      · rw [hv] at hr
        have G := ih _ _ _ _ _ _ _ _ hr hw
        exact ⟨G.1, fun q hk => by
          obtain ⟨ho, hdg, hx⟩ := dfx hk hft
          simp only [dxB, Bool.and_eq_true, Bool.or_eq_true, decide_eq_true_eq, Nat.beq_eq, Nat.blt_eq, Nat.ble_eq, Bool.not_eq_true'] at hx
          subst hx
          exact ds_dup hdg hv (G.2 q hk)⟩
      · rw [hv] at hr
        cases hr
  case pop =>
    delta dstep at hr
    dsimp only at hr
    cases st with
    | nil => cases hr
    | cons v st =>
      change cond (disl v) none _ = _ at hr
      cases hv : disl v
      · rw [hv] at hr
        have G := ih _ _ _ _ _ _ _ _ hr hw
        exact ⟨G.1, fun q hk => by
          obtain ⟨ho, hdg, hx⟩ := dfx hk hft
          simp only [dxB, Bool.and_eq_true, Bool.or_eq_true, decide_eq_true_eq, Nat.beq_eq, Nat.blt_eq, Nat.ble_eq, Bool.not_eq_true'] at hx
          subst hx
          exact ds_pop hdg hv (G.2 q hk)⟩
      · rw [hv] at hr
        cases hr
  case dup2 =>
    delta dstep at hr
    dsimp only at hr
    cases st with
    | nil => cases hr
    | cons v st =>
      change cond (disl v) _ _ = _ at hr
      cases hv : disl v
      · rw [hv] at hr
        cases st with
        | nil => cases hr
        | cons w st =>
          change cond (disl w) none _ = _ at hr
          cases hw2 : disl w
          · rw [hw2] at hr
            have G := ih _ _ _ _ _ _ _ _ hr hw
            exact ⟨G.1, fun q hk => by
              obtain ⟨ho, hdg, hx⟩ := dfx hk hft
              simp only [dxB, Bool.and_eq_true, Bool.or_eq_true, decide_eq_true_eq, Nat.beq_eq, Nat.blt_eq, Nat.ble_eq, Bool.not_eq_true'] at hx
              subst hx
              exact ds_dup2_11 hdg hv hw2 (G.2 q hk)⟩
          · rw [hw2] at hr
            cases hr
      · rw [hv] at hr
        have G := ih _ _ _ _ _ _ _ _ hr hw
        exact ⟨G.1, fun q hk => by
          obtain ⟨ho, hdg, hx⟩ := dfx hk hft
          simp only [dxB, Bool.and_eq_true, Bool.or_eq_true, decide_eq_true_eq, Nat.beq_eq, Nat.blt_eq, Nat.ble_eq, Bool.not_eq_true'] at hx
          subst hx
          exact ds_dup2_2 hdg hv (G.2 q hk)⟩
  case getfield i =>
    delta dstep at hr
    dsimp only at hr
    obtain ⟨a, st, rfl, hr9⟩ := d1a_inv hr
    clear hr
    have hr := hr9
    clear hr9
    split at hr
    · rename_i kd n ct ha
      obtain ⟨hkd, hr9⟩ := dco_inv hr
      clear hr
      have hr := hr9
      clear hr9
      rw [fo_eq] at hr
      have G := ih _ _ _ _ _ _ _ _ hr hw
      have hkd := Nat.eq_of_beq_eq_true hkd
      subst hkd
      exact ⟨G.1, fun q hk => by
        obtain ⟨ho, hdg, hx⟩ := dfx hk hft
        simp only [dxB, Bool.and_eq_true, Bool.or_eq_true, decide_eq_true_eq, Nat.beq_eq, Nat.blt_eq, Nat.ble_eq, Bool.not_eq_true'] at hx
        obtain ⟨rfl, hf, hci, hk2, htc⟩ := hx
        exact ds_getfield hdg ho hf hci hk2 htc ha (G.2 q hk)⟩
    · cases hr
  case putfield i =>
    delta dstep at hr
    dsimp only at hr
    cases st with
    | nil => cases hr
    | cons v st =>
      obtain ⟨a, st, rfl, hr9⟩ := d1a_inv hr
      clear hr
      have hr := hr9
      clear hr9
      split at hr
      · rename_i kd n ct ha
        obtain ⟨hkd, hr9⟩ := dco_inv hr
        clear hr
        have hr := hr9
        clear hr9
        have hkd := Nat.eq_of_beq_eq_true hkd
        subst hkd
        obtain ⟨w, hw64, hr, hty⟩ := fe_inv (b := b) hr
        rw [fo_eq] at hr
        obtain ⟨h1, hs, z1, z2, hw1, eh⟩ := hset_spec (c := (Nat.add (Nat.div x 1024) 4, n, wst 64 ct (Nat.mod (Nat.div x 4) 256) w)) (fun h' => rec d cd (Nat.add pc 3) L st h') none hw ha
        rw [hs] at hr
        have G := ih _ _ _ _ _ _ _ _ hr hw1
        refine ⟨⟨by have := G.1.1; omega, by have := G.1.2.1; omega, G.1.2.2⟩, fun q hk => ?_⟩
        obtain ⟨ho, hdg, hx⟩ := dfx hk hft
        simp only [dxB, Bool.and_eq_true, Bool.or_eq_true, decide_eq_true_eq, Nat.beq_eq, Nat.blt_eq, Nat.ble_eq, Bool.not_eq_true'] at hx
        obtain ⟨rfl, hf, hci, hk2, htc, hfn⟩ := hx
        obtain ⟨t1, t2, t3⟩ := hty _ htc
        exact ds_putfield hdg ho hf hci hk2 (fun z => by
          rcases hfn with hfn | hfn
          · rw [z] at hfn; cases hfn
          · exact hfn) ha hw64 t1 t2 t3 z1 z2 hw1 eh (G.2 q hk)
      · cases hr
  case new i =>
    delta dstep at hr
    dsimp only at hr
    obtain ⟨n, s, cs⟩ := h
    change fo _ _ = _ at hr
    rw [fo_eq] at hr
    obtain ⟨h1, hs, z1, z2, hw1, eh⟩ := hpush_spec (c := (Nat.add (Nat.div x 256) 4, Nat.mod x 256, 0)) (sz := Nat.mod x 256) (fun h' => rec d cd (Nat.add pc 3) L (.inr (.inr (Nat.succ n)) :: st) h') none hw
    rw [hs] at hr
    have G := ih _ _ _ _ _ _ _ _ hr hw1
    dsimp only at z1 z2 eh
    refine ⟨⟨by have := G.1.1; show n ≤ _; omega, by have := G.1.2.1; show s ≤ _; omega, G.1.2.2⟩, fun q hk => ?_⟩
    obtain ⟨ho, hdg, hx⟩ := dfx hk hft
    simp only [dxB, Bool.and_eq_true, Bool.or_eq_true, decide_eq_true_eq, Nat.beq_eq, Nat.blt_eq, Nat.ble_eq, Bool.not_eq_true'] at hx
    obtain ⟨rfl, hf, hci, hN⟩ := hx
    exact ds_new hdg ho hf hci z1 (by rw [z2]; exact congrArg _ hN) hw1 (fun j => by rw [eh j]; show (if j = n then some (x / 256 + 4, x % 256, 0) else _) = if j = n then some (x / 256 + 4, cN (x / 256), 0) else _; rw [hN]) G.1.1 G.1.2.1 (G.2 q hk)
  case newarray t =>
    delta dstep at hr
    dsimp only at hr
    obtain ⟨v, st, rfl, hr9⟩ := d1_inv hr
    clear hr
    have hr := hr9
    clear hr9
    obtain ⟨n, s, cs⟩ := h
    change fo _ _ = _ at hr
    rw [fo_eq] at hr
    obtain ⟨hle, hr9⟩ := dco_inv hr
    clear hr
    have hr := hr9
    clear hr9
    obtain ⟨h1, hs, z1, z2, hw1, eh⟩ := hpush_spec (c := (x, Nat.mod v 4294967296, 0)) (sz := Nat.mod v 4294967296) (fun h' => rec d cd (Nat.add pc 2) L (.inr (.inr (Nat.succ n)) :: st) h') none hw
    rw [hs] at hr
    have G := ih _ _ _ _ _ _ _ _ hr hw1
    dsimp only at z1 z2 eh
    refine ⟨⟨by have := G.1.1; show n ≤ _; omega, by have := G.1.2.1; show s ≤ _; omega, G.1.2.2⟩, fun q hk => ?_⟩
    obtain ⟨ho, hdg, hx⟩ := dfx hk hft
    simp only [dxB, Bool.and_eq_true, Bool.or_eq_true, decide_eq_true_eq, Nat.beq_eq, Nat.blt_eq, Nat.ble_eq, Bool.not_eq_true'] at hx
    obtain ⟨rfl, ht⟩ := hx
    have hle := Nat.le_of_ble_eq_true hle
    cases t <;> first | (cases ht; done) | skip
    all_goals (have ht := Nat.eq_of_beq_eq_true ht; subst ht; exact ds_newarray hdg (by decide) rfl rfl hle z1 z2 hw1 eh G.1.1 G.1.2.1 (G.2 q hk))
  case arraylength =>
    delta dstep at hr
    dsimp only at hr
    obtain ⟨a, st, rfl, hr9⟩ := d1a_inv hr
    clear hr
    have hr := hr9
    clear hr9
    split at hr
    · rename_i kd n ct ha
      obtain ⟨hkd, hr9⟩ := dco_inv hr
      clear hr
      have hr := hr9
      clear hr9
      have hkd := di_blt.mp hkd
      have G := ih _ _ _ _ _ _ _ _ hr hw
      exact ⟨G.1, fun q hk => by
        obtain ⟨ho, hdg, hx⟩ := dfx hk hft
        simp only [dxB, Bool.and_eq_true, Bool.or_eq_true, decide_eq_true_eq, Nat.beq_eq, Nat.blt_eq, Nat.ble_eq, Bool.not_eq_true'] at hx
        subst hx
        exact ds_alen hdg hkd ha (G.2 q hk)⟩
    · cases hr
  case iaload =>
    delta dstep at hr
    dsimp only at hr
    obtain ⟨a, i, st, rfl, hr9⟩ := dia_inv hr
    clear hr
    have hr := hr9
    clear hr9
    split at hr
    · rename_i n ct ha
      obtain ⟨g1, g2, hr9⟩ := din_inv hr
      clear hr
      have hr := hr9
      clear hr9
      rw [fo_eq] at hr
      have G := ih _ _ _ _ _ _ _ _ hr hw
      exact ⟨G.1, fun q hk => by
        obtain ⟨ho, hdg, hx⟩ := dfx hk hft
        simp only [dxB, Bool.and_eq_true, Bool.or_eq_true, decide_eq_true_eq, Nat.beq_eq, Nat.blt_eq, Nat.ble_eq, Bool.not_eq_true'] at hx
        subst hx
        exact ds_iaload hdg ha rfl g1 g2 (G.2 q hk)⟩
    · cases hr
  case laload =>
    delta dstep at hr
    dsimp only at hr
    obtain ⟨a, i, st, rfl, hr9⟩ := dia_inv hr
    clear hr
    have hr := hr9
    clear hr9
    split at hr
    · rename_i n ct ha
      obtain ⟨g1, g2, hr9⟩ := din_inv hr
      clear hr
      have hr := hr9
      clear hr9
      rw [fo_eq] at hr
      have G := ih _ _ _ _ _ _ _ _ hr hw
      exact ⟨G.1, fun q hk => by
        obtain ⟨ho, hdg, hx⟩ := dfx hk hft
        simp only [dxB, Bool.and_eq_true, Bool.or_eq_true, decide_eq_true_eq, Nat.beq_eq, Nat.blt_eq, Nat.ble_eq, Bool.not_eq_true'] at hx
        subst hx
        exact ds_laload hdg ha rfl g1 g2 (G.2 q hk)⟩
    · cases hr
  case baload =>
    delta dstep at hr
    dsimp only at hr
    obtain ⟨a, i, st, rfl, hr9⟩ := dia_inv hr
    clear hr
    have hr := hr9
    clear hr9
    split at hr
    · rename_i n ct ha
      obtain ⟨g1, g2, hr9⟩ := din_inv hr
      clear hr
      have hr := hr9
      clear hr9
      rw [fo_eq] at hr
      have G := ih _ _ _ _ _ _ _ _ hr hw
      exact ⟨G.1, fun q hk => by
        obtain ⟨ho, hdg, hx⟩ := dfx hk hft
        simp only [dxB, Bool.and_eq_true, Bool.or_eq_true, decide_eq_true_eq, Nat.beq_eq, Nat.blt_eq, Nat.ble_eq, Bool.not_eq_true'] at hx
        subst hx
        exact ds_baload2 hdg ha rfl g1 g2 (G.2 q hk)⟩
    · rename_i n ct ha
      obtain ⟨g1, g2, hr9⟩ := din_inv hr
      clear hr
      have hr := hr9
      clear hr9
      rw [fo_eq] at hr
      have G := ih _ _ _ _ _ _ _ _ hr hw
      exact ⟨G.1, fun q hk => by
        obtain ⟨ho, hdg, hx⟩ := dfx hk hft
        simp only [dxB, Bool.and_eq_true, Bool.or_eq_true, decide_eq_true_eq, Nat.beq_eq, Nat.blt_eq, Nat.ble_eq, Bool.not_eq_true'] at hx
        subst hx
        exact ds_baload3 hdg ha rfl g1 g2 (G.2 q hk)⟩
    · cases hr
  case iastore =>
    delta dstep at hr
    dsimp only at hr
    obtain ⟨a, i, v, st, rfl, hr9⟩ := diia_inv hr
    clear hr
    have hr := hr9
    clear hr9
    split at hr
    · rename_i n ct ha
      obtain ⟨g1, g2, hr9⟩ := din_inv hr
      clear hr
      have hr := hr9
      clear hr9
      rw [fo_eq] at hr
      obtain ⟨h1, hs, z1, z2, hw1, eh⟩ := hset_spec (c := (0, n, wst 32 ct (i % 4294967296) (Nat.mod v 4294967296))) (fun h' => rec d cd (Nat.add pc 1) L st h') none hw ha
      rw [hs] at hr
      have G := ih _ _ _ _ _ _ _ _ hr hw1
      refine ⟨⟨by have := G.1.1; omega, by have := G.1.2.1; omega, G.1.2.2⟩, fun q hk => ?_⟩
      obtain ⟨ho, hdg, hx⟩ := dfx hk hft
      simp only [dxB, Bool.and_eq_true, Bool.or_eq_true, decide_eq_true_eq, Nat.beq_eq, Nat.blt_eq, Nat.ble_eq, Bool.not_eq_true'] at hx
      subst hx
      exact ds_iastore hdg ha rfl g1 g2 z1 z2 hw1 eh (G.2 q hk)
    · cases hr
  case lastore =>
    delta dstep at hr
    dsimp only at hr
    obtain ⟨a, i, v, st, rfl, hr9⟩ := dlia_inv hr
    clear hr
    have hr := hr9
    clear hr9
    split at hr
    · rename_i n ct ha
      obtain ⟨g1, g2, hr9⟩ := din_inv hr
      clear hr
      have hr := hr9
      clear hr9
      rw [fo_eq] at hr
      obtain ⟨h1, hs, z1, z2, hw1, eh⟩ := hset_spec (c := (1, n, wst 64 ct (i % 4294967296) (Nat.mod v 18446744073709551616))) (fun h' => rec d cd (Nat.add pc 1) L st h') none hw ha
      rw [hs] at hr
      have G := ih _ _ _ _ _ _ _ _ hr hw1
      refine ⟨⟨by have := G.1.1; omega, by have := G.1.2.1; omega, G.1.2.2⟩, fun q hk => ?_⟩
      obtain ⟨ho, hdg, hx⟩ := dfx hk hft
      simp only [dxB, Bool.and_eq_true, Bool.or_eq_true, decide_eq_true_eq, Nat.beq_eq, Nat.blt_eq, Nat.ble_eq, Bool.not_eq_true'] at hx
      subst hx
      exact ds_lastore hdg ha rfl g1 g2 z1 z2 hw1 eh (G.2 q hk)
    · cases hr
  case bastore =>
    delta dstep at hr
    dsimp only at hr
    obtain ⟨a, i, v, st, rfl, hr9⟩ := diia_inv hr
    clear hr
    have hr := hr9
    clear hr9
    split at hr
    · rename_i n ct ha
      obtain ⟨g1, g2, hr9⟩ := din_inv hr
      clear hr
      have hr := hr9
      clear hr9
      rw [fo_eq] at hr
      obtain ⟨h1, hs, z1, z2, hw1, eh⟩ := hset_spec (c := (2, n, wst 8 ct (i % 4294967296) (Nat.mod v 256))) (fun h' => rec d cd (Nat.add pc 1) L st h') none hw ha
      rw [hs] at hr
      have G := ih _ _ _ _ _ _ _ _ hr hw1
      refine ⟨⟨by have := G.1.1; omega, by have := G.1.2.1; omega, G.1.2.2⟩, fun q hk => ?_⟩
      obtain ⟨ho, hdg, hx⟩ := dfx hk hft
      simp only [dxB, Bool.and_eq_true, Bool.or_eq_true, decide_eq_true_eq, Nat.beq_eq, Nat.blt_eq, Nat.ble_eq, Bool.not_eq_true'] at hx
      subst hx
      exact ds_bastore2 hdg ha rfl g1 g2 z1 z2 hw1 eh (G.2 q hk)
    · rename_i n ct ha
      obtain ⟨g1, g2, hr9⟩ := din_inv hr
      clear hr
      have hr := hr9
      clear hr9
      rw [fo_eq] at hr
      obtain ⟨h1, hs, z1, z2, hw1, eh⟩ := hset_spec (c := (3, n, wst 8 ct (i % 4294967296) (Nat.mod v 2))) (fun h' => rec d cd (Nat.add pc 1) L st h') none hw ha
      rw [hs] at hr
      have G := ih _ _ _ _ _ _ _ _ hr hw1
      refine ⟨⟨by have := G.1.1; omega, by have := G.1.2.1; omega, G.1.2.2⟩, fun q hk => ?_⟩
      obtain ⟨ho, hdg, hx⟩ := dfx hk hft
      simp only [dxB, Bool.and_eq_true, Bool.or_eq_true, decide_eq_true_eq, Nat.beq_eq, Nat.blt_eq, Nat.ble_eq, Bool.not_eq_true'] at hx
      subst hx
      exact ds_bastore3 hdg ha rfl g1 g2 z1 z2 hw1 eh (G.2 q hk)
    · cases hr
  case invokestatic i =>
    delta dstep at hr
    dsimp only at hr
    obtain ⟨as, st, rfl, hal, hr9⟩ := dpop_spec hr
    clear hr
    have hr := hr9
    clear hr9
    rw [List.append_nil] at hr
    obtain ⟨hcat, hr9⟩ := dco_inv hr
    clear hr
    have hr := hr9
    clear hr9
    have hcat := Nat.le_of_ble_eq_true hcat
    obtain ⟨d', cd', v, h1, rfl, hcd, hsz, hrec, hr9⟩ := dcall_inv hr
    clear hr
    have hr := hr9
    clear hr9
    obtain ⟨t, ht, htk⟩ := hks _ _ hcd
    have hF := dkB_f htk
    have G0 := ih _ _ _ _ _ _ _ _ hrec hw
    have G := ih _ _ _ _ _ _ _ _ hr G0.1.2.2
    have hM : dMet l D b t d' as h v h1 := dMet_of hF.2.2.2.2.2.1 hF.2.2.2.2.1 (by rw [← hF.2.1]; exact hsz) G0.1.1 G0.1.2.1 (G0.2 t htk)
    have hlt : x / 256 < 1000 := Nat.lt_of_lt_of_le (List.getElem?_eq_some_iff.mp ht).1 dlen
    refine ⟨⟨Nat.le_trans G0.1.1 G.1.1, Nat.le_trans G0.1.2.1 G.1.2.1, G.1.2.2⟩, fun q hk => ?_⟩
    obtain ⟨ho, hdg, hx⟩ := dfx hk hft
    simp only [dxB, Bool.and_eq_true, Bool.or_eq_true, decide_eq_true_eq, Nat.beq_eq, Nat.blt_eq, Nat.ble_eq, Bool.not_eq_true'] at hx
    obtain ⟨rfl, hx⟩ := hx
    rcases hx with hx | hx | ⟨hx, hN⟩
    · omega
    · obtain ⟨c1, c2, c3, c4, c5⟩ := dcallB_f hx ht
      have hmh := cR_mh _ c1
      rw [← c3] at hmh
      exact ds_static hdg ho ⟨ht, c2, c5, hmh, by rw [c4, hal]; rfl, hF.2.2.1⟩ hM G0.1.1 G0.1.2.1 G.1.1 G.1.2.1 hcat (G.2 q hk)
    · obtain ⟨c1, c2, c3, c4, c5⟩ := dcallB_f hx ht
      have hmh := cR_mh _ c1
      rw [← c3] at hmh
      exact ds_nest hdg ho ⟨ht, c2, c5, hmh, by rw [c4, hal]; rfl, hF.2.2.1⟩ hN hM G0.1.1 G0.1.2.1 G.1.1 G.1.2.1 hcat (G.2 q hk)
  case invokevirtual i =>
    delta dstep at hr
    dsimp only at hr
    obtain ⟨as, st, rfl, hal, hr9⟩ := dpop_spec hr
    clear hr
    have hr := hr9
    clear hr9
    rw [List.append_nil] at hr
    obtain ⟨a, st, rfl, hr9⟩ := d1a_inv hr
    clear hr
    have hr := hr9
    clear hr9
    split at hr
    · rename_i kd n ct ha
      obtain ⟨hkd, hr9⟩ := dco_inv hr
      clear hr
      have hr := hr9
      clear hr9
      have hkd := Nat.eq_of_beq_eq_true hkd
      subst hkd
      obtain ⟨hcat, hr9⟩ := dco_inv hr
      clear hr
      have hr := hr9
      clear hr9
      have hcat := Nat.le_of_ble_eq_true hcat
      obtain ⟨d', cd', v, h1, rfl, hcd, hsz, hrec, hr9⟩ := dcall_inv hr
      clear hr
      have hr := hr9
      clear hr9
      obtain ⟨t, ht, htk⟩ := hks _ _ hcd
      have hF := dkB_f htk
      have G0 := ih _ _ _ _ _ _ _ _ hrec hw
      have G := ih _ _ _ _ _ _ _ _ hr G0.1.2.2
      have hM : dMet l D b t d' (.inr (.inr (Nat.succ a)) :: as) h v h1 := dMet_of hF.2.2.2.2.2.1 hF.2.2.2.2.1 (by rw [← hF.2.1]; exact hsz) G0.1.1 G0.1.2.1 (G0.2 t htk)
      have hlt : x / 256 < 1000 := Nat.lt_of_lt_of_le (List.getElem?_eq_some_iff.mp ht).1 dlen
      refine ⟨⟨Nat.le_trans G0.1.1 G.1.1, Nat.le_trans G0.1.2.1 G.1.2.1, G.1.2.2⟩, fun q hk => ?_⟩
      obtain ⟨ho, hdg, hx⟩ := dfx hk hft
      simp only [dxB, Bool.and_eq_true, Bool.or_eq_true, decide_eq_true_eq, Nat.beq_eq, Nat.blt_eq, Nat.ble_eq, Bool.not_eq_true'] at hx
      obtain ⟨rfl, hx⟩ := hx
      rcases hx with hx | hx
      · omega
      · obtain ⟨c1, c2, c3, c4, c5⟩ := dcallB_f hx ht
        have hmh := cR_mh _ c1
        rw [← c3] at hmh
        exact ds_virtual hdg ho ⟨ht, c2, c5, hmh, by rw [c4, hal]; rfl, hF.2.2.1⟩ c1 c3 ha hM G0.1.1 G0.1.2.1 G.1.1 G.1.2.1 hcat (G.2 q hk)
    · cases hr
  case invokespecial i =>
    delta dstep at hr
    dsimp only at hr
    change cond (Nat.beq x 1099511627776) _ _ = _ at hr
    cases hb : Nat.beq x 1099511627776
    · rw [hb] at hr
      obtain ⟨as, st, rfl, hal, hr9⟩ := dpop_spec hr
      clear hr
      have hr := hr9
      clear hr9
      rw [List.append_nil] at hr
      obtain ⟨a, st, rfl, hr9⟩ := d1a_inv hr
      clear hr
      have hr := hr9
      clear hr9
      obtain ⟨hcat, hr9⟩ := dco_inv hr
      clear hr
      have hr := hr9
      clear hr9
      have hcat := Nat.le_of_ble_eq_true hcat
      obtain ⟨d', cd', v, h1, rfl, hcd, hsz, hrec, hr9⟩ := dcall_inv hr
      clear hr
      have hr := hr9
      clear hr9
      obtain ⟨t, ht, htk⟩ := hks _ _ hcd
      have hF := dkB_f htk
      have G0 := ih _ _ _ _ _ _ _ _ hrec hw
      have G := ih _ _ _ _ _ _ _ _ hr G0.1.2.2
      have hM : dMet l D b t d' (.inr (.inr (Nat.succ a)) :: as) h v h1 := dMet_of hF.2.2.2.2.2.1 hF.2.2.2.2.1 (by rw [← hF.2.1]; exact hsz) G0.1.1 G0.1.2.1 (G0.2 t htk)
      have hlt : x / 256 < 1000 := Nat.lt_of_lt_of_le (List.getElem?_eq_some_iff.mp ht).1 dlen
      refine ⟨⟨Nat.le_trans G0.1.1 G.1.1, Nat.le_trans G0.1.2.1 G.1.2.1, G.1.2.2⟩, fun q hk => ?_⟩
      obtain ⟨ho, hdg, hx⟩ := dfx hk hft
      unfold dxB at hx
      dsimp only at hx
      rw [hb, ht] at hx
      simp only [Bool.and_eq_true, Bool.or_eq_true, decide_eq_true_eq, Nat.beq_eq, Nat.ble_eq, Bool.false_and, Bool.false_eq_true, false_or, Bool.not_false, true_and, Option.isNone_iff_eq_none] at hx
      obtain ⟨rfl, hx⟩ := hx
      rcases hx with hx | ⟨hx, hi1, hi2⟩
      · omega
      · obtain ⟨c1, c2, c3, c4, c5⟩ := dcallB_f hx ht
        have hmh := cR_mh _ c1
        rw [← c3] at hmh
        exact ds_special hdg ho ⟨ht, c2, c5, hmh, by rw [c4, hal]; rfl, hF.2.2.1⟩ hi1 hi2 hM G0.1.1 G0.1.2.1 G.1.1 G.1.2.1 hcat (G.2 q hk)
    · rw [hb] at hr
      cases d with
      | zero => cases hr
      | succ d =>
        obtain ⟨a, st, rfl, hr9⟩ := d1a_inv hr
        clear hr
        have hr := hr9
        clear hr9
        obtain ⟨hcat, hr9⟩ := dco_inv hr
        clear hr
        have hr := hr9
        clear hr9
        have hcat := Nat.le_of_ble_eq_true hcat
        have G := ih _ _ _ _ _ _ _ _ hr hw
        refine ⟨G.1, fun q hk => ?_⟩
        obtain ⟨ho, hdg, hx⟩ := dfx hk hft
        unfold dxB at hx
        dsimp only at hx
        rw [hb] at hx
        simp only [Bool.and_eq_true, Bool.or_eq_true, decide_eq_true_eq, Nat.beq_eq, Bool.true_and, Bool.not_true, Bool.false_and, Bool.false_eq_true, or_false] at hx
        obtain ⟨rfl, hx⟩ := hx
        exact ds_objinit hdg ho hx hcat (G.2 q hk)
  case return_ =>
    delta dstep at hr
    dsimp only at hr
    cases st with
    | nil =>
      dsimp only at hr
      split at hr
      · rename_i hc
        cases hr
        refine ⟨⟨Nat.le_refl _, Nat.le_refl _, hw⟩, fun q hk => ?_⟩
        obtain ⟨ho, hdg, hx⟩ := dfx hk hft
        simp only [dxB, Bool.and_eq_true, Bool.or_eq_true, decide_eq_true_eq, Nat.beq_eq, Nat.blt_eq, Nat.ble_eq, Bool.not_eq_true'] at hx
        subst hx
        have hrc := (dkB_f hk).2.2.2.1
        rw [hc] at hrc
        refine ds_return hdg ?_
        unfold drcB at hrc
        split at hrc <;> first | assumption | (cases hrc)
      · cases hr
    | cons v st => cases hr
  case ireturn =>
    delta dstep at hr
    dsimp only at hr
    split at hr
    · rename_i v
      split at hr
      · rename_i hc
        cases hr
        refine ⟨⟨Nat.le_refl _, Nat.le_refl _, hw⟩, fun q hk => ?_⟩
        obtain ⟨ho, hdg, hx⟩ := dfx hk hft
        simp only [dxB, Bool.and_eq_true, Bool.or_eq_true, decide_eq_true_eq, Nat.beq_eq, Nat.blt_eq, Nat.ble_eq, Bool.not_eq_true'] at hx
        subst hx
        have hrc := (dkB_f hk).2.2.2.1
        rw [hc] at hrc
        unfold drcB at hrc
        split at hrc <;> first | (cases hrc; done) | skip
        rename_i hret
        exact ds_ireturn hdg hret rfl
      · rename_i hc
        obtain ⟨hle, hr9⟩ := dco_inv hr
        clear hr
        have hr := hr9
        clear hr9
        have hle := Nat.le_of_ble_eq_true hle
        cases hr
        refine ⟨⟨Nat.le_refl _, Nat.le_refl _, hw⟩, fun q hk => ?_⟩
        obtain ⟨ho, hdg, hx⟩ := dfx hk hft
        simp only [dxB, Bool.and_eq_true, Bool.or_eq_true, decide_eq_true_eq, Nat.beq_eq, Nat.blt_eq, Nat.ble_eq, Bool.not_eq_true'] at hx
        subst hx
        have hrc := (dkB_f hk).2.2.2.1
        rw [hc] at hrc
        unfold drcB at hrc
        split at hrc <;> first | (cases hrc; done) | skip
        rename_i hret
        refine ds_ireturn hdg hret ?_
        rw [← di_imod]
        rcases (show v % 4294967296 = 0 ∨ v % 4294967296 = 1 from by have : Nat.mod v 4294967296 = v % 4294967296 := rfl; omega) with z | z <;> rw [z] <;> decide
      · cases hr
    · cases hr
  case lreturn =>
    delta dstep at hr
    dsimp only at hr
    split at hr
    · rename_i v
      split at hr
      · rename_i hc
        cases hr
        refine ⟨⟨Nat.le_refl _, Nat.le_refl _, hw⟩, fun q hk => ?_⟩
        obtain ⟨ho, hdg, hx⟩ := dfx hk hft
        simp only [dxB, Bool.and_eq_true, Bool.or_eq_true, decide_eq_true_eq, Nat.beq_eq, Nat.blt_eq, Nat.ble_eq, Bool.not_eq_true'] at hx
        subst hx
        have hrc := (dkB_f hk).2.2.2.1
        rw [hc] at hrc
        unfold drcB at hrc
        split at hrc <;> first | (cases hrc; done) | skip
        rename_i hret
        exact ds_lreturn hdg hret
      · cases hr
    · cases hr
  all_goals exact nomatch (show (none : dR) = some (r, h') from hr)
/-- the whole run of a method -/
theorem di_sound {ks : List (List (Option dK))} (hks : ∀ y cd, dmth ks y = some cd → ∃ q, dMis[y]? = some q ∧ dkB q cd = true) (l : Launch) (D : dD) (b : Nat) (f : Nat) : ∀ d cd pc L st h r h', drun ks f d cd pc L st h = some (r, h') → hwf h → dG l D b d cd pc L st h r h' := by
  induction f with
  | zero => intro d cd pc L st h r h' e; cases e
  | succ f ih =>
    intro d cd pc L st h r h' e hw
    change (match dft cd.2.2 pc with
      | none => none
      | some (ins, len, x) => dstep ks (drun ks f) d cd pc L st h ins len x) = _ at e
    cases hft : dft cd.2.2 pc with
    | none => rw [hft] at e; cases e
    | some z =>
      obtain ⟨ins, len, x⟩ := z
      rw [hft] at e
      exact di_step hks ih hft e hw

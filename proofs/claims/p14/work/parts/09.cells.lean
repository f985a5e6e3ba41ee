/-! ===== fields, rows, what is made, calls and answers on the machine ===== -/
theorem dCl_at : ∀ ci, ci < 13 → diCl[ci]? = some (cR ci, cT ci, cN ci) := fun ci h => match ci, h with
  | 0, _ => rfl
  | 1, _ => rfl
  | 2, _ => rfl
  | 3, _ => rfl
  | 4, _ => rfl
  | 5, _ => rfl
  | 6, _ => rfl
  | 7, _ => rfl
  | 8, _ => rfl
  | 9, _ => rfl
  | 10, _ => rfl
  | 11, _ => rfl
  | 12, _ => rfl
  | n + 13, h => absurd h (by omega)
theorem cT_ty : ∀ ci, ci < 13 → ∀ k, k < cN ci → parseFieldDescriptor (cT ci k).2.2.1 = some (cY ci k) := fun ci h => match ci, h with
  | 0, _ => tyX0_ok
  | 1, _ => tyX1_ok
  | 2, _ => tyX2_ok
  | 3, _ => tyX3_ok
  | 4, _ => tyX4_ok
  | 5, _ => tyX5_ok
  | 6, _ => tyX6_ok
  | 7, _ => tyX7_ok
  | 8, _ => tyX8_ok
  | 9, _ => tyX9_ok
  | 10, _ => tyX10_ok
  | 11, _ => tyX11_ok
  | 12, _ => tyX12_ok
  | n + 13, h => absurd h (by omega)
theorem cT_nm : ∀ ci, ci < 13 → ∀ x, x < cN ci → ∀ y, y < cN ci → x ≠ y → (cT ci x).2.1 ≠ (cT ci y).2.1 := fun ci h => match ci, h with
  | 0, _ => nmX0
  | 1, _ => nmX1
  | 2, _ => nmX2
  | 3, _ => nmX3
  | 4, _ => nmX4
  | 5, _ => nmX5
  | 6, _ => nmX6
  | 7, _ => nmX7
  | 8, _ => nmX8
  | 9, _ => nmX9
  | 10, _ => nmX10
  | 11, _ => nmX11
  | 12, _ => nmX12
  | n + 13, h => absurd h (by omega)
theorem cY_tc : ∀ ci, ci < 13 → ∀ k, k < cN ci → tcode (cY ci k) < 4 := by decide +kernel
theorem cR_mh : ∀ ci, ci < 14 → cR ci ≠ "java/lang/invoke/MethodHandle" ∧ cR ci ≠ "java/lang/invoke/VarHandle" := by decide +kernel
theorem dCR.lt13 {D : dD} {b : Nat → Nat} {a ci n ct : Nat} {H : Heap} (h : dCR D b a (ci + 4, n, ct) H) : ci < 13 := by
  rcases h with ⟨h1, -⟩ | ⟨ci2, h1, h2, -⟩ | ⟨-, ce, -, h4⟩
  · have h1 : ci + 4 < 4 := h1
    omega
  · have h2 : ci + 4 = ci2 + 4 := h2
    omega
  · exact h4.elim
theorem dCR.obj {D : dD} {b : Nat → Nat} {a ci n ct : Nat} {H : Heap} (h : dCR D b a (ci + 4, n, ct) H) (hci : ci < 13) : t_OB a (D.1.1 ci) (cN ci) (D.1.2 ci) H (dFld b ci ct) := by
  rcases h with ⟨h1, -⟩ | ⟨cj, -, h2, h3⟩ | ⟨h1, -⟩
  · exact absurd h1 (by show ¬ ci + 4 < 4; omega)
  · have e : cj = ci := by
      have : ci + 4 = cj + 4 := h2
      omega
    subst e
    exact h3
  · exact absurd h1 (by show ¬ ci + 4 = 18; omega)
theorem dCR.exc {D : dD} {b : Nat → Nat} {a n ct : Nat} {H : Heap} (h : dCR D b a (18, n, ct) H) : ∃ ce : Cell, H[a]? = some ce ∧ ce.cls = D.2 4 ∧ ce.vm = .none := by
  rcases h with ⟨h1, -⟩ | ⟨cj, h1, h2, -⟩ | ⟨-, h3⟩
  · exact absurd h1 (by show ¬ 18 < 4; omega)
  · exact absurd h2 (by show ¬ 18 = cj + 4; omega)
  · obtain ⟨ce, -, h4⟩ := h3; exact h4.elim
theorem dCR.arr {D : dD} {b : Nat → Nat} {a kd n ct : Nat} {H : Heap} (hk : kd < 4) (h : dCR D b a (kd, n, ct) H) : H[a]? = some (arrV (D.2 kd) n (dEl kd ct)) := by
  rcases h with ⟨-, h2⟩ | ⟨cj, -, h2, -⟩ | ⟨h2, -⟩
  · exact h2
  · exact absurd h2 (by show ¬ kd = cj + 4; omega)
  · exact absurd h2 (by show ¬ kd = 18; omega)
theorem dV_at {b : Nat → Nat} {ci ct k : Nat} (hk : k < cN ci) : vp_V ((List.range (cN ci)).map (dFld b ci ct)) k = dFld b ci ct k := by
  simp [vp_V, hk]
theorem dP_of {D : dD} {b : Nat → Nat} {a ci ct : Nat} {H : Heap} (hci : ci < 13) (h : t_OB a (D.1.1 ci) (cN ci) (D.1.2 ci) H (dFld b ci ct)) : va_P D.1 diCl [(a, .inr (ci, (List.range (cN ci)).map (dFld b ci ct)))] H := by
  intro k x hx
  match k, hx with
  | 0, hx =>
    cases hx
    exact ⟨_, dCl_at ci hci, h.to (fun k hk => (dV_at hk).symm)⟩
  | k + 1, hx => cases hx
theorem dcast {b : Nat → Nat} {ty : FieldType} {w : Nat} (h : tcode ty < 4) : dv b (fv (tcode ty) 0) = defaultValue ty := by
  cases ty <;> first | rfl | (exact absurd h (by decide))
theorem dix {i n : Nat} (h1 : i % 4294967296 < n) (h2 : i % 4294967296 < 2147483648) : ¬ (Int32.ofNat i < 0 ∨ n ≤ (Int32.ofNat i).toNatClampNeg) ∧ (Int32.ofNat i).toNatClampNeg = i % 4294967296 := by
  rw [← di_imod i]
  have hc : (Int32.ofNat (i % 4294967296)).toNatClampNeg = i % 4294967296 := nI_clamp (show i % 4294967296 < 2 ^ 31 from h2)
  refine ⟨?_, hc⟩
  rw [hc]
  rintro (q | q)
  · rw [Int32.lt_iff_toInt_lt, di_iv] at q
    rw [if_pos (by omega)] at q
    have : (0 : Int32).toInt = 0 := rfl
    omega
  · omega
theorem ds_v0 (v : Nat) : Value.int (Int32.ofNat v) = .int (Int32.ofNat (v % 4294967296)) := by rw [di_imod]
theorem ds_v1 (v : Nat) : Value.long (Int64.ofNat v) = .long (Int64.ofNat (v % 18446744073709551616)) := by rw [di_jmod]
theorem ds_v2 (v : Nat) : narrow .byte (.int (Int32.ofNat v)) = .int (Int32.ofNat (dI2b (v % 256))) := by
  show Value.int ((Int32.ofNat v).toInt8.toInt32) = _
  rw [di_i2b, di_i2b_eq, di_i2b_eq, Nat.mod_mod]
theorem ds_v3 (v : Nat) : narrow .boolean (.int (Int32.ofNat v)) = .int (Int32.ofNat (v % 2)) := by
  show Value.int (Int32.ofNat v &&& 1) = _
  rw [show (1 : Int32) = Int32.ofNat 1 from rfl, di_and0, show v &&& 1 = v % 2 from Nat.and_two_pow_sub_one_eq_mod v 1]
section DC
variable {l : Launch} {D : dD} {b : Nat → Nat} {q : dMI} {d pc : Nat} {L : dL} {st : List dV} {h h1 : dH} {r : Option dV} {h' : dH} {a n ct ci k : Nat}
theorem ds_getfield {i tc : Nat} (hdg : decode q.2.2.1 pc = .ok (.getfield i, 3)) (ho : q.1 < 14) (hf : (i, ci, k) ∈ dFT q.1) (hci : ci < 13) (hk : k < cN ci) (htc : tcode (cY ci k) = tc) (hc : hat h a = some (ci + 4, n, ct)) (G : dWp l D b q d (pc + 3) L (fv tc (wd 64 ct k) :: st) h r h') : dWp l D b q d pc L (.inr (.inr (Nat.succ a)) :: st) h r h' := by
  intro p e R s m args below meth c H locs cells slots mc ms ls C hR hS hl hm e1 e2
  have hO := (hR.2.2 a _ hc).obj hci
  refine va_get (D := D.1) (ws := [(b a, .inr (ci, (List.range (cN ci)).map (dFld b ci ct)))]) (ci := ci) (v := dv b (fv tc (wd 64 ct k))) (C := cR ci) (T := cT ci) (N := cN ci) C.1 C.2.1 C.2.2.2.2.1 (fun w hw => List.mem_cons_of_mem _ (dTB_u hci hw)) C.2.2.2.1 C.2.2.2.2.2.2.2.2.1.1 (dP_of hci hO) 0 rfl (dCl_at ci hci) k hk (C.2.2.2.2.1 _ (List.mem_cons_of_mem _ (dTB_f ho hf))) (fun _ z => z) (by simp [hk, dFld, htc]) hdg ?_
  exact G p e R s m args below meth c H locs cells slots mc ms ls C hR hS hl hm e1 e2
theorem ds_putfield {i w : Nat} {v : dV} (hdg : decode q.2.2.1 pc = .ok (.putfield i, 3)) (ho : q.1 < 14) (hf : (i, ci, k) ∈ dFT q.1) (hci : ci < 13) (hk : k < cN ci) (hfin : (cT ci k).2.2.2 = true → q.2.1.name = "<init>" ∧ (cT ci k).1 = cR q.1) (hc : hat h a = some (ci + 4, n, ct)) (hw : w < 2 ^ 64) (hval : dv b (fv (tcode (cY ci k)) w) = dv b v) (hfit : fits (cY ci k) (dv b v) = true) (hnar : narrow (cY ci k) (dv b v) = dv b v)
    (z1 : h1.1 = h.1) (z2 : h1.2.1 = h.2.1) (hw1 : hwf h1) (eh : ∀ j, hat h1 j = if j = a then some (ci + 4, n, wst 64 ct k w) else hat h j) (G : dWp l D b q d (pc + 3) L st h1 r h') : dWp l D b q d pc L (v :: .inr (.inr (Nat.succ a)) :: st) h r h' := by
  intro p e R s m args below meth c H locs cells slots mc ms ls C hR hS hl hm e1 e2
  obtain ⟨cell, q1, q2, q3, q4⟩ := (hR.2.2 a _ hc).obj hci
  obtain ⟨hSl, hfc, kC, hkC, hkind⟩ := C.2.2.2.2.2.2.2.2.1.1.1 ci _ (dCl_at ci hci)
  obtain ⟨cf, kf, fi, f, hi, hsl⟩ := hSl k hk
  have hts := C.2.2.2.2.1
  have hin : ∀ w ∈ u_ws (cR ci) (cT ci) (cN ci), w ∈ dTs q := fun w hw => List.mem_cons_of_mem _ (dTB_u hci hw)
  have hap : ∀ x y, x < cN ci → y < cN ci → x ≠ y → (D.1.2 ci) x ≠ (D.1.2 ci) y := va_apart (D := D.1) (cl := diCl) (tys := []) (own := cR ci) hts hin (cY ci) (cT_ty ci hci) (cT_nm ci hci) C.2.2.2.2.2.2.2.2.1.1 (dCl_at ci hci)
  have hlink := hts _ (List.mem_cons_of_mem _ (dTB_f ho hf))
  have hlay := hts _ (hin _ (u_in_lay hk))
  have hd := cT_ty ci hci k hk
  have hst := (u_facts hfc hkC (u_lays hts hin hk) hi).1
  have hdone : ∀ (H1 : Heap), H1[b a]? = some (cell.setSlot (D.1.2 ci k) (dv b v)) → H1.size = H.size → (∀ x, x ≠ b a → H1[x]? = H[x]?) → W p l e R s m args below meth c H1 (locs ++ [⟨b a, D.1.2 ci k⟩]) cells slots (dE D b r h' below args s mc ms) (F0 m (pc + 3) ls (st.map (dv b))) := by
    intro H1 x1 x2 x3
    refine G p e R s m args below meth c H1 _ cells slots mc ms ls C (hR.set hc x2 x3 (Or.inr (Or.inl ⟨ci, hci, rfl, ?_⟩)) z1 hw1 eh) (hS.put x3 (by have := hR.at (Nat.le_of_lt (hat_lt hR.2.1 hc)); omega)) hl hm (by omega) (by omega)
    refine t_OB.to (V := updV (dFld b ci ct) k (dv b v)) ⟨_, x1, q2, q3, t_set q4 hap hk _⟩ (fun j hj => ?_)
    show updV _ _ _ j = dv b (fv (tcode (cY ci j)) (wd 64 (wst 64 ct k w) j))
    rw [wd_wst j hw]
    by_cases hjk : j = k
    · subst hjk
      simp [updV, hval]
    · simp [updV, hjk, dFld]
  unfold u_lay at hlay
  cases hfl : (cT ci k).2.2.2
  · rw [if_neg (by rw [hfl]; decide)] at hlay
    have h6 := u_store hfc hkC hkind hlay hi hd hnar hfit
    refine W.putK C.1 C.2.1 (f := f) ⟨C.2.2.2.1, hlink, ⟨_, _, _, hi⟩, hst⟩ (by rw [q2]; exact h6) q1 q3 (by rw [hsl]; exact k2_hasslot (q4 k hk)) rfl rfl hdg fun H' x1 x2 x3 => ?_
    rw [hsl] at x1 ⊢
    exact hdone H' x1 x2 x3
  · rw [if_pos hfl] at hlay
    obtain ⟨hi1, hi2⟩ := hfin hfl
    have hcf : m.cls = cf := by
      obtain ⟨_, _, c', _, _, _, -, -, hf', -, -, -, hown2, -⟩ := Cond.laysFinal_spec hlay
      have y1 : c' = cf := by have := hi.symm.trans hf'; simp at this; exact this.1.symm
      rw [hi2] at hown2
      rw [← y1]; exact Option.some.inj (C.2.2.2.1.symm.trans hown2)
    have h6 := u_fits hfc hkC hkind (Or.inr hlay) hi hd hnar hfit
    refine W.putFinK C.1 C.2.1 C.2.2.2.1 hlink hi hst hcf (C.2.2.2.2.2.2.2.1.trans hi1) (by rw [q2]; exact h6) q1 q3 (by rw [hsl]; exact k2_hasslot (q4 k hk)) rfl rfl hdg fun H' x1 x2 x3 => ?_
    rw [hsl] at x1 ⊢
    exact hdone H' x1 x2 x3
theorem ds_new {i : Nat} (hn : h.1 < 1073741824) (hdg : decode q.2.2.1 pc = .ok (.new i, 3)) (ho : q.1 < 14) (hx : (i, ci) ∈ dCT q.1) (hci : ci < 13) (z1 : h1.1 = h.1 + 1) (z2 : h1.2.1 = h.2.1 + cN ci) (hw1 : hwf h1) (eh : ∀ j, hat h1 j = if j = h.1 then some (ci + 4, cN ci, 0) else hat h j) (y1 : h1.1 ≤ h'.1) (y2 : h1.2.1 ≤ h'.2.1) (G : dWp l D b q d (pc + 3) L (.inr (.inr (Nat.succ h.1)) :: st) h1 r h') : dWp l D b q d pc L st h r h' := by
  intro p e R s m args below meth c H locs cells slots mc ms ls C hR hS hl hm e1 e2
  have hts := C.2.2.2.2.1
  have hin : ∀ w ∈ u_ws (cR ci) (cT ci) (cN ci), w ∈ dTs q := fun w hw => List.mem_cons_of_mem _ (dTB_u hci hw)
  have hKn := C.2.2.2.2.2.2.2.2.1.1.1 ci _ (dCl_at ci hci)
  have w1 : Cond.classLink (cR q.1) i (cR ci) ∈ dTs q := List.mem_cons_of_mem _ (dTB_l ho (by unfold dWL; exact List.mem_append.mpr (Or.inl (List.mem_map.mpr ⟨(i, ci), hx, rfl⟩))))
  have w2 : Cond.instantiable (cR ci) (cN ci) ∈ dTs q := List.mem_cons_of_mem _ (dTB_n hci (by simp))
  have w3 : Cond.initialized (cR ci) ∈ dTs q := List.mem_cons_of_mem _ (dTB_n hci (by simp))
  refine W.newcK C.1 C.2.1 C.2.2.2.1 (hts _ w1) (hts _ w2) (hts _ w3) rfl hdg (by have := hm.2.2.1; omega) (by have := hm.2.2.2; omega) hKn.2.1 rfl fun H1 kC hkC x1 x2 x3 => ?_
  rw [show (Value.ref H.size : Value) = dv b (.inr (.inr (Nat.succ h.1))) by rw [hR.1.1, ← hR.at (Nat.le_refl _)]; rfl]
  refine G p e R s m args below meth c H1 locs (cells + 1) (slots + cN ci) mc ms ls C (hR.push hn x2 x3 (Or.inr (Or.inl ⟨ci, hci, rfl, ?_⟩)) z1 hw1 eh) (hS.push hR.1.1 x3) hl hm (by omega) (by omega)
  refine (u_born (cY ci) hts hin hKn hkC x1 (cT_ty ci hci)).to (fun j hj => ?_)
  show _ = dv b (fv _ (wd 64 0 j))
  rw [wd_0, dcast (w := 0) (cY_tc ci hci j hj)]
theorem dEl_0 {kd j : Nat} (hk : kd < 4) : dEl kd 0 j = defaultValue (dTy kd) := by
  rcases (show kd = 0 ∨ kd = 1 ∨ kd = 2 ∨ kd = 3 by omega) with rfl | rfl | rfl | rfl <;> (simp only [dEl, dTy, wd_0]; rfl)
theorem ds_newarray {t : ArrayType} {kd x N : Nat} (hn : h.1 < 1073741824) (hdg : decode q.2.2.1 pc = .ok (.newarray t, 2)) (hk : kd < 4) (ht : newarray.typeOf t = dTy kd) (hN : x % 4294967296 = N) (hle : N ≤ 67108864) (z1 : h1.1 = h.1 + 1) (z2 : h1.2.1 = h.2.1 + N) (hw1 : hwf h1) (eh : ∀ j, hat h1 j = if j = h.1 then some (kd, N, 0) else hat h j) (y1 : h1.1 ≤ h'.1) (y2 : h1.2.1 ≤ h'.2.1) (G : dWp l D b q d (pc + 2) L (.inr (.inr (Nat.succ h.1)) :: st) h1 r h') : dWp l D b q d pc L (.inl x :: st) h r h' := by
  intro p e R s m args below meth c H locs cells slots mc ms ls C hR hS hl hm e1 e2
  have hts := C.2.2.2.2.1
  have hi := dix (i := x) (n := N + 1) (by omega) (by omega)
  have w1 : Cond.arrayClass (newarray.typeOf t) ∈ dTs q := by
    rw [ht]
    rcases (show kd = 0 ∨ kd = 1 ∨ kd = 2 ∨ kd = 3 by omega) with rfl | rfl | rfl | rfl <;> exact List.mem_cons_of_mem _ (List.mem_append.mpr (Or.inl (by simp [dTy])))
  refine va_newaK C.1 C.2.1 (hts _ w1) rfl hdg rfl (fun z => hi.1 (Or.inl z)) (hi.2.trans hN) ?_ (by have := hm.2.2.1; omega) (by have := hm.2.2.2; omega) rfl fun H1 cA x1 x2 x3 hAr hNm => ?_
  · rw [ht]
    rcases (show kd = 0 ∨ kd = 1 ∨ kd = 2 ∨ kd = 3 by omega) with rfl | rfl | rfl | rfl <;> (simp only [dTy, componentBytes]; omega)
  · have hcA : cA = D.2 kd := by
      rw [ht] at hNm
      exact Option.some.inj (hNm.symm.trans (C.2.2.2.2.2.2.2.2.1.2.1 kd hk).2)
    subst hcA
    rw [show (Value.ref H.size : Value) = dv b (.inr (.inr (Nat.succ h.1))) by rw [hR.1.1, ← hR.at (Nat.le_refl _)]; rfl]
    refine G p e R s m args below meth c H1 locs (cells + 1) (slots + N) mc ms ls C (hR.push hn x2 x3 (Or.inl ⟨hk, ?_⟩) z1 hw1 eh) (hS.push hR.1.1 x3) hl hm (by omega) (by omega)
    rw [x1, ht]
    congr 2
    funext j
    exact (dEl_0 hk).symm
theorem ds_alen {kd : Nat} (hdg : decode q.2.2.1 pc = .ok (.arraylength, 1)) (hk : kd < 4) (hc : hat h a = some (kd, n, ct)) (G : dWp l D b q d (pc + 1) L (.inl n :: st) h r h') : dWp l D b q d pc L (.inr (.inr (Nat.succ a)) :: st) h r h' := by
  intro p e R s m args below meth c H locs cells slots mc ms ls C hR hS hl hm e1 e2
  refine W.alen (n := Int32.ofNat n) C.1 C.2.1 ((hR.2.2 a _ hc).arr hk) ((C.2.2.2.2.2.2.2.2.1.2.1 kd hk).1 n (dEl kd ct)) (by rw [arrV_size]; try rfl) rfl rfl hdg ?_
  exact G p e R s m args below meth c H locs cells slots mc ms ls C hR hS hl hm e1 e2

theorem ds_iaload {i x : Nat} (hdg : decode q.2.2.1 pc = .ok (.iaload, 1)) (hc : hat h a = some (0, n, ct)) (hx : x % 4294967296 = i) (h1 : i < n) (h2 : i < 2147483648) (G : dWp l D b q d (pc + 1) L (.inl (wd 32 ct i) :: st) h r h') : dWp l D b q d pc L (.inl x :: .inr (.inr (Nat.succ a)) :: st) h r h' := by
  intro p e R s m args below meth c H locs cells slots mc ms ls C hR hS hl hm e1 e2
  subst hx
  have hi := dix h1 h2
  refine W.iald (v := dEl 0 ct (x % 4294967296)) C.1 C.2.1 ((hR.2.2 a _ hc).arr (by decide)) ((C.2.2.2.2.2.2.2.2.1.2.1 0 (by decide)).1 n (dEl 0 ct)) (fun z => by cases z) (by rw [arrV_size]; exact hi.1) (by rw [hi.2, arrV_read _ _ h1]) rfl rfl hdg ?_
  exact G p e R s m args below meth c H locs cells slots mc ms ls C hR hS hl hm e1 e2

theorem ds_laload {i x : Nat} (hdg : decode q.2.2.1 pc = .ok (.laload, 1)) (hc : hat h a = some (1, n, ct)) (hx : x % 4294967296 = i) (h1 : i < n) (h2 : i < 2147483648) (G : dWp l D b q d (pc + 1) L (.inr (.inl (wd 64 ct i)) :: st) h r h') : dWp l D b q d pc L (.inl x :: .inr (.inr (Nat.succ a)) :: st) h r h' := by
  intro p e R s m args below meth c H locs cells slots mc ms ls C hR hS hl hm e1 e2
  subst hx
  have hi := dix h1 h2
  refine W.lald (v := dEl 1 ct (x % 4294967296)) C.1 C.2.1 ((hR.2.2 a _ hc).arr (by decide)) ((C.2.2.2.2.2.2.2.2.1.2.1 1 (by decide)).1 n (dEl 1 ct)) (fun z => by cases z) (by rw [arrV_size]; exact hi.1) (by rw [hi.2, arrV_read _ _ h1]) rfl rfl hdg ?_
  exact G p e R s m args below meth c H locs cells slots mc ms ls C hR hS hl hm e1 e2

theorem ds_baload2 {i x : Nat} (hdg : decode q.2.2.1 pc = .ok (.baload, 1)) (hc : hat h a = some (2, n, ct)) (hx : x % 4294967296 = i) (h1 : i < n) (h2 : i < 2147483648) (G : dWp l D b q d (pc + 1) L (.inl (dI2b (wd 8 ct i)) :: st) h r h') : dWp l D b q d pc L (.inl x :: .inr (.inr (Nat.succ a)) :: st) h r h' := by
  intro p e R s m args below meth c H locs cells slots mc ms ls C hR hS hl hm e1 e2
  subst hx
  have hi := dix h1 h2
  refine W.bald (v := dEl 2 ct (x % 4294967296)) C.1 C.2.1 ((hR.2.2 a _ hc).arr (by decide)) ((C.2.2.2.2.2.2.2.2.1.2.1 2 (by decide)).1 n (dEl 2 ct)) (fun z => by cases z) (by rw [arrV_size]; exact hi.1) (by rw [hi.2, arrV_read _ _ h1]) rfl rfl hdg ?_
  exact G p e R s m args below meth c H locs cells slots mc ms ls C hR hS hl hm e1 e2

theorem ds_baload3 {i x : Nat} (hdg : decode q.2.2.1 pc = .ok (.baload, 1)) (hc : hat h a = some (3, n, ct)) (hx : x % 4294967296 = i) (h1 : i < n) (h2 : i < 2147483648) (G : dWp l D b q d (pc + 1) L (.inl (wd 8 ct i) :: st) h r h') : dWp l D b q d pc L (.inl x :: .inr (.inr (Nat.succ a)) :: st) h r h' := by
  intro p e R s m args below meth c H locs cells slots mc ms ls C hR hS hl hm e1 e2
  subst hx
  have hi := dix h1 h2
  refine W.zald (v := dEl 3 ct (x % 4294967296)) C.1 C.2.1 ((hR.2.2 a _ hc).arr (by decide)) ((C.2.2.2.2.2.2.2.2.1.2.1 3 (by decide)).1 n (dEl 3 ct)) (fun z => by cases z) (by rw [arrV_size]; exact hi.1) (by rw [hi.2, arrV_read _ _ h1]) rfl rfl hdg ?_
  exact G p e R s m args below meth c H locs cells slots mc ms ls C hR hS hl hm e1 e2

theorem ds_iastore {i x v : Nat} (hdg : decode q.2.2.1 pc = .ok (.iastore, 1)) (hc : hat h a = some (0, n, ct)) (hx : x % 4294967296 = i) (g1 : i < n) (g2 : i < 2147483648) (z1 : h1.1 = h.1) (z2 : h1.2.1 = h.2.1) (hw1 : hwf h1) (eh : ∀ j, hat h1 j = if j = a then some (0, n, wst 32 ct i (v % 4294967296)) else hat h j) (G : dWp l D b q d (pc + 1) L st h1 r h') : dWp l D b q d pc L (.inl v :: .inl x :: .inr (.inr (Nat.succ a)) :: st) h r h' := by
  intro p e R s m args below meth c H locs cells slots mc ms ls C hR hS hl hm e1 e2
  subst hx
  have hi := dix g1 g2
  refine W.iast C.1 C.2.1 ((hR.2.2 a _ hc).arr (by decide)) ((C.2.2.2.2.2.2.2.2.1.2.1 0 (by decide)).1 n (dEl 0 ct)) (fun z => by cases z) (by rw [arrV_size]; exact hi.1) rfl rfl hdg fun H1 x1 x2 x3 => ?_
  rw [hi.2] at x1 ⊢
  refine G p e R s m args below meth c H1 _ cells slots mc ms ls C (hR.set hc x2 x3 (Or.inl ⟨show 0 < 4 by decide, ?_⟩) z1 hw1 eh) (hS.put x3 (by have := hR.at (Nat.le_of_lt (hat_lt hR.2.1 hc)); omega)) hl hm (by omega) (by omega)
  rw [x1, arrV_store]
  congr 2
  funext j
  have hlt : v % 4294967296 < 2 ^ 32 := by omega
  by_cases hj : j = x % 4294967296
  · simp only [updV, if_pos hj, dEl, wd_wst j hlt]
    exact ds_v0 v
  · simp only [updV, if_neg hj, dEl, wd_wst j hlt]

theorem ds_lastore {i x v : Nat} (hdg : decode q.2.2.1 pc = .ok (.lastore, 1)) (hc : hat h a = some (1, n, ct)) (hx : x % 4294967296 = i) (g1 : i < n) (g2 : i < 2147483648) (z1 : h1.1 = h.1) (z2 : h1.2.1 = h.2.1) (hw1 : hwf h1) (eh : ∀ j, hat h1 j = if j = a then some (1, n, wst 64 ct i (v % 18446744073709551616)) else hat h j) (G : dWp l D b q d (pc + 1) L st h1 r h') : dWp l D b q d pc L (.inr (.inl v) :: .inl x :: .inr (.inr (Nat.succ a)) :: st) h r h' := by
  intro p e R s m args below meth c H locs cells slots mc ms ls C hR hS hl hm e1 e2
  subst hx
  have hi := dix g1 g2
  refine W.last C.1 C.2.1 ((hR.2.2 a _ hc).arr (by decide)) ((C.2.2.2.2.2.2.2.2.1.2.1 1 (by decide)).1 n (dEl 1 ct)) (fun z => by cases z) (by rw [arrV_size]; exact hi.1) rfl rfl hdg fun H1 x1 x2 x3 => ?_
  rw [hi.2] at x1 ⊢
  refine G p e R s m args below meth c H1 _ cells slots mc ms ls C (hR.set hc x2 x3 (Or.inl ⟨show 1 < 4 by decide, ?_⟩) z1 hw1 eh) (hS.put x3 (by have := hR.at (Nat.le_of_lt (hat_lt hR.2.1 hc)); omega)) hl hm (by omega) (by omega)
  rw [x1, arrV_store]
  congr 2
  funext j
  have hlt : v % 18446744073709551616 < 2 ^ 64 := by omega
  by_cases hj : j = x % 4294967296
  · simp only [updV, if_pos hj, dEl, wd_wst j hlt]
    exact ds_v1 v
  · simp only [updV, if_neg hj, dEl, wd_wst j hlt]

theorem ds_bastore2 {i x v : Nat} (hdg : decode q.2.2.1 pc = .ok (.bastore, 1)) (hc : hat h a = some (2, n, ct)) (hx : x % 4294967296 = i) (g1 : i < n) (g2 : i < 2147483648) (z1 : h1.1 = h.1) (z2 : h1.2.1 = h.2.1) (hw1 : hwf h1) (eh : ∀ j, hat h1 j = if j = a then some (2, n, wst 8 ct i (v % 256)) else hat h j) (G : dWp l D b q d (pc + 1) L st h1 r h') : dWp l D b q d pc L (.inl v :: .inl x :: .inr (.inr (Nat.succ a)) :: st) h r h' := by
  intro p e R s m args below meth c H locs cells slots mc ms ls C hR hS hl hm e1 e2
  subst hx
  have hi := dix g1 g2
  refine W.bast C.1 C.2.1 ((hR.2.2 a _ hc).arr (by decide)) ((C.2.2.2.2.2.2.2.2.1.2.1 2 (by decide)).1 n (dEl 2 ct)) (fun z => by cases z) (by rw [arrV_size]; exact hi.1) rfl rfl hdg fun H1 x1 x2 x3 => ?_
  rw [hi.2] at x1 ⊢
  refine G p e R s m args below meth c H1 _ cells slots mc ms ls C (hR.set hc x2 x3 (Or.inl ⟨show 2 < 4 by decide, ?_⟩) z1 hw1 eh) (hS.put x3 (by have := hR.at (Nat.le_of_lt (hat_lt hR.2.1 hc)); omega)) hl hm (by omega) (by omega)
  rw [x1, arrV_store]
  congr 2
  funext j
  have hlt : v % 256 < 2 ^ 8 := by omega
  by_cases hj : j = x % 4294967296
  · simp only [updV, if_pos hj, dEl, wd_wst j hlt]
    exact ds_v2 v
  · simp only [updV, if_neg hj, dEl, wd_wst j hlt]

theorem ds_bastore3 {i x v : Nat} (hdg : decode q.2.2.1 pc = .ok (.bastore, 1)) (hc : hat h a = some (3, n, ct)) (hx : x % 4294967296 = i) (g1 : i < n) (g2 : i < 2147483648) (z1 : h1.1 = h.1) (z2 : h1.2.1 = h.2.1) (hw1 : hwf h1) (eh : ∀ j, hat h1 j = if j = a then some (3, n, wst 8 ct i (v % 2)) else hat h j) (G : dWp l D b q d (pc + 1) L st h1 r h') : dWp l D b q d pc L (.inl v :: .inl x :: .inr (.inr (Nat.succ a)) :: st) h r h' := by
  intro p e R s m args below meth c H locs cells slots mc ms ls C hR hS hl hm e1 e2
  subst hx
  have hi := dix g1 g2
  refine W.zast C.1 C.2.1 ((hR.2.2 a _ hc).arr (by decide)) ((C.2.2.2.2.2.2.2.2.1.2.1 3 (by decide)).1 n (dEl 3 ct)) (fun z => by cases z) (by rw [arrV_size]; exact hi.1) rfl rfl hdg fun H1 x1 x2 x3 => ?_
  rw [hi.2] at x1 ⊢
  refine G p e R s m args below meth c H1 _ cells slots mc ms ls C (hR.set hc x2 x3 (Or.inl ⟨show 3 < 4 by decide, ?_⟩) z1 hw1 eh) (hS.put x3 (by have := hR.at (Nat.le_of_lt (hat_lt hR.2.1 hc)); omega)) hl hm (by omega) (by omega)
  rw [x1, arrV_store]
  congr 2
  funext j
  have hlt : v % 2 < 2 ^ 8 := by omega
  by_cases hj : j = x % 4294967296
  · simp only [updV, if_pos hj, dEl, wd_wst j hlt]
    exact ds_v3 v
  · simp only [updV, if_neg hj, dEl, wd_wst j hlt]

end DC

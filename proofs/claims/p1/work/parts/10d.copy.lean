/-! ===== System.arraycopy of bytes ===== -/
theorem dfit_b : ∀ w, w < 256 → fits .byte (.int (Int32.ofNat (dI2b w))) = true := by decide +kernel
section DCP
variable {l : Launch} {D : dD} {b : Nat → Nat} {q : dMI} {d pc : Nat} {L : dL} {st : List dV} {h h1 : dH} {r : Option dV} {h' : dH}
theorem ds_acopy {i xs xd xn a1 a2 n1 n2 ct1 ct2 : Nat} (hdg : decode q.2.2.1 pc = .ok (.invokestatic i, 3)) (hm2 : (q.1, i) ∈ dAC) (hd : 1 ≤ d) (hcat : dcat st ≤ 8) (hc1 : hat h a1 = some (2, n1, ct1)) (hc2 : hat h a2 = some (2, n2, ct2)) (s1 : xs % 4294967296 < 2147483648) (s2 : xd % 4294967296 < 2147483648) (s3 : xn % 4294967296 < 2147483648) (g1 : xs % 4294967296 + xn % 4294967296 ≤ n1) (g2 : xd % 4294967296 + xn % 4294967296 ≤ n2) (z1 : h1.1 = h.1) (z2 : h1.2.1 = h.2.1) (hw1 : hwf h1) (eh : ∀ j, hat h1 j = if j = a2 then some (2, n2, dcp ct1 ct2 (xs % 4294967296) (xd % 4294967296) (xn % 4294967296)) else hat h j) (G : dWp l D b q d (pc + 3) L st h1 r h') : dWp l D b q d pc L (.inl xn :: .inl xd :: .inr (.inr (Nat.succ a2)) :: .inl xs :: .inr (.inr (Nat.succ a1)) :: st) h r h' := by
  intro p e R s m args below meth c H locs cells slots mc ms ls C hR hS hl hm e1 e2
  have hts := C.2.2.2.2.1
  have w1 : Cond.methodLink (cR q.1) i arraycopyName ∈ dTs q := List.mem_cons_of_mem _ (dTB_ac hm2)
  have w2 : Cond.native arraycopyName ∈ dTs q := List.mem_cons_of_mem _ (dTB_xc (by simp [dWC9]))
  have w3 : Cond.static arraycopyName ∈ dTs q := List.mem_cons_of_mem _ (dTB_xc (by simp [dWC9]))
  have w4 : Cond.initialized "java/lang/System" ∈ dTs q := List.mem_cons_of_mem _ (dTB_xc (by simp [dWC9]))
  have i1 := dix (i := xs) (n := xs % 4294967296 + 1) (by omega) s1
  have i2 := dix (i := xd) (n := xd % 4294967296 + 1) (by omega) s2
  have i3 := dix (i := xn) (n := xn % 4294967296 + 1) (by omega) s3
  have k1 : ¬ Int32.ofNat xs < 0 := fun z => i1.1 (Or.inl z)
  have k2 : ¬ Int32.ofNat xd < 0 := fun z => i2.1 (Or.inl z)
  have k3 : ¬ Int32.ofNat xn < 0 := fun z => i3.1 (Or.inl z)
  have nn : ∀ z : Int32, ¬ z < 0 → z.toInt = (z.toNatClampNeg : Int) := by
    intro z hz
    have hz0 : (0 : Int) ≤ z.toInt := by
      have := Int32.not_lt.mp hz
      simpa using Int32.le_iff_toInt_le.mp this
    show z.toInt = ((z.toInt.toNat : Nat) : Int)
    omega
  have hA1 := (hR.2.2 a1 _ hc1).arr (by decide)
  have hA2 := (hR.2.2 a2 _ hc2).arr (by decide)
  have hT2 := (C.2.2.2.2.2.2.2.2.1.2.1 2 (by decide)).1
  intro T hT X
  obtain ⟨-, k0, hk0, cm0, hkk0⟩ := hT2 n1 (dEl 2 ct1)
  obtain ⟨-, k9, hk9, cm9, hkk9⟩ := hT2 n2 (dEl 2 ct2)
  obtain ⟨vm', X', step⟩ := X.arraycopy C.1 C.2.2.2.1 (hts _ w1) (hts _ w2) (hts _ w3) (hts _ w4) (src := b a1) (dst := b a2) (cs := arrV (D.2 2) n1 (dEl 2 ct1)) (cd := arrV (D.2 2) n2 (dEl 2 ct2)) (srcPos := Int32.ofNat xs) (destPos := Int32.ofNat xd) (n := Int32.ofNat xn) (by rw [hT]; exact hA1) (by rw [hT]; exact hA2)
    (fun _ h => by cases h) (fun _ h => by cases h) (fun h => by cases h) (fun h => by cases h) hk0 hk9 hkk0 hkk9 (by simp [refKind, dTy]) k1 k2 k3
    (by rw [nn _ k1, nn _ k3, arrV_size, i1.2, i3.2]; omega)
    (by rw [nn _ k2, nn _ k3, arrV_size, i2.2, i3.2]; omega)
    (fun vm₁ _ j hj => by
      rw [i3.2] at hj
      have e9 : (arrV (D.2 2) n1 (dEl 2 ct1)).slots.getD ((Int32.ofNat xs).toNatClampNeg + j) .null = dEl 2 ct1 ((Int32.ofNat xs).toNatClampNeg + j) := by
        rw [Array.getD_eq_getD_getElem?, arrV_read _ _ (by rw [i1.2]; omega)]
        rfl
      refine ⟨?_, ?_⟩
      · rw [e9]
        exact dfit_b _ (wd_lt 8 _ _)
      · rw [e9]
        exact trivial)
    (g := F0 m pc ls (.int (Int32.ofNat xn) :: .int (Int32.ofNat xd) :: .ref (b a2) :: .int (Int32.ofNat xs) :: .ref (b a1) :: st.map (dv b))) rfl (by show ls.size = _; rw [hl.1, C.2.2.1]) (rest := st.map (dv b)) rfl (by rw [C.2.1]; exact hdg) (by have := hm.1; omega) (by
      have h3 := dcat_eq b st
      have h4 := hm.2.1
      show 2 * 0 + ((st.map (dv b)).map fun v => v.category).sum + _ ≤ _
      rw [h3]
      have h5 : nativeFrameWords "java/lang/System" "arraycopy" 5 + 11 ≤ 40 := by decide +kernel
      omega)
  have ec : copied (arrV (D.2 2) n1 (dEl 2 ct1)) (arrV (D.2 2) n2 (dEl 2 ct2)) (Int32.ofNat xs) (Int32.ofNat xd) (Int32.ofNat xn) = arrV (D.2 2) n2 (dEl 2 (dcp ct1 ct2 (xs % 4294967296) (xd % 4294967296) (xn % 4294967296))) := by
    have := va_copied (fun z : Value => z) (D.2 2) (D.2 2) (sp := (Int32.ofNat xs).toNatClampNeg) (dp := (Int32.ofNat xd).toNatClampNeg) (n := (Int32.ofNat xn).toNatClampNeg) (n0 := n1) (n1 := n2) (dEl 2 ct1) (dEl 2 ct2) (by rw [i1.2, i3.2]; exact g1)
    refine Eq.trans this ?_
    congr 1
    funext j
    rw [i1.2, i2.2, i3.2]
    show (if xd % 4294967296 ≤ j ∧ j < xd % 4294967296 + xn % 4294967296 then dEl 2 ct1 (xs % 4294967296 + (j - xd % 4294967296)) else dEl 2 ct2 j) = Value.int (Int32.ofNat (dI2b (wd 8 (dcp ct1 ct2 (xs % 4294967296) (xd % 4294967296) (xn % 4294967296)) j)))
    rw [wd_dcp]
    split <;> rfl
  rw [ec] at X' step
  have hb2 : b 0 ≤ b a2 := by have := hR.at (Nat.le_of_lt (hat_lt hR.2.1 hc2)); omega
  have hlt : b a2 < H.size := (Array.getElem?_eq_some_iff.mp hA2).1
  generalize hcell : arrV (D.2 2) n2 (dEl 2 (dcp ct1 ct2 (xs % 4294967296) (xd % 4294967296) (xn % 4294967296))) = cell at X' step
  have hheap : ((T.setVm vm').setCell (b a2) cell).heap = H.setIfInBounds (b a2) cell := by rw [← hT]; rfl
  have oq : ∀ q : Nat, q ≠ b a2 → (H.setIfInBounds (b a2) cell)[q]? = H[q]? := fun q hq => by simp [Array.getElem?_setIfInBounds, Ne.symm hq]
  obtain ⟨t, t1, t2⟩ := G p e R s m args below meth c (H.setIfInBounds (b a2) cell) _ cells slots mc ms ls C (hR.set hc2 (by simp) oq (Or.inl ⟨show 2 < 4 by decide, by rw [← hcell]; simp [Array.getElem?_setIfInBounds, hlt]⟩) z1 hw1 eh) ⟨hS.1, fun q hq => (oq q (by omega)).trans (hS.2.1 q hq), fun x hx => by
      rcases List.mem_append.mp hx with g | g
      · exact hS.2.2 x g
      · obtain ⟨z, -, hz⟩ := List.mem_map.mp g
        rw [← hz]
        exact hb2⟩ hl hm (by omega) (by omega) _ hheap X'
  exact ⟨t, step t t1, t2⟩
end DCP

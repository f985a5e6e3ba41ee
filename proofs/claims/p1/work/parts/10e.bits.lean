/-! ===== a call of Integer.bitCount ===== -/
section DBT
variable {l : Launch} {D : dD} {b : Nat → Nat} {q : dMI} {d pc : Nat} {L : dL} {st : List dV} {h : dH} {r : Option dV} {h' : dH}
theorem dGB {Ts : List Cond} (hT : ∀ w ∈ dWB0, w ∈ Ts) : GoodIn Ts (Cond.code dBitY dBitC 1 (some .int) :: dWB0) := by
  have hg : dWB0.all goodWord = true := by decide +kernel
  intro w hw
  have h : w ∈ dWB0 := by
    rcases List.mem_cons.mp hw with rfl | h
    · simp [dWB0]
    · exact h
  exact ⟨hT w h, good_of_word (List.all_eq_true.mp hg w h)⟩
theorem ds_bitc {i x : Nat} (hdg : decode q.2.2.1 pc = .ok (.invokestatic i, 3)) (hm2 : (q.1, i) ∈ dBC) (hd : 1 ≤ d) (hc : dcat st ≤ 8) (y1 : h.1 ≤ h'.1) (y2 : h.2.1 ≤ h'.2.1) (G : dWp l D b q d (pc + 3) L (.inl (dBit x) :: st) h r h') : dWp l D b q d pc L (.inl x :: st) h r h' := by
  intro p e R s m args below meth c H locs cells slots mc ms ls C hR hS hl hm e1 e2
  have hts := C.2.2.2.2.1
  have h1 := hm.1
  have h2 := hm.2.1
  have hj : ∀ w ∈ dWB0, w ∈ dTs q := fun w hw => List.mem_cons_of_mem _ (dTB_b0 hm2 hw)
  have cb := callB_of (R := R) (own := cR q.1) (index := i) (y := dBitY) (rm := k2_rm 0 0) 1 hts (dGB hj) rfl rfl rfl (hts _ (hj (.initialized "java/lang/Integer") (by simp [dWB0]))) (hts _ (List.mem_cons_of_mem _ (dTB_bc hm2))) ⟨by decide, by decide, by decide +kernel⟩ ⟨by show 0 + 1 ≤ _; omega, by show 8 + (1 + 11) + 0 ≤ _; omega⟩
  refine dt_after (v := some (.int (Int32.ofNat (dBit x)))) (va_runS (As := [.int (Int32.ofNat x)]) (rest := st.map (dv b)) ⟨C.1, C.2.1, C.2.2.1, C.2.2.2.1, hts⟩ (jt_bit l x) ⟨cb, hts _ (hj (.static dBitY) (by simp [dWB0]))⟩ ⟨fun a U g mk z => ⟨z.1, trivial⟩, fun U hU hW => ⟨rfl, trivial⟩⟩ rfl rfl hl.1 rfl (lv_room (by rw [dcat_eq]; exact hc)) hdg ⟨by have := hm.2.2.1; omega, by have := hm.2.2.2; omega⟩) ?_
  exact G p e R s m args below meth c H locs cells slots mc ms ls C hR hS hl hm e1 e2
end DBT

/-! ===== the machine at the law's start knows all that the words stand on ===== -/
theorem dFb_w {args : Array Value} {s : State} {e : Nat × Nat × Nat} (h : ∀ w ∈ dFb e, w.before args s = true) : (Cond.exactly (.string (cR e.1) e.2.1) "java/lang/String").before args s = true ∧ (Cond.eq (.field (.string (cR e.1) e.2.1) "java/lang/String" "coder" "B") (.int 0)).before args s = true ∧ (Cond.arrayOf (.field (.string (cR e.1) e.2.1) "java/lang/String" "value" "[B") .byte).before args s = true ∧ (Cond.eq (.length (.field (.string (cR e.1) e.2.1) "java/lang/String" "value" "[B")) (.int (Int32.ofNat (dLen.getD e.2.2 0)))).before args s = true ∧ ∀ j, j < dLen.getD e.2.2 0 → (Cond.eq (.elem (.field (.string (cR e.1) e.2.1) "java/lang/String" "value" "[B") (.int (Int32.ofNat j))) (.int ((dByt.getD e.2.2 []).getD j 0))).before args s = true := by
  unfold dFb dFc at h
  refine ⟨h _ List.mem_cons_self, h _ (List.mem_cons_of_mem _ List.mem_cons_self), h _ (List.mem_cons_of_mem _ (List.mem_cons_of_mem _ List.mem_cons_self)), h _ (List.mem_cons_of_mem _ (List.mem_cons_of_mem _ (List.mem_cons_of_mem _ List.mem_cons_self))), fun j hj => ?_⟩
  exact h _ (List.mem_cons_of_mem _ (List.mem_cons_of_mem _ (List.mem_cons_of_mem _ (List.mem_cons_of_mem _ (List.mem_map.mpr ⟨j, List.mem_range.mpr hj, rfl⟩)))))
/-- one text -/
theorem dText {args : Array Value} {s : State} (A : Nat → Prop) (hfl : ∀ w ∈ flatC narrow_1, w.before args s = true) (hA : ∀ a : Nat, a < s.heap.size → ¬ A a) {e : Nat × Nat × Nat} (he : e ∈ dSR) : ∃ q : Nat × Nat, (Term.string (cR e.1) e.2.1).eval args s none [] s = some (.ref q.1) ∧ va_O "java/lang/String" q.1 A s s.heap ∧ va_OF "java/lang/String" "coder" "B" (.int 0) q.1 A s s.heap ∧ va_OF "java/lang/String" "value" "[B" (.ref q.2) q.1 A s s.heap ∧ va_T .byte q.2 (dLen.getD e.2.2 0) (fun j => .int ((dByt.getD e.2.2 []).getD j 0)) A s s.heap := by
  obtain ⟨w1, w2, w3, w4, w5⟩ := dFb_w (fun w hw => hfl w (dFb_flat e he w hw))
  obtain ⟨K, V, hS, hev⟩ := vk_Sof (args := args) (s := s) (N := 1) (tm := fun _ => .string (cR e.1) e.2.1) (len := [dLen.getD e.2.2 0]) (byt := [dByt.getD e.2.2 []]) (A := A)
    (fun i hi => by obtain rfl : i = 0 := by omega
                    exact dLen_lt _)
    (fun _ _ => w1) (fun _ _ => w2) (fun _ _ => w3)
    (fun i hi => by obtain rfl : i = 0 := by omega
                    exact w4)
    (fun i hi => by obtain rfl : i = 0 := by omega
                    exact w5)
    (fun i j hi hj hn => absurd (show i = j by omega) hn) hA
  exact ⟨(K 0, V 0), hev 0 (by decide), hS.1 0 (by decide)⟩
theorem dStart {args : Array Value} {s : State} (hts : ∀ w ∈ lw_tb2, w.before args s = true) (hgv : (Jvm.Cond.and given_1 narrow_1).before args s = true)  (bq : Nat) : ∃ (D : dD) (b : Nat → Nat), b 0 = s.heap.size ∧ dLn b ∧ b 1125899906842624 = bq ∧ dKK D b s s.heap := by
  have hB : ∀ w ∈ dTB, w.before args s = true := fun w hw => hts w (dTB_tbl w hw)
  have hfl : ∀ w ∈ flatC narrow_1, w.before args s = true := fun w hw => flat_of_before _ hgv w (List.mem_append_right (flatC given_1) hw)
  have hcl : ∀ ci, ∃ q : ClassId × (Nat → Nat), ci < 13 → u_Kn s (cR ci) (cT ci) (cN ci) q.1 q.2 := by
    intro ci
    by_cases h : ci < 13
    · obtain ⟨cC, iS, hk⟩ := u_known (C := cR ci) (T := cT ci) (N := cN ci) (n := cN ci) hB (fun w hw => dTB_u h hw) (hB _ (dTB_n h (List.mem_cons_of_mem _ List.mem_cons_self)))
      exact ⟨(cC, iS), fun _ => hk⟩
    · exact ⟨(0, fun _ => 0), fun z => absurd z h⟩
  obtain ⟨F, hF⟩ := Classical.axiomOfChoice hcl
  have har : ∀ kd, ∃ cA : ClassId, kd < 4 → ArrOfT s cA (dTy kd) ∧ s.vm.findClass ("[" ++ (dTy kd).toString) = some cA := by
    intro kd
    by_cases h : kd < 4
    · have hw : (Cond.arrayClass (dTy kd)).before args s = true := hB _ (by
        rcases (show kd = 0 ∨ kd = 1 ∨ kd = 2 ∨ kd = 3 by omega) with rfl | rfl | rfl | rfl <;> exact List.mem_append.mpr (Or.inl (by simp [dTy])))
      obtain ⟨cA, kA, comp, h1, h2, h3⟩ := Cond.arrayClass_spec hw
      exact ⟨cA, fun _ => ⟨fun n z => ⟨fun k h => (by cases h), kA, h2, comp, h3⟩, h1⟩⟩
    · exact ⟨0, fun z => absurd z h⟩
  obtain ⟨G, hG⟩ := Classical.axiomOfChoice har
  have htx : ∀ z, ∃ q : Nat × Nat, z < dStr.length → (∀ e ∈ dSR, e.2.2 = z → (Term.string (cR e.1) e.2.1).eval args s none [] s = some (.ref q.1)) ∧ va_O "java/lang/String" q.1 (fun q => s.heap.size ≤ q) s s.heap ∧ va_OF "java/lang/String" "coder" "B" (.int 0) q.1 (fun q => s.heap.size ≤ q) s s.heap ∧ va_OF "java/lang/String" "value" "[B" (.ref q.2) q.1 (fun q => s.heap.size ≤ q) s s.heap ∧ va_T .byte q.2 (dLen.getD z 0) (fun j => .int ((dByt.getD z []).getD j 0)) (fun q => s.heap.size ≤ q) s s.heap := by
    intro z
    by_cases hz : z < dStr.length
    · obtain ⟨e, he, rfl⟩ := dSR_z z hz
      obtain ⟨q, h1, h2⟩ := dText (fun q => s.heap.size ≤ q) hfl (fun a ha => by omega) he
      refine ⟨q, fun _ => ⟨fun e2 he2 hz2 => ?_, h2⟩⟩
      have h3 := dSR_one e2 he2
      rw [hz2, dSR_one e he] at h3
      cases h3
      exact h1
    · exact ⟨(0, 0), fun h => absurd h hz⟩
  obtain ⟨T, hT⟩ := Classical.axiomOfChoice htx
  let b : Nat → Nat := fun k => if k < 1099511627776 then s.heap.size + k else if k < dT1 then (T (k - dT0)).1 else if k < 1125899906842624 then (T (k - dT1)).2 else bq
  have b0 : b 0 = s.heap.size := rfl
  have bK : ∀ z, z < 1048576 → b (dT0 + z) = (T z).1 := by
    intro z hz
    show (if dT0 + z < 1099511627776 then s.heap.size + (dT0 + z) else if dT0 + z < dT1 then (T (dT0 + z - dT0)).1 else if dT0 + z < 1125899906842624 then (T (dT0 + z - dT1)).2 else bq) = _
    rw [if_neg (by unfold dT0; omega), if_pos (by unfold dT0 dT1; omega), Nat.add_sub_cancel_left]
  have bV : ∀ z, z < 1048576 → b (dT1 + z) = (T z).2 := by
    intro z hz
    show (if dT1 + z < 1099511627776 then s.heap.size + (dT1 + z) else if dT1 + z < dT1 then (T (dT1 + z - dT0)).1 else if dT1 + z < 1125899906842624 then (T (dT1 + z - dT1)).2 else bq) = _
    rw [if_neg (by unfold dT1; omega), if_neg (by omega), if_pos (by unfold dT1; omega), Nat.add_sub_cancel_left]
  have hn : dStr.length ≤ 1048576 := by decide +kernel
  refine ⟨((fun ci => (F ci).1, fun ci => (F ci).2), fun kd => if kd < 4 then G kd else 0), b, b0, fun k hk => ?_, ?_, ?_⟩
  · show (if k < 1099511627776 then s.heap.size + k else if k < dT1 then (T (k - dT0)).1 else if k < 1125899906842624 then (T (k - dT1)).2 else bq) = _
    rw [if_pos hk]
    rfl
  · show (if (1125899906842624 : Nat) < 1099511627776 then s.heap.size + 1125899906842624 else if (1125899906842624 : Nat) < dT1 then (T (1125899906842624 - dT0)).1 else if (1125899906842624 : Nat) < 1125899906842624 then (T (1125899906842624 - dT1)).2 else bq) = bq
    rw [if_neg (by decide), if_neg (by unfold dT1; decide), if_neg (by decide)]
  have hA : ∀ a : Nat, a < s.heap.size → ¬ b 0 ≤ a := fun a ha => by rw [b0]; omega
  unfold dKK va_K dKT2 dTxt dVS dKE
  refine ⟨⟨fun c q hq => ?_, fun k q hq => by simp at hq⟩, fun kd hk => ?_, fun e he => ?_, fun e he => ?_, ⟨?_, ?_, fun z hz => ?_, trivial⟩, ?_, fun w hw => ?_, ?_, ?_⟩
  · have hc : c < 13 := (List.getElem?_eq_some_iff.mp hq).1
    rw [dCl_at c hc] at hq
    cases hq
    exact hF c hc
  · show ArrOfT s (if kd < 4 then G kd else 0) _ ∧ _ = some (if kd < 4 then G kd else 0)
    rw [if_pos hk]
    exact hG kd hk
  · exact va_Nw.of rfl (hts _ (dNT_tbl e he))
  · have hz : e.2.2 < dStr.length := by
      have h1 : e.2.2 < dSR.length := (List.getElem?_eq_some_iff.mp (dSR_one e he)).1
      exact Nat.lt_of_lt_of_le h1 (by decide +kernel)
    rw [bK _ (by omega)]
    exact vk_R.of (hts _ (dSR_tbl e he)) ((hT _ hz).1 e he rfl)
  · exact va_Zof (hts _ dZl_0) (hts _ dZi_0) (va_eqt (hfl (.eq (.static "java/lang/String" "COMPACT_STRINGS" "Z") (.int 1)) (List.mem_of_getElem? (i := 2) (by decide +kernel)))) hA
  · exact va_Zqof (hts _ dZl_1) (hts _ dZi_1) (hfl _ (List.mem_of_getElem? (i := 3) (by decide +kernel))) hA
  · have h9 := (hT z hz).2
    rw [← bK z (by omega), ← bV z (by omega)] at h9
    exact h9
  · trivial
  · rw [dXB_nil] at hw
    exact absurd hw List.not_mem_nil
  · trivial
  · trivial

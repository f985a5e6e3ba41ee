/-! ===== 22.gramz: piece 2 ===== -/
noncomputable def krt2 : List (Nat × Nat × dCode) := [(436, 29, dorc 39 [(1, .inl 0), (0, .inr (.inr 127))] kh27 (none) kh27 (dnone))]
-- X13_forgetKnown from 2: 0 instructions with what it calls
set_option maxRecDepth 1000000 in
set_option maxHeartbeats 4000000 in
theorem krk2 : dok (drun (dPo krt2) 1000000 39 436 2 [(1, .inl 34340), (0, .inr (.inr 127))] [] kh27) (none) kh27 = true := by decide +kernel
theorem krz2 : drun (dPo krt2) (1000000 + 34340) 39 436 2 [(1, .inl 0), (0, .inr (.inr 127))] [] kh27 = some (none, kh27) := by
  have ha : hat kh27 204 = some (2, 34340, 0) := by decide +kernel
  have ho : hat kh27 126 = some kc195 := by decide +kernel
  rw [zloop (P := dPo krt2) (o := 126) (ar := 204) (N := 34340) (X := 13747) (EX := 22) (cst := o_ldc) (zer := o_int) (sto := o_bastore) (zv := .inl 0) (z := djmp 436 22) (by rfl) (fun _ _ _ _ _ => s_ldc rfl) (fun _ _ _ _ _ => s_int) (fun k hk nxt rec L st => z_b ha (by omega) (by omega) nxt rec L st) ho (by decide +kernel) (by decide +kernel) (by decide) 34340 0 (by decide)]
  exact dok_eq krk2
theorem krg2 (l : Launch) (hfl : l.stackTraces = false) (D : dD) (b : Nat → Nat) : hwf kh27 → dG l D b 39 436 2 [(1, .inl 0), (0, .inr (.inr 127))] [] kh27 (none) kh27 := fun hw => dG_eq hfl (dPo_ok (tab := krt2) (by
  intro e he
  unfold krt2 at he
  simp only [List.mem_cons, List.not_mem_nil, or_false] at he
  cases he
  · exact dSum_orc (dSum_none) (krg1 l hfl D b))) krz2 hw

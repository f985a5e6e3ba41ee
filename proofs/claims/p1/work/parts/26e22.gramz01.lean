/-! ===== 22.gramz: piece 1 ===== -/
noncomputable def krt1 : List (Nat × Nat × dCode) := []
-- X13_forgetKnown from 29: 0 instructions with what it calls
set_option maxRecDepth 1000000 in
set_option maxHeartbeats 4000000 in
theorem krk1 : dok (drun (dPo krt1) 1000000 39 436 29 [(1, .inl 262144), (0, .inr (.inr 127))] [] kh27) (none) kh27 = true := by decide +kernel
theorem krz1 : drun (dPo krt1) (1000000 + 262144) 39 436 29 [(1, .inl 0), (0, .inr (.inr 127))] [] kh27 = some (none, kh27) := by
  have ha : hat kh27 205 = some (1, 262144, 0) := by decide +kernel
  have ho : hat kh27 126 = some kc195 := by decide +kernel
  rw [zloop (P := dPo krt1) (o := 126) (ar := 205) (N := 262144) (X := 13751) (EX := 49) (cst := o_ldc) (zer := o_long) (sto := o_lastore) (zv := .inr (.inl 0)) (z := djmp 436 49) (by rfl) (fun _ _ _ _ _ => s_ldc rfl) (fun _ _ _ _ _ => s_long) (fun k hk nxt rec L st => z_l ha (by omega) (by omega) nxt rec L st) ho (by decide +kernel) (by decide +kernel) (by decide) 262144 0 (by decide)]
  exact dok_eq krk1
theorem krg1 (l : Launch) (hfl : l.stackTraces = false) (D : dD) (b : Nat → Nat) : hwf kh27 → dG l D b 39 436 29 [(1, .inl 0), (0, .inr (.inr 127))] [] kh27 (none) kh27 := fun hw => dG_eq hfl (dPo_ok (tab := krt1) (by
  intro e he
  unfold krt1 at he
  cases he)) krz1 hw

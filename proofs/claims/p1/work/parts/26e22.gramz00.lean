/-! ===== 22.gramz: piece 0 ===== -/
noncomputable def krt0 : List (Nat × Nat × dCode) := []
-- X13_measure from 24: 0 instructions with what it calls
set_option maxRecDepth 1000000 in
set_option maxHeartbeats 4000000 in
theorem krk0 : dok (drun (dPo krt0) 1000000 38 425 24 [(1, .inl 132000), (0, .inr (.inr 127))] [] kh25) (none) kh26 = true := by decide +kernel
theorem krz0 : drun (dPo krt0) (1000000 + 132000) 38 425 24 [(1, .inl 0), (0, .inr (.inr 127))] [] kh25 = some (none, kh26) := by
  have ha : hat kh25 189 = some (0, 132000, 0) := by decide +kernel
  have ho : hat kh25 126 = some kc190 := by decide +kernel
  rw [zloop (P := dPo krt0) (o := 126) (ar := 189) (N := 132000) (X := 13647) (EX := 43) (cst := o_ldc) (zer := o_int) (sto := o_iastore) (zv := .inl 0) (z := djmp 425 43) (by rfl) (fun _ _ _ _ _ => s_ldc rfl) (fun _ _ _ _ _ => s_int) (fun k hk nxt rec L st => z_i ha (by omega) (by omega) nxt rec L st) ho (by decide +kernel) (by decide +kernel) (by decide) 132000 0 (by decide)]
  exact dok_eq krk0
theorem krg0 (l : Launch) (hfl : l.stackTraces = false) (D : dD) (b : Nat → Nat) : hwf kh25 → dG l D b 38 425 24 [(1, .inl 0), (0, .inr (.inr 127))] [] kh25 (none) kh26 := fun hw => dG_eq hfl (dPo_ok (tab := krt0) (by
  intro e he
  unfold krt0 at he
  cases he)) krz0 hw

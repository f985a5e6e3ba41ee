/-! ===== Integer.bitCount ===== -/
def dBitY : MethodName := ⟨"java/lang/Integer", "bitCount", "(I)I"⟩
def dBitC : ByteArray := ⟨#[0x1a, 0x1a, 0x04, 0x7c, 0x13, 0x01, 0x09, 0x7e, 0x64, 0x3b, 0x1a, 0x13, 0x01, 0x0a, 0x7e, 0x1a, 0x05, 0x7c, 0x13, 0x01, 0x0a, 0x7e, 0x60, 0x3b, 0x1a, 0x1a, 0x07, 0x7c, 0x60, 0x13, 0x01, 0x0b, 0x7e, 0x3b, 0x1a, 0x1a, 0x10, 0x08, 0x7c, 0x60, 0x3b, 0x1a, 0x1a, 0x10, 0x10, 0x7c, 0x60, 0x3b, 0x1a, 0x10, 0x3f, 0x7e, 0xac]⟩
def dUshr (a b : Nat) : Nat := Nat.shiftRight (Nat.mod a 4294967296) (Nat.mod b 32)
theorem di_ushr (a b : Nat) : ((Int32.ofNat a).toUInt32 >>> ((Int32.ofNat b).toUInt32 &&& Int32.toUInt32 31)).toInt32 = Int32.ofNat (dUshr a b) := by
  have e : (Int32.ofNat a).toUInt32 >>> ((Int32.ofNat b).toUInt32 &&& Int32.toUInt32 31) = UInt32.ofNat (dUshr a b) := UInt32.toNat_inj.mp (by
    have hb : ((Int32.ofNat b).toUInt32 &&& Int32.toUInt32 31).toNat = b % 32 := by
      rw [UInt32.toNat_and, show (Int32.toUInt32 31).toNat = 2 ^ 5 - 1 from rfl, Nat.and_two_pow_sub_one_eq_mod]
      show (BitVec.ofNat 32 b).toNat % 2 ^ 5 = _
      rw [BitVec.toNat_ofNat]
      omega
    rw [UInt32.toNat_shiftRight, hb]
    have hd : dUshr a b = (a % 4294967296) >>> (b % 32) := rfl
    have h1 : (Int32.ofNat a).toUInt32.toNat = a % 4294967296 := by
      show (BitVec.ofNat 32 a).toNat = _
      rw [BitVec.toNat_ofNat]
    rw [h1, hd, UInt32.toNat_ofNat', Nat.shiftRight_eq_div_pow, Nat.shiftRight_eq_div_pow, show b % 32 % 32 = b % 32 by omega]
    have h2 : a % 4294967296 / 2 ^ (b % 32) ≤ a % 4294967296 := Nat.div_le_self _ _
    omega)
  rw [e]
  rfl
def dBit1 (a : Nat) : Nat := dSub a (dAnd (dUshr a 1) 1431655765)
def dBit2 (a : Nat) : Nat := dAdd (dAnd a 858993459) (dAnd (dUshr a 2) 858993459)
def dBit3 (a : Nat) : Nat := dAnd (dAdd a (dUshr a 4)) 252645135
def dBit4 (a : Nat) : Nat := dAdd a (dUshr a 8)
def dBit5 (a : Nat) : Nat := dAdd a (dUshr a 16)
def dBit (a : Nat) : Nat := dAnd (dBit5 (dBit4 (dBit3 (dBit2 (dBit1 a))))) 63
def dWB0 : List Cond := [.static dBitY, .initialized "java/lang/Integer", .code dBitY dBitC 1 (some .int), .constant "java/lang/Integer" 265 (Int32.ofNat 1431655765), .constant "java/lang/Integer" 266 (Int32.ofNat 858993459), .constant "java/lang/Integer" 267 (Int32.ofNat 252645135)]
theorem jt_bit (l : Launch) (a : Nat) : Met l dBitY (Cond.code dBitY dBitC 1 (some .int) :: dWB0) (k2_rm 0 0) (va_Pc [.int (Int32.ofNat a)] (fun _ => True)) (dQp (some (.int (Int32.ofNat (dBit a))))) 0 0 (fun _ => False) := by
  refine Met.ofW (cc := dBitC) (maxL := 1) (ret := some .int) (by decide) rfl ?_
  intro p e s m args below meth c s₁ B hml hv
  obtain ⟨rfl, hT⟩ := hv
  have hx := B.exec
  have hb := B.bytes
  have hr := B.returns
  have hts := atoms_spec (ws := Cond.code dBitY dBitC 1 (some .int) :: dWB0) B.pre
  have hown : s.vm.findClass "java/lang/Integer" = some m.cls := findClass_of_methodNamed B.named
  have hlocks := B.notSynchronized
  have hl := lv_entry ([.int (Int32.ofNat a)]) (n := 1) (Nat.le_of_ble_eq_true rfl)
  rw [lg_entry_eq]
  generalize (lg_sl ([.int (Int32.ofNat a)]) ++ List.replicate (1 - (lg_sl ([.int (Int32.ofNat a)])).length) Slot.unset).toArray = ls at hl ⊢
  have hl : lv_has ls 1 [(0, .int (Int32.ofNat a))] := hl
  refine lv_iload_n (k := 0) hx hb (by decide +kernel) rfl (lv_at hl 0 rfl) ?_
  refine lv_iload_n (k := 0) hx hb (by decide +kernel) rfl (lv_at hl 0 rfl) ?_
  refine lv_iconst (n := 1) (v := Int32.ofNat 1) hx hb (by decide +kernel) (by decide) ?_
  refine lv_iushr hx hb (by decide +kernel) (di_ushr _ _) ?_
  refine lv_ldcw (index := 265) (v := Int32.ofNat 1431655765) hx hb hown (hts _ (List.mem_cons_of_mem _ (by simp [dWB0]))) (by decide +kernel) ?_
  refine lv_iand hx hb (by decide +kernel) ?_
  rw [di_and]
  refine lv_isub hx hb (by decide +kernel) ?_
  rw [di_sub]
  refine lv_istore_n (k := 0) hx hb (by decide +kernel) rfl hl (by decide) rfl fun ls1 hl1 => ?_
  have hl1 : lv_has ls1 1 [(0, .int (Int32.ofNat (dBit1 a)))] := hl1
  clear hl
  refine lv_iload_n (k := 0) hx hb (by decide +kernel) rfl (lv_at hl1 0 rfl) ?_
  refine lv_ldcw (index := 266) (v := Int32.ofNat 858993459) hx hb hown (hts _ (List.mem_cons_of_mem _ (by simp [dWB0]))) (by decide +kernel) ?_
  refine lv_iand hx hb (by decide +kernel) ?_
  rw [di_and]
  refine lv_iload_n (k := 0) hx hb (by decide +kernel) rfl (lv_at hl1 0 rfl) ?_
  refine lv_iconst (n := 2) (v := Int32.ofNat 2) hx hb (by decide +kernel) (by decide) ?_
  refine lv_iushr hx hb (by decide +kernel) (di_ushr _ _) ?_
  refine lv_ldcw (index := 266) (v := Int32.ofNat 858993459) hx hb hown (hts _ (List.mem_cons_of_mem _ (by simp [dWB0]))) (by decide +kernel) ?_
  refine lv_iand hx hb (by decide +kernel) ?_
  rw [di_and]
  refine lv_iadd hx hb (by decide +kernel) ?_
  rw [di_add]
  refine lv_istore_n (k := 0) hx hb (by decide +kernel) rfl hl1 (by decide) rfl fun ls2 hl2 => ?_
  have hl2 : lv_has ls2 1 [(0, .int (Int32.ofNat (dBit2 (dBit1 a))))] := hl2
  clear hl1
  refine lv_iload_n (k := 0) hx hb (by decide +kernel) rfl (lv_at hl2 0 rfl) ?_
  refine lv_iload_n (k := 0) hx hb (by decide +kernel) rfl (lv_at hl2 0 rfl) ?_
  refine lv_iconst (n := 4) (v := Int32.ofNat 4) hx hb (by decide +kernel) (by decide) ?_
  refine lv_iushr hx hb (by decide +kernel) (di_ushr _ _) ?_
  refine lv_iadd hx hb (by decide +kernel) ?_
  rw [di_add]
  refine lv_ldcw (index := 267) (v := Int32.ofNat 252645135) hx hb hown (hts _ (List.mem_cons_of_mem _ (by simp [dWB0]))) (by decide +kernel) ?_
  refine lv_iand hx hb (by decide +kernel) ?_
  rw [di_and]
  refine lv_istore_n (k := 0) hx hb (by decide +kernel) rfl hl2 (by decide) rfl fun ls3 hl3 => ?_
  have hl3 : lv_has ls3 1 [(0, .int (Int32.ofNat (dBit3 (dBit2 (dBit1 a)))))] := hl3
  clear hl2
  refine lv_iload_n (k := 0) hx hb (by decide +kernel) rfl (lv_at hl3 0 rfl) ?_
  refine lv_iload_n (k := 0) hx hb (by decide +kernel) rfl (lv_at hl3 0 rfl) ?_
  refine lv_bipush (n := 8) (v := Int32.ofNat 8) hx hb (by decide +kernel) (by decide) ?_
  refine lv_iushr hx hb (by decide +kernel) (di_ushr _ _) ?_
  refine lv_iadd hx hb (by decide +kernel) ?_
  rw [di_add]
  refine lv_istore_n (k := 0) hx hb (by decide +kernel) rfl hl3 (by decide) rfl fun ls4 hl4 => ?_
  have hl4 : lv_has ls4 1 [(0, .int (Int32.ofNat (dBit4 (dBit3 (dBit2 (dBit1 a))))))] := hl4
  clear hl3
  refine lv_iload_n (k := 0) hx hb (by decide +kernel) rfl (lv_at hl4 0 rfl) ?_
  refine lv_iload_n (k := 0) hx hb (by decide +kernel) rfl (lv_at hl4 0 rfl) ?_
  refine lv_bipush (n := 16) (v := Int32.ofNat 16) hx hb (by decide +kernel) (by decide) ?_
  refine lv_iushr hx hb (by decide +kernel) (di_ushr _ _) ?_
  refine lv_iadd hx hb (by decide +kernel) ?_
  rw [di_add]
  refine lv_istore_n (k := 0) hx hb (by decide +kernel) rfl hl4 (by decide) rfl fun ls5 hl5 => ?_
  have hl5 : lv_has ls5 1 [(0, .int (Int32.ofNat (dBit5 (dBit4 (dBit3 (dBit2 (dBit1 a)))))))] := hl5
  clear hl4
  refine lv_iload_n (k := 0) hx hb (by decide +kernel) rfl (lv_at hl5 0 rfl) ?_
  refine lv_bipush (n := 63) (v := Int32.ofNat 63) hx hb (by decide +kernel) (by decide) ?_
  refine lv_iand hx hb (by decide +kernel) ?_
  rw [di_and]
  exact W.iret hx hb hr (fun t ht hW => ⟨rfl, ht⟩) (fun _ h => by cases h) (by decide +kernel) hlocks

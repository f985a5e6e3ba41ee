/-! ===== Integer.bitCount ===== -/
def dBitY : MethodName := ⟨"java/lang/Integer", "bitCount", "(I)I"⟩
def dBitC : ByteArray := ⟨#[0x1a, 0x1a, 0x04, 0x7c, 0x13, 0x01, 0x09, 0x7e, 0x64, 0x3b, 0x1a, 0x13, 0x01, 0x0a, 0x7e, 0x1a, 0x05, 0x7c, 0x13, 0x01, 0x0a, 0x7e, 0x60, 0x3b, 0x1a, 0x1a, 0x07, 0x7c, 0x60, 0x13, 0x01, 0x0b, 0x7e, 0x3b, 0x1a, 0x1a, 0x10, 0x08, 0x7c, 0x60, 0x3b, 0x1a, 0x1a, 0x10, 0x10, 0x7c, 0x60, 0x3b, 0x1a, 0x10, 0x3f, 0x7e, 0xac]⟩
def dUshr (a b : Nat) : Nat := Nat.shiftRight (Nat.mod a 4294967296) (Nat.mod b 32)
theorem di_ushr (a b : Nat) : ((Int32.ofNat a).toUInt32 >>> ((Int32.ofNat b).toUInt32 &&& Int32.toUInt32 31)).toInt32 = Int32.ofNat (dUshr a b) := by
  have e : (Int32.ofNat a).toUInt32 >>> ((Int32.ofNat b).toUInt32 &&& Int32.toUInt32 31) = UInt32.ofNat (dUshr a b) := UInt32.toNat_inj.mp (by
    have hb : ((Int32.ofNat b).toUInt32 &&& Int32.toUInt32 31).toNat = b % 32 := by
      rw [UInt32.toNat_and, show (Int32.toUInt32 31).toNat = 2 ^ 5 - 1 from rfl, Nat.and_two_pow_sub_one_eq_mod]
      show (BitVec.ofNat 32 b).toNat % 2 ^ 5 = _
      rw [BitVec.toNat_ofNat]
      omega
    rw [UInt32.toNat_shiftRight, hb]
    have hd : dUshr a b = (a % 4294967296) >>> (b % 32) := rfl
    have h1 : (Int32.ofNat a).toUInt32.toNat = a % 4294967296 := by
      show (BitVec.ofNat 32 a).toNat = _
      rw [BitVec.toNat_ofNat]
    rw [h1, hd, UInt32.toNat_ofNat', Nat.shiftRight_eq_div_pow, Nat.shiftRight_eq_div_pow, show b % 32 % 32 = b % 32 by omega]
    have h2 : a % 4294967296 / 2 ^ (b % 32) ≤ a % 4294967296 := Nat.div_le_self _ _
    omega)
  rw [e]
  rfl
def dBit1 (a : Nat) : Nat := dSub a (dAnd (dUshr a 1) 1431655765)
def dBit2 (a : Nat) : Nat := dAdd (dAnd a 858993459) (dAnd (dUshr a 2) 858993459)
def dBit3 (a : Nat) : Nat := dAnd (dAdd a (dUshr a 4)) 252645135
def dBit4 (a : Nat) : Nat := dAdd a (dUshr a 8)
def dBit5 (a : Nat) : Nat := dAdd a (dUshr a 16)
def dBit (a : Nat) : Nat := dAnd (dBit5 (dBit4 (dBit3 (dBit2 (dBit1 a))))) 63
def dWB0 : List Cond := [.static dBitY, .initialized "java/lang/Integer", .code dBitY dBitC 1 (some .int), .constant "java/lang/Integer" 265 (Int32.ofNat 1431655765), .constant "java/lang/Integer" 266 (Int32.ofNat 858993459), .constant "java/lang/Integer" 267 (Int32.ofNat 252645135)]

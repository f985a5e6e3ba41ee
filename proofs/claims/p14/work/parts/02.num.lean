/-! ===== words: ints and longs as natural numbers, as a program of words reckons with them ===== -/
theorem di_bm32 (n : Nat) : (n : Int).bmod 4294967296 = if n % 4294967296 < 2147483648 then ((n % 4294967296 : Nat) : Int) else ((n % 4294967296 : Nat) : Int) - 4294967296 := by
  simp only [Int.bmod]
  split <;> split <;> omega
theorem di_bm64 (n : Nat) : (n : Int).bmod 18446744073709551616 = if n % 18446744073709551616 < 9223372036854775808 then ((n % 18446744073709551616 : Nat) : Int) else ((n % 18446744073709551616 : Nat) : Int) - 18446744073709551616 := by
  simp only [Int.bmod]
  split <;> split <;> omega
theorem di_iv (n : Nat) : (Int32.ofNat n).toInt = if n % 4294967296 < 2147483648 then ((n % 4294967296 : Nat) : Int) else ((n % 4294967296 : Nat) : Int) - 4294967296 := by
  rw [Int32.toInt_ofNat']
  exact di_bm32 n
theorem di_jv (n : Nat) : (Int64.ofNat n).toInt = if n % 18446744073709551616 < 9223372036854775808 then ((n % 18446744073709551616 : Nat) : Int) else ((n % 18446744073709551616 : Nat) : Int) - 18446744073709551616 := by
  rw [Int64.toInt_ofNat']
  exact di_bm64 n
theorem di_ieq {a b : Nat} : Int32.ofNat a = Int32.ofNat b ↔ a % 4294967296 = b % 4294967296 := by
  rw [← Int32.toInt_inj, di_iv, di_iv]
  split <;> split <;> omega
theorem di_jeq {a b : Nat} : Int64.ofNat a = Int64.ofNat b ↔ a % 18446744073709551616 = b % 18446744073709551616 := by
  rw [← Int64.toInt_inj, di_jv, di_jv]
  split <;> split <;> omega
theorem di_imod (a : Nat) : Int32.ofNat (a % 4294967296) = Int32.ofNat a := di_ieq.mpr (by omega)
theorem di_jmod (a : Nat) : Int64.ofNat (a % 18446744073709551616) = Int64.ofNat a := di_jeq.mpr (by omega)
-- what a program of words does
def dAdd (a b : Nat) : Nat := Nat.mod (Nat.add a b) 4294967296
def dSub (a b : Nat) : Nat := Nat.mod (Nat.add a (Nat.sub 4294967296 (Nat.mod b 4294967296))) 4294967296
def dMul (a b : Nat) : Nat := Nat.mod (Nat.mul a b) 4294967296
def dNeg (a : Nat) : Nat := Nat.mod (Nat.sub 4294967296 (Nat.mod a 4294967296)) 4294967296
def dAnd (a b : Nat) : Nat := Nat.land (Nat.mod a 4294967296) (Nat.mod b 4294967296)
def dOr (a b : Nat) : Nat := Nat.mod (Nat.lor a b) 4294967296
def dXor (a b : Nat) : Nat := Nat.mod (Nat.xor a b) 4294967296
def dShl (a b : Nat) : Nat := Nat.mod (Nat.shiftLeft a (Nat.mod b 32)) 4294967296
def dLAdd (a b : Nat) : Nat := Nat.mod (Nat.add a b) 18446744073709551616
def dLSub (a b : Nat) : Nat := Nat.mod (Nat.add a (Nat.sub 18446744073709551616 (Nat.mod b 18446744073709551616))) 18446744073709551616
def dLMul (a b : Nat) : Nat := Nat.mod (Nat.mul a b) 18446744073709551616
def dLAnd (a b : Nat) : Nat := Nat.land (Nat.mod a 18446744073709551616) (Nat.mod b 18446744073709551616)
def dLOr (a b : Nat) : Nat := Nat.mod (Nat.lor a b) 18446744073709551616
def dLXor (a b : Nat) : Nat := Nat.mod (Nat.xor a b) 18446744073709551616
def dLShl (a b : Nat) : Nat := Nat.mod (Nat.shiftLeft a (Nat.mod b 64)) 18446744073709551616
def dLUshr (a b : Nat) : Nat := Nat.shiftRight (Nat.mod a 18446744073709551616) (Nat.mod b 64)
def dI2l (a : Nat) : Nat := cond (Nat.blt (Nat.mod a 4294967296) 2147483648) (Nat.mod a 4294967296) (Nat.add (Nat.mod a 4294967296) 18446744069414584320)
def dL2i (a : Nat) : Nat := Nat.mod a 4294967296
def dI2b (a : Nat) : Nat := cond (Nat.blt (Nat.mod a 256) 128) (Nat.mod a 256) (Nat.add (Nat.mod a 256) 4294967040)
def dLt (a b : Nat) : Bool := Nat.blt (Nat.mod (Nat.add a 2147483648) 4294967296) (Nat.mod (Nat.add b 2147483648) 4294967296)
def dEq (a b : Nat) : Bool := Nat.beq (Nat.mod a 4294967296) (Nat.mod b 4294967296)
def dLLt (a b : Nat) : Bool := Nat.blt (Nat.mod (Nat.add a 9223372036854775808) 18446744073709551616) (Nat.mod (Nat.add b 9223372036854775808) 18446744073709551616)
def dCmp (a b : Nat) : Nat := cond (dLLt a b) 4294967295 (cond (dLLt b a) 1 0)
-- .. and that it is what the machine does
theorem di_add (a b : Nat) : Int32.ofNat a + Int32.ofNat b = Int32.ofNat (dAdd a b) := by
  rw [← Int32.ofNat_add]; exact (di_imod _).symm
theorem di_mul (a b : Nat) : Int32.ofNat a * Int32.ofNat b = Int32.ofNat (dMul a b) := by
  rw [← Int32.ofNat_mul]; exact (di_imod _).symm
theorem di_sub (a b : Nat) : Int32.ofNat a - Int32.ofNat b = Int32.ofNat (dSub a b) := by
  have h : dSub a b = (a + (4294967296 - b % 4294967296)) % 4294967296 := rfl
  rw [h, ← Int32.toInt_inj, Int32.toInt_sub, di_iv, di_iv, di_iv]
  simp only [Int.bmod]
  split <;> split <;> split <;> split <;> omega
theorem di_neg (a : Nat) : -(Int32.ofNat a) = Int32.ofNat (dNeg a) := by
  have h : dNeg a = (4294967296 - a % 4294967296) % 4294967296 := rfl
  rw [h, ← Int32.toInt_inj, Int32.toInt_neg, di_iv, di_iv]
  simp only [Int.bmod]
  split <;> split <;> split <;> omega
theorem di_and0 (a b : Nat) : Int32.ofNat a &&& Int32.ofNat b = Int32.ofNat (a &&& b) := Int32.toBitVec_inj.mp (by
  rw [Int32.toBitVec_and]; simp)
theorem di_and (a b : Nat) : Int32.ofNat a &&& Int32.ofNat b = Int32.ofNat (dAnd a b) := by
  rw [← di_imod a, ← di_imod b]; exact di_and0 _ _
theorem di_or (a b : Nat) : Int32.ofNat a ||| Int32.ofNat b = Int32.ofNat (dOr a b) := by
  refine Eq.trans ?_ (di_imod (a ||| b)).symm
  exact Int32.toBitVec_inj.mp (by rw [Int32.toBitVec_or]; simp)
theorem di_xor (a b : Nat) : Int32.ofNat a ^^^ Int32.ofNat b = Int32.ofNat (dXor a b) := by
  refine Eq.trans ?_ (di_imod (a ^^^ b)).symm
  exact Int32.toBitVec_inj.mp (by rw [Int32.toBitVec_xor]; simp)
theorem di_ladd (a b : Nat) : Int64.ofNat a + Int64.ofNat b = Int64.ofNat (dLAdd a b) := by
  rw [← Int64.ofNat_add]; exact (di_jmod _).symm
theorem di_lmul (a b : Nat) : Int64.ofNat a * Int64.ofNat b = Int64.ofNat (dLMul a b) := by
  rw [← Int64.ofNat_mul]; exact (di_jmod _).symm
theorem di_lsub (a b : Nat) : Int64.ofNat a - Int64.ofNat b = Int64.ofNat (dLSub a b) := by
  have h : dLSub a b = (a + (18446744073709551616 - b % 18446744073709551616)) % 18446744073709551616 := rfl
  rw [h, ← Int64.toInt_inj, Int64.toInt_sub, di_jv, di_jv, di_jv]
  simp only [Int.bmod]
  split <;> split <;> split <;> split <;> omega
theorem di_land0 (a b : Nat) : Int64.ofNat a &&& Int64.ofNat b = Int64.ofNat (a &&& b) := Int64.toBitVec_inj.mp (by
  rw [Int64.toBitVec_and]; simp)
theorem di_land (a b : Nat) : Int64.ofNat a &&& Int64.ofNat b = Int64.ofNat (dLAnd a b) := by
  rw [← di_jmod a, ← di_jmod b]; exact di_land0 _ _
theorem di_lor (a b : Nat) : Int64.ofNat a ||| Int64.ofNat b = Int64.ofNat (dLOr a b) := by
  refine Eq.trans ?_ (di_jmod (a ||| b)).symm
  exact Int64.toBitVec_inj.mp (by rw [Int64.toBitVec_or]; simp)
theorem di_lxor (a b : Nat) : Int64.ofNat a ^^^ Int64.ofNat b = Int64.ofNat (dLXor a b) := by
  refine Eq.trans ?_ (di_jmod (a ^^^ b)).symm
  exact Int64.toBitVec_inj.mp (by rw [Int64.toBitVec_xor]; simp)
theorem di_cond {α : Type} (a b : Nat) (x y : α) : cond (Nat.blt a b) x y = if a < b then x else y := by
  by_cases h : a < b
  · rw [if_pos h, show Nat.blt a b = true by rw [Nat.blt_eq]; exact h]; rfl
  · rw [if_neg h, show Nat.blt a b = false by
      cases q : Nat.blt a b
      · rfl
      · rw [Nat.blt_eq] at q; exact absurd q h]; rfl
theorem di_i2l_eq (a : Nat) : dI2l a = if a % 4294967296 < 2147483648 then a % 4294967296 else a % 4294967296 + 18446744069414584320 := di_cond _ _ _ _
theorem di_i2b_eq (a : Nat) : dI2b a = if a % 256 < 128 then a % 256 else a % 256 + 4294967040 := di_cond _ _ _ _
theorem di_i2l (a : Nat) : (Int32.ofNat a).toInt64 = Int64.ofNat (dI2l a) := by
  rw [← Int64.toInt_inj, Int32.toInt_toInt64, di_iv, di_jv, di_i2l_eq]
  split <;> split <;> omega
theorem di_l2i (a : Nat) : (Int64.ofNat a).toInt32 = Int32.ofNat (dL2i a) := by
  have h : dL2i a = a % 4294967296 := rfl
  rw [h, ← Int32.toInt_inj, Int64.toInt_toInt32, di_iv, di_jv]
  simp only [Int.bmod]
  split <;> split <;> split <;> omega
theorem di_i2b (a : Nat) : (Int32.ofNat a).toInt8.toInt32 = Int32.ofNat (dI2b a) := by
  rw [← Int32.toInt_inj, Int8.toInt_toInt32, Int32.toInt_toInt8, di_iv, di_iv, di_i2b_eq]
  simp only [Int.bmod]
  split <;> split <;> split <;> (try split) <;> omega
theorem di_blt {a b : Nat} : Nat.blt a b = true ↔ a < b := by rw [Nat.blt_eq]
theorem di_lt (a b : Nat) : dLt a b = true ↔ Int32.ofNat a < Int32.ofNat b := by
  rw [Int32.lt_iff_toInt_lt, di_iv, di_iv]
  have h : dLt a b = Nat.blt ((a + 2147483648) % 4294967296) ((b + 2147483648) % 4294967296) := rfl
  rw [h, Nat.blt_eq]
  split <;> split <;> omega
theorem di_llt (a b : Nat) : dLLt a b = true ↔ Int64.ofNat a < Int64.ofNat b := by
  rw [Int64.lt_iff_toInt_lt, di_jv, di_jv]
  have h : dLLt a b = Nat.blt ((a + 9223372036854775808) % 18446744073709551616) ((b + 9223372036854775808) % 18446744073709551616) := rfl
  rw [h, Nat.blt_eq]
  split <;> split <;> omega
theorem di_eq (a b : Nat) : dEq a b = true ↔ Int32.ofNat a = Int32.ofNat b := by
  have h : dEq a b = Nat.beq (a % 4294967296) (b % 4294967296) := rfl
  rw [h, Nat.beq_eq, di_ieq]
theorem di_cmp (a b : Nat) : lg_cmp (Int64.ofNat a) (Int64.ofNat b) = Int32.ofNat (dCmp a b) := by
  unfold dCmp
  cases h1 : dLLt a b
  · have q1 : ¬ Int64.ofNat a < Int64.ofNat b := fun q => by rw [(di_llt a b).mpr q] at h1; cases h1
    cases h2 : dLLt b a
    · have q2 : ¬ Int64.ofNat b < Int64.ofNat a := fun q => by rw [(di_llt b a).mpr q] at h2; cases h2
      have q3 : Int64.ofNat a = Int64.ofNat b := by
        rw [Int64.lt_iff_toInt_lt] at q1 q2
        rw [← Int64.toInt_inj]; omega
      simp [lg_cmp, q3]
    · have q2 := (di_llt b a).mp h2
      simp [lg_cmp, q1, q2]
  · have q1 := (di_llt a b).mp h1
    have q2 : ¬ Int64.ofNat b < Int64.ofNat a := fun q => by
      rw [Int64.lt_iff_toInt_lt] at q q1; omega
    have q3 : ¬ Int64.ofNat a = Int64.ofNat b := fun q => by
      rw [Int64.lt_iff_toInt_lt, q] at q1; omega
    simp [lg_cmp, q1, q2, q3]
    try decide
theorem di_sm32 : ∀ k, k < 32 → ((Int32.ofNat k).toBitVec.smod 32).toNat = k := by decide +kernel
theorem di_sm64 : ∀ k, k < 64 → ((Int64.ofNat k).toBitVec.smod 64).toNat = k := by decide +kernel
theorem di_and31 (b : Nat) : Int32.ofNat b &&& 31 = Int32.ofNat (b % 32) := by
  have h : (31 : Int32) = Int32.ofNat 31 := rfl
  rw [h, di_and0, show b &&& 31 = b % 32 from Nat.and_two_pow_sub_one_eq_mod b 5]
theorem di_and63 (b : Nat) : (Int32.ofNat b).toInt64 &&& 63 = Int64.ofNat (b % 64) := by
  have h : (63 : Int64) = Int64.ofNat 63 := rfl
  rw [di_i2l, h, di_land0, show dI2l b &&& 63 = dI2l b % 64 from Nat.and_two_pow_sub_one_eq_mod _ 6]
  congr 1
  rw [di_i2l_eq]
  split <;> omega
theorem di_shl (a b : Nat) : Int32.ofNat a <<< (Int32.ofNat b &&& 31) = Int32.ofNat (dShl a b) := by
  have hb : b % 32 < 32 := Nat.mod_lt _ (by decide)
  rw [di_and31]
  refine Eq.trans ?_ (di_imod (a <<< (b % 32))).symm
  apply Int32.toBitVec_inj.mp
  rw [Int32.toBitVec_shiftLeft]
  apply BitVec.eq_of_toNat_eq
  show (BitVec.shiftLeft _ _).toNat = _
  rw [di_sm32 _ hb]
  show ((BitVec.ofNat 32 a) <<< (b % 32)).toNat = (BitVec.ofNat 32 (a <<< (b % 32))).toNat
  rw [BitVec.toNat_shiftLeft, BitVec.toNat_ofNat, BitVec.toNat_ofNat, Nat.shiftLeft_eq, Nat.shiftLeft_eq, Nat.mod_mul_mod]
theorem di_lshl (a b : Nat) : Int64.ofNat a <<< ((Int32.ofNat b).toInt64 &&& 63) = Int64.ofNat (dLShl a b) := by
  have hb : b % 64 < 64 := Nat.mod_lt _ (by decide)
  rw [di_and63]
  refine Eq.trans ?_ (di_jmod (a <<< (b % 64))).symm
  apply Int64.toBitVec_inj.mp
  rw [Int64.toBitVec_shiftLeft]
  apply BitVec.eq_of_toNat_eq
  show (BitVec.shiftLeft _ _).toNat = _
  rw [di_sm64 _ hb]
  show ((BitVec.ofNat 64 a) <<< (b % 64)).toNat = (BitVec.ofNat 64 (a <<< (b % 64))).toNat
  rw [BitVec.toNat_shiftLeft, BitVec.toNat_ofNat, BitVec.toNat_ofNat, Nat.shiftLeft_eq, Nat.shiftLeft_eq, Nat.mod_mul_mod]
theorem di_um64 (b : Nat) : ((Int32.ofNat b).toInt64.toUInt64 &&& Int64.toUInt64 63).toNat = b % 64 := by
  have h : ((Int32.ofNat b).toInt64 &&& 63).toUInt64 = (Int32.ofNat b).toInt64.toUInt64 &&& Int64.toUInt64 63 := rfl
  rw [← h, di_and63]
  show (BitVec.ofNat 64 (b % 64)).toNat = _
  rw [BitVec.toNat_ofNat]
  omega
theorem di_lushr (a b : Nat) : ((Int64.ofNat a).toUInt64 >>> ((Int32.ofNat b).toInt64.toUInt64 &&& Int64.toUInt64 63)).toInt64 = Int64.ofNat (dLUshr a b) := by
  have e : (Int64.ofNat a).toUInt64 >>> ((Int32.ofNat b).toInt64.toUInt64 &&& Int64.toUInt64 63) = UInt64.ofNat (dLUshr a b) := UInt64.toNat_inj.mp (by
    rw [UInt64.toNat_shiftRight, di_um64]
    have hd : dLUshr a b = (a % 18446744073709551616) >>> (b % 64) := rfl
    have h1 : (Int64.ofNat a).toUInt64.toNat = a % 18446744073709551616 := by
      show (BitVec.ofNat 64 a).toNat = _
      rw [BitVec.toNat_ofNat]
    rw [h1, hd, UInt64.toNat_ofNat', Nat.shiftRight_eq_div_pow, Nat.shiftRight_eq_div_pow, show b % 64 % 64 = b % 64 by omega]
    have h2 : a % 18446744073709551616 / 2 ^ (b % 64) ≤ a % 18446744073709551616 := Nat.div_le_self _ _
    omega)
  rw [e]
  rfl

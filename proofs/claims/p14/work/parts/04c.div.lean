/-! ===== quotients, rests, shifts with sign on words ===== -/
def dDiv (a b : Nat) : Nat := cond (Nat.blt (Nat.mod a 4294967296) 2147483648) (cond (Nat.blt (Nat.mod b 4294967296) 2147483648) (Nat.div (Nat.mod a 4294967296) (Nat.mod b 4294967296)) (dNeg (Nat.div (Nat.mod a 4294967296) (dNeg b)))) (cond (Nat.blt (Nat.mod b 4294967296) 2147483648) (dNeg (Nat.div (dNeg a) (Nat.mod b 4294967296))) (Nat.div (dNeg a) (dNeg b)))
def dRem (a b : Nat) : Nat := dSub a (dMul (dDiv a b) b)
def dLNeg (a : Nat) : Nat := Nat.mod (Nat.sub 18446744073709551616 (Nat.mod a 18446744073709551616)) 18446744073709551616
def dLDiv (a b : Nat) : Nat := cond (Nat.blt (Nat.mod a 18446744073709551616) 9223372036854775808) (cond (Nat.blt (Nat.mod b 18446744073709551616) 9223372036854775808) (Nat.div (Nat.mod a 18446744073709551616) (Nat.mod b 18446744073709551616)) (dLNeg (Nat.div (Nat.mod a 18446744073709551616) (dLNeg b)))) (cond (Nat.blt (Nat.mod b 18446744073709551616) 9223372036854775808) (dLNeg (Nat.div (dLNeg a) (Nat.mod b 18446744073709551616))) (Nat.div (dLNeg a) (dLNeg b)))
def dShr (a b : Nat) : Nat := cond (Nat.blt (Nat.mod a 4294967296) 2147483648) (Nat.shiftRight (Nat.mod a 4294967296) (Nat.mod b 32)) (Nat.sub 4294967295 (Nat.shiftRight (Nat.sub 4294967295 (Nat.mod a 4294967296)) (Nat.mod b 32)))
def dZ (b : Nat) : Bool := Nat.beq (Nat.mod b 4294967296) 0
def dLZ (b : Nat) : Bool := Nat.beq (Nat.mod b 18446744073709551616) 0
theorem di_bvneg (a : Nat) : -(BitVec.ofNat 32 a) = BitVec.ofNat 32 (dNeg a) := by
  apply BitVec.eq_of_toNat_eq
  rw [BitVec.toNat_neg, BitVec.toNat_ofNat, BitVec.toNat_ofNat]
  show (4294967296 - a % 4294967296) % 4294967296 = ((4294967296 - a % 4294967296) % 4294967296) % 4294967296
  omega
theorem di_bvlneg (a : Nat) : -(BitVec.ofNat 64 a) = BitVec.ofNat 64 (dLNeg a) := by
  apply BitVec.eq_of_toNat_eq
  rw [BitVec.toNat_neg, BitVec.toNat_ofNat, BitVec.toNat_ofNat]
  show (18446744073709551616 - a % 18446744073709551616) % 18446744073709551616 = ((18446744073709551616 - a % 18446744073709551616) % 18446744073709551616) % 18446744073709551616
  omega
theorem di_msb (a : Nat) : (BitVec.ofNat 32 a).msb = !(Nat.blt (Nat.mod a 4294967296) 2147483648) := by
  rw [BitVec.msb_eq_decide, BitVec.toNat_ofNat]
  show decide (2147483648 ≤ a % 4294967296) = !(Nat.blt (a % 4294967296) 2147483648)
  by_cases h : a % 4294967296 < 2147483648
  · rw [di_blt.mpr h, decide_eq_false (by omega)]; rfl
  · rw [Bool.eq_false_iff.mpr (fun z => h (di_blt.mp z)), decide_eq_true (by omega)]; rfl
theorem di_lmsb (a : Nat) : (BitVec.ofNat 64 a).msb = !(Nat.blt (Nat.mod a 18446744073709551616) 9223372036854775808) := by
  rw [BitVec.msb_eq_decide, BitVec.toNat_ofNat]
  show decide (9223372036854775808 ≤ a % 18446744073709551616) = !(Nat.blt (a % 18446744073709551616) 9223372036854775808)
  by_cases h : a % 18446744073709551616 < 9223372036854775808
  · rw [di_blt.mpr h, decide_eq_false (by omega)]; rfl
  · rw [Bool.eq_false_iff.mpr (fun z => h (di_blt.mp z)), decide_eq_true (by omega)]; rfl
theorem di_udiv (a b : Nat) : (BitVec.ofNat 32 a).udiv (BitVec.ofNat 32 b) = BitVec.ofNat 32 (Nat.div (Nat.mod a 4294967296) (Nat.mod b 4294967296)) := by
  apply BitVec.eq_of_toNat_eq
  rw [BitVec.udiv_eq, BitVec.toNat_udiv, BitVec.toNat_ofNat, BitVec.toNat_ofNat, BitVec.toNat_ofNat]
  exact (Nat.mod_eq_of_lt (Nat.lt_of_le_of_lt (Nat.div_le_self _ _) (Nat.mod_lt _ (by decide)))).symm
theorem di_ludiv (a b : Nat) : (BitVec.ofNat 64 a).udiv (BitVec.ofNat 64 b) = BitVec.ofNat 64 (Nat.div (Nat.mod a 18446744073709551616) (Nat.mod b 18446744073709551616)) := by
  apply BitVec.eq_of_toNat_eq
  rw [BitVec.udiv_eq, BitVec.toNat_udiv, BitVec.toNat_ofNat, BitVec.toNat_ofNat, BitVec.toNat_ofNat]
  exact (Nat.mod_eq_of_lt (Nat.lt_of_le_of_lt (Nat.div_le_self _ _) (Nat.mod_lt _ (by decide)))).symm
theorem di_negm (a : Nat) : Nat.mod (dNeg a) 4294967296 = dNeg a := Nat.mod_mod _ _
theorem di_lnegm (a : Nat) : Nat.mod (dLNeg a) 18446744073709551616 = dLNeg a := Nat.mod_mod _ _
theorem di_div (a b : Nat) : Int32.ofNat a / Int32.ofNat b = Int32.ofNat (dDiv a b) := Int32.toBitVec_inj.mp (by
  rw [Int32.toBitVec_div]
  show (BitVec.ofNat 32 a).sdiv (BitVec.ofNat 32 b) = BitVec.ofNat 32 (dDiv a b)
  rw [BitVec.sdiv_eq, di_msb, di_msb]
  unfold dDiv
  cases Nat.blt (Nat.mod a 4294967296) 2147483648 <;> cases Nat.blt (Nat.mod b 4294967296) 2147483648 <;> simp only [Bool.not_true, Bool.not_false, cond_true, cond_false, di_bvneg, di_udiv, di_negm])
theorem di_ldiv (a b : Nat) : Int64.ofNat a / Int64.ofNat b = Int64.ofNat (dLDiv a b) := Int64.toBitVec_inj.mp (by
  rw [Int64.toBitVec_div]
  show (BitVec.ofNat 64 a).sdiv (BitVec.ofNat 64 b) = BitVec.ofNat 64 (dLDiv a b)
  rw [BitVec.sdiv_eq, di_lmsb, di_lmsb]
  unfold dLDiv
  cases Nat.blt (Nat.mod a 18446744073709551616) 9223372036854775808 <;> cases Nat.blt (Nat.mod b 18446744073709551616) 9223372036854775808 <;> simp only [Bool.not_true, Bool.not_false, cond_true, cond_false, di_bvlneg, di_ludiv, di_lnegm])
theorem di_rem (a b : Nat) : Int32.ofNat a - Int32.ofNat a / Int32.ofNat b * Int32.ofNat b = Int32.ofNat (dRem a b) := by
  rw [di_div, di_mul, di_sub]; rfl
theorem di_z {b : Nat} (h : dZ b = false) : ¬ Int32.ofNat b = 0 := fun z => by
  have h2 : Int32.ofNat b = Int32.ofNat 0 := z
  rw [di_ieq] at h2
  have h3 : Nat.beq (Nat.mod b 4294967296) 0 = true := Nat.beq_eq ▸ h2
  rw [show Nat.beq (Nat.mod b 4294967296) 0 = dZ b from rfl, h] at h3
  cases h3
theorem di_lz {b : Nat} (h : dLZ b = false) : ¬ Int64.ofNat b = 0 := fun z => by
  have h2 : Int64.ofNat b = Int64.ofNat 0 := z
  rw [di_jeq] at h2
  have h3 : Nat.beq (Nat.mod b 18446744073709551616) 0 = true := Nat.beq_eq ▸ h2
  rw [show Nat.beq (Nat.mod b 18446744073709551616) 0 = dLZ b from rfl, h] at h3
  cases h3
theorem di_shr (a b : Nat) : Int32.ofNat a >>> (Int32.ofNat b &&& 31) = Int32.ofNat (dShr a b) := by
  rw [di_and31]
  apply Int32.toBitVec_inj.mp
  rw [Int32.toBitVec_shiftRight]
  have e : ((Int32.ofNat (b % 32)).toBitVec.smod 32).toNat = b % 32 := di_sm32 _ (Nat.mod_lt _ (by decide))
  show (Int32.ofNat a).toBitVec.sshiftRight ((Int32.ofNat (b % 32)).toBitVec.smod 32).toNat = _
  rw [e]
  show (BitVec.ofNat 32 a).sshiftRight (b % 32) = BitVec.ofNat 32 (dShr a b)
  apply BitVec.eq_of_toNat_eq
  have hm := di_msb a
  unfold dShr
  cases h : Nat.blt (Nat.mod a 4294967296) 2147483648
  · rw [h] at hm
    rw [BitVec.toNat_sshiftRight_of_msb_true hm, BitVec.toNat_ofNat, BitVec.toNat_ofNat]
    show 2 ^ 32 - 1 - ((2 ^ 32 - 1 - a % 2 ^ 32) >>> (b % 32)) = (4294967295 - ((4294967295 - a % 4294967296) >>> (b % 32))) % 2 ^ 32
    refine (Nat.mod_eq_of_lt ?_).symm
    exact Nat.lt_of_le_of_lt (Nat.sub_le _ _) (by decide)
  · rw [h] at hm
    rw [BitVec.toNat_sshiftRight_of_msb_false hm, BitVec.toNat_ofNat, BitVec.toNat_ofNat]
    show (a % 2 ^ 32) >>> (b % 32) = ((a % 4294967296) >>> (b % 32)) % 2 ^ 32
    refine (Nat.mod_eq_of_lt ?_).symm
    rw [Nat.shiftRight_eq_div_pow]
    exact Nat.lt_of_le_of_lt (Nat.div_le_self _ _) (Nat.mod_lt _ (by decide))
def dMax (a b : Nat) : Nat := cond (dLt a b) b a
def dMin (a b : Nat) : Nat := cond (dLt b a) b a
def dLMax (a b : Nat) : Nat := cond (dLLt b a) a b
def dLMin (a b : Nat) : Nat := cond (dLLt b a) b a
theorem di_max (a b : Nat) : (if Int32.ofNat a < Int32.ofNat b then Int32.ofNat b else Int32.ofNat a) = Int32.ofNat (dMax a b) := by
  unfold dMax
  cases h : dLt a b
  · rw [if_neg (fun z => by rw [(di_lt a b).mpr z] at h; cases h)]; rfl
  · rw [if_pos ((di_lt a b).mp h)]; rfl
theorem di_min (a b : Nat) : (if Int32.ofNat b < Int32.ofNat a then Int32.ofNat b else Int32.ofNat a) = Int32.ofNat (dMin a b) := by
  unfold dMin
  cases h : dLt b a
  · rw [if_neg (fun z => by rw [(di_lt b a).mpr z] at h; cases h)]; rfl
  · rw [if_pos ((di_lt b a).mp h)]; rfl
theorem di_lmax (a b : Nat) : (if Int64.ofNat b < Int64.ofNat a then Int64.ofNat a else Int64.ofNat b) = Int64.ofNat (dLMax a b) := by
  unfold dLMax
  cases h : dLLt b a
  · rw [if_neg (fun z => by rw [(di_llt b a).mpr z] at h; cases h)]; rfl
  · rw [if_pos ((di_llt b a).mp h)]; rfl
theorem di_lmin (a b : Nat) : (if Int64.ofNat b < Int64.ofNat a then Int64.ofNat b else Int64.ofNat a) = Int64.ofNat (dLMin a b) := by
  unfold dLMin
  cases h : dLLt b a
  · rw [if_neg (fun z => by rw [(di_llt b a).mpr z] at h; cases h)]; rfl
  · rw [if_pos ((di_llt b a).mp h)]; rfl

section
/-! ===== words: ints and longs as natural numbers, as a program of words reckons with them ===== -/
theorem di_bm32 (n : Nat) : (n : Int).bmod 4294967296 = if n % 4294967296 < 2147483648 then ((n % 4294967296 : Nat) : Int) else ((n % 4294967296 : Nat) : Int) - 4294967296 := by
  simp only [Int.bmod]
  split <;> split <;> omega
theorem di_bm64 (n : Nat) : (n : Int).bmod 18446744073709551616 = if n % 18446744073709551616 < 9223372036854775808 then ((n % 18446744073709551616 : Nat) : Int) else ((n % 18446744073709551616 : Nat) : Int) - 18446744073709551616 := by
  simp only [Int.bmod]
  split <;> split <;> omega
theorem di_iv (n : Nat) : (Int32.ofNat n).toInt = if n % 4294967296 < 2147483648 then ((n % 4294967296 : Nat) : Int) else ((n % 4294967296 : Nat) : Int) - 4294967296 := by
  rw [Int32.toInt_ofNat']
  exact di_bm32 n
theorem di_jv (n : Nat) : (Int64.ofNat n).toInt = if n % 18446744073709551616 < 9223372036854775808 then ((n % 18446744073709551616 : Nat) : Int) else ((n % 18446744073709551616 : Nat) : Int) - 18446744073709551616 := by
  rw [Int64.toInt_ofNat']
  exact di_bm64 n
theorem di_ieq {a b : Nat} : Int32.ofNat a = Int32.ofNat b ↔ a % 4294967296 = b % 4294967296 := by
  rw [← Int32.toInt_inj, di_iv, di_iv]
  split <;> split <;> omega
theorem di_jeq {a b : Nat} : Int64.ofNat a = Int64.ofNat b ↔ a % 18446744073709551616 = b % 18446744073709551616 := by
  rw [← Int64.toInt_inj, di_jv, di_jv]
  split <;> split <;> omega
theorem di_imod (a : Nat) : Int32.ofNat (a % 4294967296) = Int32.ofNat a := di_ieq.mpr (by omega)
theorem di_jmod (a : Nat) : Int64.ofNat (a % 18446744073709551616) = Int64.ofNat a := di_jeq.mpr (by omega)
-- what a program of words does
def dAdd (a b : Nat) : Nat := Nat.mod (Nat.add a b) 4294967296
def dSub (a b : Nat) : Nat := Nat.mod (Nat.add a (Nat.sub 4294967296 (Nat.mod b 4294967296))) 4294967296
def dMul (a b : Nat) : Nat := Nat.mod (Nat.mul a b) 4294967296
def dNeg (a : Nat) : Nat := Nat.mod (Nat.sub 4294967296 (Nat.mod a 4294967296)) 4294967296
def dAnd (a b : Nat) : Nat := Nat.land (Nat.mod a 4294967296) (Nat.mod b 4294967296)
def dOr (a b : Nat) : Nat := Nat.mod (Nat.lor a b) 4294967296
def dXor (a b : Nat) : Nat := Nat.mod (Nat.xor a b) 4294967296
def dShl (a b : Nat) : Nat := Nat.mod (Nat.shiftLeft a (Nat.mod b 32)) 4294967296
def dLAdd (a b : Nat) : Nat := Nat.mod (Nat.add a b) 18446744073709551616
def dLSub (a b : Nat) : Nat := Nat.mod (Nat.add a (Nat.sub 18446744073709551616 (Nat.mod b 18446744073709551616))) 18446744073709551616
def dLMul (a b : Nat) : Nat := Nat.mod (Nat.mul a b) 18446744073709551616
def dLAnd (a b : Nat) : Nat := Nat.land (Nat.mod a 18446744073709551616) (Nat.mod b 18446744073709551616)
def dLOr (a b : Nat) : Nat := Nat.mod (Nat.lor a b) 18446744073709551616
def dLXor (a b : Nat) : Nat := Nat.mod (Nat.xor a b) 18446744073709551616
def dLShl (a b : Nat) : Nat := Nat.mod (Nat.shiftLeft a (Nat.mod b 64)) 18446744073709551616
def dLUshr (a b : Nat) : Nat := Nat.shiftRight (Nat.mod a 18446744073709551616) (Nat.mod b 64)
def dI2l (a : Nat) : Nat := cond (Nat.blt (Nat.mod a 4294967296) 2147483648) (Nat.mod a 4294967296) (Nat.add (Nat.mod a 4294967296) 18446744069414584320)
def dL2i (a : Nat) : Nat := Nat.mod a 4294967296
def dI2b (a : Nat) : Nat := cond (Nat.blt (Nat.mod a 256) 128) (Nat.mod a 256) (Nat.add (Nat.mod a 256) 4294967040)
def dLt (a b : Nat) : Bool := Nat.blt (Nat.mod (Nat.add a 2147483648) 4294967296) (Nat.mod (Nat.add b 2147483648) 4294967296)
def dEq (a b : Nat) : Bool := Nat.beq (Nat.mod a 4294967296) (Nat.mod b 4294967296)
def dLLt (a b : Nat) : Bool := Nat.blt (Nat.mod (Nat.add a 9223372036854775808) 18446744073709551616) (Nat.mod (Nat.add b 9223372036854775808) 18446744073709551616)
def dCmp (a b : Nat) : Nat := cond (dLLt a b) 4294967295 (cond (dLLt b a) 1 0)
-- .. and that it is what the machine does
theorem di_add (a b : Nat) : Int32.ofNat a + Int32.ofNat b = Int32.ofNat (dAdd a b) := by
  rw [← Int32.ofNat_add]; exact (di_imod _).symm
theorem di_mul (a b : Nat) : Int32.ofNat a * Int32.ofNat b = Int32.ofNat (dMul a b) := by
  rw [← Int32.ofNat_mul]; exact (di_imod _).symm
theorem di_sub (a b : Nat) : Int32.ofNat a - Int32.ofNat b = Int32.ofNat (dSub a b) := by
  have h : dSub a b = (a + (4294967296 - b % 4294967296)) % 4294967296 := rfl
  rw [h, ← Int32.toInt_inj, Int32.toInt_sub, di_iv, di_iv, di_iv]
  simp only [Int.bmod]
  split <;> split <;> split <;> split <;> omega
theorem di_neg (a : Nat) : -(Int32.ofNat a) = Int32.ofNat (dNeg a) := by
  have h : dNeg a = (4294967296 - a % 4294967296) % 4294967296 := rfl
  rw [h, ← Int32.toInt_inj, Int32.toInt_neg, di_iv, di_iv]
  simp only [Int.bmod]
  split <;> split <;> split <;> omega
theorem di_and0 (a b : Nat) : Int32.ofNat a &&& Int32.ofNat b = Int32.ofNat (a &&& b) := Int32.toBitVec_inj.mp (by
  rw [Int32.toBitVec_and]; simp)
theorem di_and (a b : Nat) : Int32.ofNat a &&& Int32.ofNat b = Int32.ofNat (dAnd a b) := by
  rw [← di_imod a, ← di_imod b]; exact di_and0 _ _
theorem di_or (a b : Nat) : Int32.ofNat a ||| Int32.ofNat b = Int32.ofNat (dOr a b) := by
  refine Eq.trans ?_ (di_imod (a ||| b)).symm
  exact Int32.toBitVec_inj.mp (by rw [Int32.toBitVec_or]; simp)
theorem di_xor (a b : Nat) : Int32.ofNat a ^^^ Int32.ofNat b = Int32.ofNat (dXor a b) := by
  refine Eq.trans ?_ (di_imod (a ^^^ b)).symm
  exact Int32.toBitVec_inj.mp (by rw [Int32.toBitVec_xor]; simp)
theorem di_ladd (a b : Nat) : Int64.ofNat a + Int64.ofNat b = Int64.ofNat (dLAdd a b) := by
  rw [← Int64.ofNat_add]; exact (di_jmod _).symm
theorem di_lmul (a b : Nat) : Int64.ofNat a * Int64.ofNat b = Int64.ofNat (dLMul a b) := by
  rw [← Int64.ofNat_mul]; exact (di_jmod _).symm
theorem di_lsub (a b : Nat) : Int64.ofNat a - Int64.ofNat b = Int64.ofNat (dLSub a b) := by
  have h : dLSub a b = (a + (18446744073709551616 - b % 18446744073709551616)) % 18446744073709551616 := rfl
  rw [h, ← Int64.toInt_inj, Int64.toInt_sub, di_jv, di_jv, di_jv]
  simp only [Int.bmod]
  split <;> split <;> split <;> split <;> omega
theorem di_land0 (a b : Nat) : Int64.ofNat a &&& Int64.ofNat b = Int64.ofNat (a &&& b) := Int64.toBitVec_inj.mp (by
  rw [Int64.toBitVec_and]; simp)
theorem di_land (a b : Nat) : Int64.ofNat a &&& Int64.ofNat b = Int64.ofNat (dLAnd a b) := by
  rw [← di_jmod a, ← di_jmod b]; exact di_land0 _ _
theorem di_lor (a b : Nat) : Int64.ofNat a ||| Int64.ofNat b = Int64.ofNat (dLOr a b) := by
  refine Eq.trans ?_ (di_jmod (a ||| b)).symm
  exact Int64.toBitVec_inj.mp (by rw [Int64.toBitVec_or]; simp)
theorem di_lxor (a b : Nat) : Int64.ofNat a ^^^ Int64.ofNat b = Int64.ofNat (dLXor a b) := by
  refine Eq.trans ?_ (di_jmod (a ^^^ b)).symm
  exact Int64.toBitVec_inj.mp (by rw [Int64.toBitVec_xor]; simp)
theorem di_cond {α : Type} (a b : Nat) (x y : α) : cond (Nat.blt a b) x y = if a < b then x else y := by
  by_cases h : a < b
  · rw [if_pos h, show Nat.blt a b = true by rw [Nat.blt_eq]; exact h]; rfl
  · rw [if_neg h, show Nat.blt a b = false by
      cases q : Nat.blt a b
      · rfl
      · rw [Nat.blt_eq] at q; exact absurd q h]; rfl
theorem di_i2l_eq (a : Nat) : dI2l a = if a % 4294967296 < 2147483648 then a % 4294967296 else a % 4294967296 + 18446744069414584320 := di_cond _ _ _ _
theorem di_i2b_eq (a : Nat) : dI2b a = if a % 256 < 128 then a % 256 else a % 256 + 4294967040 := di_cond _ _ _ _
theorem di_i2l (a : Nat) : (Int32.ofNat a).toInt64 = Int64.ofNat (dI2l a) := by
  rw [← Int64.toInt_inj, Int32.toInt_toInt64, di_iv, di_jv, di_i2l_eq]
  split <;> split <;> omega
theorem di_l2i (a : Nat) : (Int64.ofNat a).toInt32 = Int32.ofNat (dL2i a) := by
  have h : dL2i a = a % 4294967296 := rfl
  rw [h, ← Int32.toInt_inj, Int64.toInt_toInt32, di_iv, di_jv]
  simp only [Int.bmod]
  split <;> split <;> split <;> omega
theorem di_i2b (a : Nat) : (Int32.ofNat a).toInt8.toInt32 = Int32.ofNat (dI2b a) := by
  rw [← Int32.toInt_inj, Int8.toInt_toInt32, Int32.toInt_toInt8, di_iv, di_iv, di_i2b_eq]
  simp only [Int.bmod]
  split <;> split <;> split <;> (try split) <;> omega
theorem di_blt {a b : Nat} : Nat.blt a b = true ↔ a < b := by rw [Nat.blt_eq]
theorem di_lt (a b : Nat) : dLt a b = true ↔ Int32.ofNat a < Int32.ofNat b := by
  rw [Int32.lt_iff_toInt_lt, di_iv, di_iv]
  have h : dLt a b = Nat.blt ((a + 2147483648) % 4294967296) ((b + 2147483648) % 4294967296) := rfl
  rw [h, Nat.blt_eq]
  split <;> split <;> omega
theorem di_llt (a b : Nat) : dLLt a b = true ↔ Int64.ofNat a < Int64.ofNat b := by
  rw [Int64.lt_iff_toInt_lt, di_jv, di_jv]
  have h : dLLt a b = Nat.blt ((a + 9223372036854775808) % 18446744073709551616) ((b + 9223372036854775808) % 18446744073709551616) := rfl
  rw [h, Nat.blt_eq]
  split <;> split <;> omega
theorem di_eq (a b : Nat) : dEq a b = true ↔ Int32.ofNat a = Int32.ofNat b := by
  have h : dEq a b = Nat.beq (a % 4294967296) (b % 4294967296) := rfl
  rw [h, Nat.beq_eq, di_ieq]
theorem di_cmp (a b : Nat) : lg_cmp (Int64.ofNat a) (Int64.ofNat b) = Int32.ofNat (dCmp a b) := by
  unfold dCmp
  cases h1 : dLLt a b
  · have q1 : ¬ Int64.ofNat a < Int64.ofNat b := fun q => by rw [(di_llt a b).mpr q] at h1; cases h1
    cases h2 : dLLt b a
    · have q2 : ¬ Int64.ofNat b < Int64.ofNat a := fun q => by rw [(di_llt b a).mpr q] at h2; cases h2
      have q3 : Int64.ofNat a = Int64.ofNat b := by
        rw [Int64.lt_iff_toInt_lt] at q1 q2
        rw [← Int64.toInt_inj]; omega
      simp [lg_cmp, q3]
    · have q2 := (di_llt b a).mp h2
      simp [lg_cmp, q1, q2]
  · have q1 := (di_llt a b).mp h1
    have q2 : ¬ Int64.ofNat b < Int64.ofNat a := fun q => by
      rw [Int64.lt_iff_toInt_lt] at q q1; omega
    have q3 : ¬ Int64.ofNat a = Int64.ofNat b := fun q => by
      rw [Int64.lt_iff_toInt_lt, q] at q1; omega
    simp [lg_cmp, q1, q2, q3]
    try decide
theorem di_sm32 : ∀ k, k < 32 → ((Int32.ofNat k).toBitVec.smod 32).toNat = k := by decide +kernel
theorem di_sm64 : ∀ k, k < 64 → ((Int64.ofNat k).toBitVec.smod 64).toNat = k := by decide +kernel
theorem di_and31 (b : Nat) : Int32.ofNat b &&& 31 = Int32.ofNat (b % 32) := by
  have h : (31 : Int32) = Int32.ofNat 31 := rfl
  rw [h, di_and0, show b &&& 31 = b % 32 from Nat.and_two_pow_sub_one_eq_mod b 5]
theorem di_and63 (b : Nat) : (Int32.ofNat b).toInt64 &&& 63 = Int64.ofNat (b % 64) := by
  have h : (63 : Int64) = Int64.ofNat 63 := rfl
  rw [di_i2l, h, di_land0, show dI2l b &&& 63 = dI2l b % 64 from Nat.and_two_pow_sub_one_eq_mod _ 6]
  congr 1
  rw [di_i2l_eq]
  split <;> omega
theorem di_shl (a b : Nat) : Int32.ofNat a <<< (Int32.ofNat b &&& 31) = Int32.ofNat (dShl a b) := by
  have hb : b % 32 < 32 := Nat.mod_lt _ (by decide)
  rw [di_and31]
  refine Eq.trans ?_ (di_imod (a <<< (b % 32))).symm
  apply Int32.toBitVec_inj.mp
  rw [Int32.toBitVec_shiftLeft]
  apply BitVec.eq_of_toNat_eq
  show (BitVec.shiftLeft _ _).toNat = _
  rw [di_sm32 _ hb]
  show ((BitVec.ofNat 32 a) <<< (b % 32)).toNat = (BitVec.ofNat 32 (a <<< (b % 32))).toNat
  rw [BitVec.toNat_shiftLeft, BitVec.toNat_ofNat, BitVec.toNat_ofNat, Nat.shiftLeft_eq, Nat.shiftLeft_eq, Nat.mod_mul_mod]
theorem di_lshl (a b : Nat) : Int64.ofNat a <<< ((Int32.ofNat b).toInt64 &&& 63) = Int64.ofNat (dLShl a b) := by
  have hb : b % 64 < 64 := Nat.mod_lt _ (by decide)
  rw [di_and63]
  refine Eq.trans ?_ (di_jmod (a <<< (b % 64))).symm
  apply Int64.toBitVec_inj.mp
  rw [Int64.toBitVec_shiftLeft]
  apply BitVec.eq_of_toNat_eq
  show (BitVec.shiftLeft _ _).toNat = _
  rw [di_sm64 _ hb]
  show ((BitVec.ofNat 64 a) <<< (b % 64)).toNat = (BitVec.ofNat 64 (a <<< (b % 64))).toNat
  rw [BitVec.toNat_shiftLeft, BitVec.toNat_ofNat, BitVec.toNat_ofNat, Nat.shiftLeft_eq, Nat.shiftLeft_eq, Nat.mod_mul_mod]
theorem di_um64 (b : Nat) : ((Int32.ofNat b).toInt64.toUInt64 &&& Int64.toUInt64 63).toNat = b % 64 := by
  have h : ((Int32.ofNat b).toInt64 &&& 63).toUInt64 = (Int32.ofNat b).toInt64.toUInt64 &&& Int64.toUInt64 63 := rfl
  rw [← h, di_and63]
  show (BitVec.ofNat 64 (b % 64)).toNat = _
  rw [BitVec.toNat_ofNat]
  omega
theorem di_lushr (a b : Nat) : ((Int64.ofNat a).toUInt64 >>> ((Int32.ofNat b).toInt64.toUInt64 &&& Int64.toUInt64 63)).toInt64 = Int64.ofNat (dLUshr a b) := by
  have e : (Int64.ofNat a).toUInt64 >>> ((Int32.ofNat b).toInt64.toUInt64 &&& Int64.toUInt64 63) = UInt64.ofNat (dLUshr a b) := UInt64.toNat_inj.mp (by
    rw [UInt64.toNat_shiftRight, di_um64]
    have hd : dLUshr a b = (a % 18446744073709551616) >>> (b % 64) := rfl
    have h1 : (Int64.ofNat a).toUInt64.toNat = a % 18446744073709551616 := by
      show (BitVec.ofNat 64 a).toNat = _
      rw [BitVec.toNat_ofNat]
    rw [h1, hd, UInt64.toNat_ofNat', Nat.shiftRight_eq_div_pow, Nat.shiftRight_eq_div_pow, show b % 64 % 64 = b % 64 by omega]
    have h2 : a % 18446744073709551616 / 2 ^ (b % 64) ≤ a % 18446744073709551616 := Nat.div_le_self _ _
    omega)
  rw [e]
  rfl
end
section
/-! ===== a heap of words: values, cells, and how they lie in the machine's heap ===== -/
abbrev dV : Type := Nat ⊕ Nat ⊕ Nat
abbrev dC : Type := Nat × Nat × Nat
abbrev dH : Type := Nat × Nat × List (List dC)
/-- a value: an int, a long, or (0) null and (k + 1) the cell k behind b -/
def dv (b : Nat) : dV → Value
  | .inl n => .int (Int32.ofNat n)
  | .inr (.inl n) => .long (Int64.ofNat n)
  | .inr (.inr 0) => .null
  | .inr (.inr (k + 1)) => .ref (b + k)
/-- number k of the words of w bits in c -/
def wd (w c k : Nat) : Nat := Nat.mod (Nat.shiftRight c (Nat.mul w k)) (Nat.pow 2 w)
def wst (w c k v : Nat) : Nat := Nat.xor c (Nat.shiftLeft (Nat.xor (wd w c k) v) (Nat.mul w k))
theorem wd_tb (w c k i : Nat) : (wd w c k).testBit i = (decide (i < w) && c.testBit (w * k + i)) := by
  have h : wd w c k = (c >>> (w * k)) % 2 ^ w := rfl
  rw [h, Nat.testBit_mod_two_pow, Nat.testBit_shiftRight]
theorem wd_lt (w c k : Nat) : wd w c k < 2 ^ w := Nat.mod_lt _ (Nat.two_pow_pos w)
theorem wd_wst {w c k v : Nat} (j : Nat) (hv : v < 2 ^ w) : wd w (wst w c k v) j = if j = k then v else wd w c j := by
  have hs : wst w c k v = c ^^^ ((wd w c k ^^^ v) <<< (w * k)) := rfl
  have hx : wd w c k ^^^ v < 2 ^ w := Nat.xor_lt_two_pow (wd_lt w c k) hv
  apply Nat.eq_of_testBit_eq
  intro i
  rw [wd_tb, hs, Nat.testBit_xor, Nat.testBit_shiftLeft]
  by_cases hi : i < w
  · by_cases hj : j = k
    · subst hj
      rw [if_pos rfl, show w * j + i - w * j = i by omega, Nat.testBit_xor, wd_tb]
      have h1 : w * j + i ≥ w * j := by omega
      simp [hi, h1]
    · rw [if_neg hj, wd_tb]
      by_cases hk : w * j + i ≥ w * k
      · have hjk : k + 1 ≤ j := by
          rcases Nat.lt_or_ge k j with q | q
          · exact q
          · exfalso
            have q2 : j + 1 ≤ k := by omega
            have q3 : w * (j + 1) ≤ w * k := Nat.mul_le_mul_left w q2
            rw [Nat.mul_add] at q3
            omega
        have q3 : w * (k + 1) ≤ w * j := Nat.mul_le_mul_left w hjk
        rw [Nat.mul_add] at q3
        have h2 : (wd w c k ^^^ v).testBit (w * j + i - w * k) = false := Nat.testBit_lt_two_pow (Nat.lt_of_lt_of_le hx (Nat.pow_le_pow_right (by decide) (by omega)))
        simp [hi, h2]
      · simp [hi, hk]
  · have h0 : (decide (i < w)) = false := by simp [hi]
    rw [h0, Bool.false_and]
    by_cases hj : j = k
    · rw [if_pos hj]
      exact (Nat.testBit_lt_two_pow (Nat.lt_of_lt_of_le hv (Nat.pow_le_pow_right (by decide) (by omega)))).symm
    · rw [if_neg hj, wd_tb, h0, Bool.false_and]
theorem wd_0 (w k : Nat) : wd w 0 k = 0 := by
  have h : wd w 0 k = (0 >>> (w * k)) % 2 ^ w := rfl
  rw [h, Nat.zero_shiftRight, Nat.zero_mod]
-- strict steps: a number is reckoned out before it goes on
noncomputable def fo {α : Type} (n : Nat) (k : Nat → α) : α := Nat.rec (motive := fun _ => α) (k 0) (fun m _ => k (Nat.succ m)) n
theorem fo_eq {α : Type} (n : Nat) (k : Nat → α) : fo n k = k n := by cases n <;> rfl
noncomputable def nth {α : Type} (l : List α) : Nat → Option α := List.rec (motive := fun _ => Nat → Option α) (fun _ => none) (fun a _ ih n => Nat.rec (motive := fun _ => Option α) (some a) (fun m _ => ih m) n) l
theorem nth_eq {α : Type} (l : List α) (n : Nat) : nth l n = l[n]? := by
  induction l generalizing n with
  | nil => rfl
  | cons a t ih => cases n with
    | zero => rfl
    | succ m => rw [List.getElem?_cons_succ, ← ih m]; rfl
noncomputable def setc {α β : Type} (l : List α) : Nat → α → (List α → β) → β → β := List.rec (motive := fun _ => Nat → α → (List α → β) → β → β) (fun _ _ _ z => z) (fun a t ih n c k z => Nat.rec (motive := fun _ => β) (k (c :: t)) (fun m _ => ih m c (fun u => k (a :: u)) z) n) l
theorem setc_eq {α β : Type} (l : List α) (n : Nat) (c : α) (k : List α → β) (z : β) : setc l n c k z = if n < l.length then k (l.set n c) else z := by
  induction l generalizing n k with
  | nil => rfl
  | cons a t ih => cases n with
    | zero => rfl
    | succ m =>
      show setc t m c (fun u => k (a :: u)) z = _
      rw [ih]
      simp only [List.length_cons, Nat.add_lt_add_iff_right, List.set_cons_succ]
noncomputable def appc {α β : Type} (l : List α) : α → (List α → β) → β := List.rec (motive := fun _ => α → (List α → β) → β) (fun c k => k [c]) (fun a _ ih c k => ih c (fun u => k (a :: u))) l
theorem appc_eq {α β : Type} (l : List α) (c : α) (k : List α → β) : appc l c k = k (l ++ [c]) := by
  induction l generalizing k with
  | nil => rfl
  | cons a t ih =>
    show appc t c (fun u => k (a :: u)) = _
    rw [ih]
    rfl
/-- the cell k -/
noncomputable def hat (h : dH) (k : Nat) : Option dC := match nth h.2.2 (Nat.div k 16) with
  | none => none
  | some ch => nth ch (Nat.mod k 16)
def hwf (h : dH) : Prop := h.2.2.length = (h.1 + 15) / 16 ∧ ∀ (i : Nat) (ch : List dC), h.2.2[i]? = some ch → ch.length = min 16 (h.1 - 16 * i)
theorem hat_eq (h : dH) (k : Nat) : hat h k = (h.2.2[k / 16]?).bind (fun ch => ch[k % 16]?) := by
  unfold hat
  rw [nth_eq]
  show (match h.2.2[k / 16]? with | none => none | some ch => nth ch (Nat.mod k 16)) = _
  cases h.2.2[k / 16]? with
  | none => rfl
  | some ch => exact nth_eq ch _
theorem hat_lt {h : dH} (hw : hwf h) {k : Nat} {c : dC} (e : hat h k = some c) : k < h.1 := by
  rw [hat_eq] at e
  cases hc : h.2.2[k / 16]? with
  | none => rw [hc] at e; cases e
  | some ch =>
    rw [hc] at e
    have h1 := hw.2 _ _ hc
    have h2 : k % 16 < ch.length := (List.getElem?_eq_some_iff.mp e).1
    omega
noncomputable def hset {β : Type} (h : dH) (k : Nat) (c : dC) (f : dH → β) (z : β) : β := match h with
  | (n, s, cs) => match nth cs (Nat.div k 16) with
    | none => z
    | some ch => setc ch (Nat.mod k 16) c (fun ch' => setc cs (Nat.div k 16) ch' (fun cs' => f (n, s, cs')) z) z
theorem hset_spec {β : Type} {h : dH} {k : Nat} {c0 c : dC} (f : dH → β) (z : β) (hw : hwf h) (e : hat h k = some c0) : ∃ h' : dH, hset h k c f z = f h' ∧ h'.1 = h.1 ∧ h'.2.1 = h.2.1 ∧ hwf h' ∧ ∀ j, hat h' j = if j = k then some c else hat h j := by
  obtain ⟨n, s, cs⟩ := h
  rw [hat_eq] at e
  dsimp only at e
  cases hc : cs[k / 16]? with
  | none => rw [hc] at e; cases e
  | some ch =>
    rw [hc] at e
    have h2 : k % 16 < ch.length := (List.getElem?_eq_some_iff.mp e).1
    have h3 : k / 16 < cs.length := (List.getElem?_eq_some_iff.mp hc).1
    refine ⟨(n, s, cs.set (k / 16) (ch.set (k % 16) c)), ?_, rfl, rfl, ?_, fun j => ?_⟩
    · unfold hset
      dsimp only
      rw [nth_eq, show cs[Nat.div k 16]? = some ch from hc]
      dsimp only
      rw [setc_eq, if_pos (show Nat.mod k 16 < ch.length from h2), setc_eq, if_pos (show Nat.div k 16 < cs.length from h3)]
      rfl
    · refine ⟨by simpa using hw.1, fun i d hd => ?_⟩
      dsimp only at hd ⊢
      rw [List.getElem?_set] at hd
      split at hd
      · rename_i hi
        subst hi
        cases hd
        rw [List.length_set]
        exact hw.2 _ _ hc
      · exact hw.2 _ _ hd
    · rw [hat_eq, hat_eq]
      dsimp only
      rw [List.getElem?_set]
      by_cases hj : k / 16 = j / 16
      · rw [if_pos hj, if_pos h3, ← hj, hc]
        show (ch.set (k % 16) c)[j % 16]? = if j = k then some c else ch[j % 16]?
        rw [List.getElem?_set]
        by_cases hm : k % 16 = j % 16
        · rw [if_pos hm, if_pos (by omega), if_pos (by omega)]
        · rw [if_neg hm, if_neg (by omega)]
      · rw [if_neg hj, if_neg (by omega)]
noncomputable def hpush {β : Type} (h : dH) (c : dC) (sz : Nat) (f : dH → β) (z : β) : β := match h with
  | (n, s, cs) => fo (Nat.add s sz) fun s' => match Nat.mod n 16 with
    | 0 => appc cs [c] (fun cs' => f (Nat.succ n, s', cs'))
    | _ => match nth cs (Nat.div n 16) with
      | none => z
      | some ch => appc ch c (fun ch' => setc cs (Nat.div n 16) ch' (fun cs' => f (Nat.succ n, s', cs')) z)
theorem hpush_spec {β : Type} {h : dH} {c : dC} {sz : Nat} (f : dH → β) (z : β) (hw : hwf h) : ∃ h' : dH, hpush h c sz f z = f h' ∧ h'.1 = h.1 + 1 ∧ h'.2.1 = h.2.1 + sz ∧ hwf h' ∧ ∀ j, hat h' j = if j = h.1 then some c else hat h j := by
  obtain ⟨n, s, cs⟩ := h
  obtain ⟨hw1, hw2⟩ := hw
  dsimp only at hw1 hw2
  have hex : hpush (n, s, cs) c sz f z = (match Nat.mod n 16 with
    | 0 => appc cs [c] (fun cs' => f (Nat.succ n, Nat.add s sz, cs'))
    | _ => match nth cs (Nat.div n 16) with
      | none => z
      | some ch => appc ch c (fun ch' => setc cs (Nat.div n 16) ch' (fun cs' => f (Nat.succ n, Nat.add s sz, cs')) z)) := by
    unfold hpush
    dsimp only
    rw [fo_eq]
  by_cases hn : n % 16 = 0
  · refine ⟨(n + 1, s + sz, cs ++ [[c]]), ?_, rfl, rfl, ⟨by simp; omega, fun i d hd => ?_⟩, fun j => ?_⟩
    · rw [hex, show Nat.mod n 16 = 0 from hn]
      show appc cs [c] _ = _
      rw [appc_eq]
      rfl
    · dsimp only at hd ⊢
      by_cases hi : i < cs.length
      · rw [List.getElem?_append_left hi] at hd
        rw [hw2 _ _ hd]; omega
      · rw [List.getElem?_append_right (by omega)] at hd
        have h0 : i - cs.length < 1 := (List.getElem?_eq_some_iff.mp hd).1
        rw [show i - cs.length = 0 by omega] at hd
        cases hd
        show 1 = _
        omega
    · rw [hat_eq, hat_eq]
      dsimp only
      by_cases hi : j / 16 < cs.length
      · rw [List.getElem?_append_left hi, if_neg (by omega)]
      · rw [List.getElem?_append_right (by omega)]
        rw [show cs[j / 16]? = none from List.getElem?_eq_none (by omega)]
        by_cases hj : j / 16 = cs.length
        · rw [show j / 16 - cs.length = 0 by omega]
          show [c][j % 16]? = _
          by_cases hjn : j = n
          · rw [if_pos hjn, show j % 16 = 0 by omega]; try rfl
          · rw [if_neg hjn]
            exact List.getElem?_eq_none (by simp; omega)
        · rw [show ([[c]] : List (List dC))[j / 16 - cs.length]? = none from List.getElem?_eq_none (by simp; omega), if_neg (by omega)]
  · have hlt : n / 16 < cs.length := by omega
    obtain ⟨ch, hc⟩ : ∃ ch, cs[n / 16]? = some ch := ⟨_, List.getElem?_eq_getElem hlt⟩
    have hl := hw2 _ _ hc
    refine ⟨(n + 1, s + sz, cs.set (n / 16) (ch ++ [c])), ?_, rfl, rfl, ⟨by simp; omega, fun i d hd => ?_⟩, fun j => ?_⟩
    · rw [hex]
      obtain ⟨r, hr⟩ : ∃ r, Nat.mod n 16 = r + 1 := ⟨n % 16 - 1, by show n % 16 = _; omega⟩
      rw [hr]
      show (match nth cs (Nat.div n 16) with | none => z | some ch => _) = _
      rw [nth_eq, show cs[Nat.div n 16]? = some ch from hc]
      dsimp only
      rw [appc_eq, setc_eq, if_pos (show Nat.div n 16 < cs.length from hlt)]
      rfl
    · dsimp only at hd ⊢
      rw [List.getElem?_set] at hd
      split at hd
      · rename_i hi
        subst hi
        cases hd
        rw [List.length_append, hl]
        simp
        omega
      · rw [hw2 _ _ hd]
        have h0 := (List.getElem?_eq_some_iff.mp hd).1
        omega
    · rw [hat_eq, hat_eq]
      dsimp only
      rw [List.getElem?_set]
      by_cases hj : n / 16 = j / 16
      · rw [if_pos hj, if_pos hlt, ← hj, hc]
        show (ch ++ [c])[j % 16]? = if j = n then some c else ch[j % 16]?
        by_cases hm : j % 16 < ch.length
        · rw [List.getElem?_append_left hm, if_neg (by omega)]
        · rw [List.getElem?_append_right (by omega), show ch[j % 16]? = none from List.getElem?_eq_none (by omega)]
          by_cases hjn : j = n
          · rw [if_pos hjn, show j % 16 - ch.length = 0 by omega]; rfl
          · rw [if_neg hjn]
            exact List.getElem?_eq_none (by simp; omega)
      · rw [if_neg hj, if_neg (by omega)]
end

section
/-! ===== words: ints and longs as natural numbers, as a program of words reckons with them ===== -/
theorem di_bm32 (n : Nat) : (n : Int).bmod 4294967296 = if n % 4294967296 < 2147483648 then ((n % 4294967296 : Nat) : Int) else ((n % 4294967296 : Nat) : Int) - 4294967296 := by
  simp only [Int.bmod]
  split <;> split <;> omega
theorem di_bm64 (n : Nat) : (n : Int).bmod 18446744073709551616 = if n % 18446744073709551616 < 9223372036854775808 then ((n % 18446744073709551616 : Nat) : Int) else ((n % 18446744073709551616 : Nat) : Int) - 18446744073709551616 := by
  simp only [Int.bmod]
  split <;> split <;> omega
theorem di_iv (n : Nat) : (Int32.ofNat n).toInt = if n % 4294967296 < 2147483648 then ((n % 4294967296 : Nat) : Int) else ((n % 4294967296 : Nat) : Int) - 4294967296 := by
  rw [Int32.toInt_ofNat']
  exact di_bm32 n
theorem di_jv (n : Nat) : (Int64.ofNat n).toInt = if n % 18446744073709551616 < 9223372036854775808 then ((n % 18446744073709551616 : Nat) : Int) else ((n % 18446744073709551616 : Nat) : Int) - 18446744073709551616 := by
  rw [Int64.toInt_ofNat']
  exact di_bm64 n
theorem di_ieq {a b : Nat} : Int32.ofNat a = Int32.ofNat b ↔ a % 4294967296 = b % 4294967296 := by
  rw [← Int32.toInt_inj, di_iv, di_iv]
  split <;> split <;> omega
theorem di_jeq {a b : Nat} : Int64.ofNat a = Int64.ofNat b ↔ a % 18446744073709551616 = b % 18446744073709551616 := by
  rw [← Int64.toInt_inj, di_jv, di_jv]
  split <;> split <;> omega
theorem di_imod (a : Nat) : Int32.ofNat (a % 4294967296) = Int32.ofNat a := di_ieq.mpr (by omega)
theorem di_jmod (a : Nat) : Int64.ofNat (a % 18446744073709551616) = Int64.ofNat a := di_jeq.mpr (by omega)
-- what a program of words does
def dAdd (a b : Nat) : Nat := Nat.mod (Nat.add a b) 4294967296
def dSub (a b : Nat) : Nat := Nat.mod (Nat.add a (Nat.sub 4294967296 (Nat.mod b 4294967296))) 4294967296
def dMul (a b : Nat) : Nat := Nat.mod (Nat.mul a b) 4294967296
def dNeg (a : Nat) : Nat := Nat.mod (Nat.sub 4294967296 (Nat.mod a 4294967296)) 4294967296
def dAnd (a b : Nat) : Nat := Nat.land (Nat.mod a 4294967296) (Nat.mod b 4294967296)
def dOr (a b : Nat) : Nat := Nat.mod (Nat.lor a b) 4294967296
def dXor (a b : Nat) : Nat := Nat.mod (Nat.xor a b) 4294967296
def dShl (a b : Nat) : Nat := Nat.mod (Nat.shiftLeft a (Nat.mod b 32)) 4294967296
def dLAdd (a b : Nat) : Nat := Nat.mod (Nat.add a b) 18446744073709551616
def dLSub (a b : Nat) : Nat := Nat.mod (Nat.add a (Nat.sub 18446744073709551616 (Nat.mod b 18446744073709551616))) 18446744073709551616
def dLMul (a b : Nat) : Nat := Nat.mod (Nat.mul a b) 18446744073709551616
def dLAnd (a b : Nat) : Nat := Nat.land (Nat.mod a 18446744073709551616) (Nat.mod b 18446744073709551616)
def dLOr (a b : Nat) : Nat := Nat.mod (Nat.lor a b) 18446744073709551616
def dLXor (a b : Nat) : Nat := Nat.mod (Nat.xor a b) 18446744073709551616
def dLShl (a b : Nat) : Nat := Nat.mod (Nat.shiftLeft a (Nat.mod b 64)) 18446744073709551616
def dLUshr (a b : Nat) : Nat := Nat.shiftRight (Nat.mod a 18446744073709551616) (Nat.mod b 64)
def dI2l (a : Nat) : Nat := cond (Nat.blt (Nat.mod a 4294967296) 2147483648) (Nat.mod a 4294967296) (Nat.add (Nat.mod a 4294967296) 18446744069414584320)
def dL2i (a : Nat) : Nat := Nat.mod a 4294967296
def dI2b (a : Nat) : Nat := cond (Nat.blt (Nat.mod a 256) 128) (Nat.mod a 256) (Nat.add (Nat.mod a 256) 4294967040)
def dLt (a b : Nat) : Bool := Nat.blt (Nat.mod (Nat.add a 2147483648) 4294967296) (Nat.mod (Nat.add b 2147483648) 4294967296)
def dEq (a b : Nat) : Bool := Nat.beq (Nat.mod a 4294967296) (Nat.mod b 4294967296)
def dLLt (a b : Nat) : Bool := Nat.blt (Nat.mod (Nat.add a 9223372036854775808) 18446744073709551616) (Nat.mod (Nat.add b 9223372036854775808) 18446744073709551616)
def dCmp (a b : Nat) : Nat := cond (dLLt a b) 4294967295 (cond (dLLt b a) 1 0)
-- .. and that it is what the machine does
theorem di_add (a b : Nat) : Int32.ofNat a + Int32.ofNat b = Int32.ofNat (dAdd a b) := by
  rw [← Int32.ofNat_add]; exact (di_imod _).symm
theorem di_mul (a b : Nat) : Int32.ofNat a * Int32.ofNat b = Int32.ofNat (dMul a b) := by
  rw [← Int32.ofNat_mul]; exact (di_imod _).symm
theorem di_sub (a b : Nat) : Int32.ofNat a - Int32.ofNat b = Int32.ofNat (dSub a b) := by
  have h : dSub a b = (a + (4294967296 - b % 4294967296)) % 4294967296 := rfl
  rw [h, ← Int32.toInt_inj, Int32.toInt_sub, di_iv, di_iv, di_iv]
  simp only [Int.bmod]
  split <;> split <;> split <;> split <;> omega
theorem di_neg (a : Nat) : -(Int32.ofNat a) = Int32.ofNat (dNeg a) := by
  have h : dNeg a = (4294967296 - a % 4294967296) % 4294967296 := rfl
  rw [h, ← Int32.toInt_inj, Int32.toInt_neg, di_iv, di_iv]
  simp only [Int.bmod]
  split <;> split <;> split <;> omega
theorem di_and0 (a b : Nat) : Int32.ofNat a &&& Int32.ofNat b = Int32.ofNat (a &&& b) := Int32.toBitVec_inj.mp (by
  rw [Int32.toBitVec_and]; simp)
theorem di_and (a b : Nat) : Int32.ofNat a &&& Int32.ofNat b = Int32.ofNat (dAnd a b) := by
  rw [← di_imod a, ← di_imod b]; exact di_and0 _ _
theorem di_or (a b : Nat) : Int32.ofNat a ||| Int32.ofNat b = Int32.ofNat (dOr a b) := by
  refine Eq.trans ?_ (di_imod (a ||| b)).symm
  exact Int32.toBitVec_inj.mp (by rw [Int32.toBitVec_or]; simp)
theorem di_xor (a b : Nat) : Int32.ofNat a ^^^ Int32.ofNat b = Int32.ofNat (dXor a b) := by
  refine Eq.trans ?_ (di_imod (a ^^^ b)).symm
  exact Int32.toBitVec_inj.mp (by rw [Int32.toBitVec_xor]; simp)
theorem di_ladd (a b : Nat) : Int64.ofNat a + Int64.ofNat b = Int64.ofNat (dLAdd a b) := by
  rw [← Int64.ofNat_add]; exact (di_jmod _).symm
theorem di_lmul (a b : Nat) : Int64.ofNat a * Int64.ofNat b = Int64.ofNat (dLMul a b) := by
  rw [← Int64.ofNat_mul]; exact (di_jmod _).symm
theorem di_lsub (a b : Nat) : Int64.ofNat a - Int64.ofNat b = Int64.ofNat (dLSub a b) := by
  have h : dLSub a b = (a + (18446744073709551616 - b % 18446744073709551616)) % 18446744073709551616 := rfl
  rw [h, ← Int64.toInt_inj, Int64.toInt_sub, di_jv, di_jv, di_jv]
  simp only [Int.bmod]
  split <;> split <;> split <;> split <;> omega
theorem di_land0 (a b : Nat) : Int64.ofNat a &&& Int64.ofNat b = Int64.ofNat (a &&& b) := Int64.toBitVec_inj.mp (by
  rw [Int64.toBitVec_and]; simp)
theorem di_land (a b : Nat) : Int64.ofNat a &&& Int64.ofNat b = Int64.ofNat (dLAnd a b) := by
  rw [← di_jmod a, ← di_jmod b]; exact di_land0 _ _
theorem di_lor (a b : Nat) : Int64.ofNat a ||| Int64.ofNat b = Int64.ofNat (dLOr a b) := by
  refine Eq.trans ?_ (di_jmod (a ||| b)).symm
  exact Int64.toBitVec_inj.mp (by rw [Int64.toBitVec_or]; simp)
theorem di_lxor (a b : Nat) : Int64.ofNat a ^^^ Int64.ofNat b = Int64.ofNat (dLXor a b) := by
  refine Eq.trans ?_ (di_jmod (a ^^^ b)).symm
  exact Int64.toBitVec_inj.mp (by rw [Int64.toBitVec_xor]; simp)
theorem di_cond {α : Type} (a b : Nat) (x y : α) : cond (Nat.blt a b) x y = if a < b then x else y := by
  by_cases h : a < b
  · rw [if_pos h, show Nat.blt a b = true by rw [Nat.blt_eq]; exact h]; rfl
  · rw [if_neg h, show Nat.blt a b = false by
      cases q : Nat.blt a b
      · rfl
      · rw [Nat.blt_eq] at q; exact absurd q h]; rfl
theorem di_i2l_eq (a : Nat) : dI2l a = if a % 4294967296 < 2147483648 then a % 4294967296 else a % 4294967296 + 18446744069414584320 := di_cond _ _ _ _
theorem di_i2b_eq (a : Nat) : dI2b a = if a % 256 < 128 then a % 256 else a % 256 + 4294967040 := di_cond _ _ _ _
theorem di_i2l (a : Nat) : (Int32.ofNat a).toInt64 = Int64.ofNat (dI2l a) := by
  rw [← Int64.toInt_inj, Int32.toInt_toInt64, di_iv, di_jv, di_i2l_eq]
  split <;> split <;> omega
theorem di_l2i (a : Nat) : (Int64.ofNat a).toInt32 = Int32.ofNat (dL2i a) := by
  have h : dL2i a = a % 4294967296 := rfl
  rw [h, ← Int32.toInt_inj, Int64.toInt_toInt32, di_iv, di_jv]
  simp only [Int.bmod]
  split <;> split <;> split <;> omega
theorem di_i2b (a : Nat) : (Int32.ofNat a).toInt8.toInt32 = Int32.ofNat (dI2b a) := by
  rw [← Int32.toInt_inj, Int8.toInt_toInt32, Int32.toInt_toInt8, di_iv, di_iv, di_i2b_eq]
  simp only [Int.bmod]
  split <;> split <;> split <;> (try split) <;> omega
theorem di_blt {a b : Nat} : Nat.blt a b = true ↔ a < b := by rw [Nat.blt_eq]
theorem di_lt (a b : Nat) : dLt a b = true ↔ Int32.ofNat a < Int32.ofNat b := by
  rw [Int32.lt_iff_toInt_lt, di_iv, di_iv]
  have h : dLt a b = Nat.blt ((a + 2147483648) % 4294967296) ((b + 2147483648) % 4294967296) := rfl
  rw [h, Nat.blt_eq]
  split <;> split <;> omega
theorem di_llt (a b : Nat) : dLLt a b = true ↔ Int64.ofNat a < Int64.ofNat b := by
  rw [Int64.lt_iff_toInt_lt, di_jv, di_jv]
  have h : dLLt a b = Nat.blt ((a + 9223372036854775808) % 18446744073709551616) ((b + 9223372036854775808) % 18446744073709551616) := rfl
  rw [h, Nat.blt_eq]
  split <;> split <;> omega
theorem di_eq (a b : Nat) : dEq a b = true ↔ Int32.ofNat a = Int32.ofNat b := by
  have h : dEq a b = Nat.beq (a % 4294967296) (b % 4294967296) := rfl
  rw [h, Nat.beq_eq, di_ieq]
theorem di_cmp (a b : Nat) : lg_cmp (Int64.ofNat a) (Int64.ofNat b) = Int32.ofNat (dCmp a b) := by
  unfold dCmp
  cases h1 : dLLt a b
  · have q1 : ¬ Int64.ofNat a < Int64.ofNat b := fun q => by rw [(di_llt a b).mpr q] at h1; cases h1
    cases h2 : dLLt b a
    · have q2 : ¬ Int64.ofNat b < Int64.ofNat a := fun q => by rw [(di_llt b a).mpr q] at h2; cases h2
      have q3 : Int64.ofNat a = Int64.ofNat b := by
        rw [Int64.lt_iff_toInt_lt] at q1 q2
        rw [← Int64.toInt_inj]; omega
      simp [lg_cmp, q3]
    · have q2 := (di_llt b a).mp h2
      simp [lg_cmp, q1, q2]
  · have q1 := (di_llt a b).mp h1
    have q2 : ¬ Int64.ofNat b < Int64.ofNat a := fun q => by
      rw [Int64.lt_iff_toInt_lt] at q q1; omega
    have q3 : ¬ Int64.ofNat a = Int64.ofNat b := fun q => by
      rw [Int64.lt_iff_toInt_lt, q] at q1; omega
    simp [lg_cmp, q1, q2, q3]
    try decide
theorem di_sm32 : ∀ k, k < 32 → ((Int32.ofNat k).toBitVec.smod 32).toNat = k := by decide +kernel
theorem di_sm64 : ∀ k, k < 64 → ((Int64.ofNat k).toBitVec.smod 64).toNat = k := by decide +kernel
theorem di_and31 (b : Nat) : Int32.ofNat b &&& 31 = Int32.ofNat (b % 32) := by
  have h : (31 : Int32) = Int32.ofNat 31 := rfl
  rw [h, di_and0, show b &&& 31 = b % 32 from Nat.and_two_pow_sub_one_eq_mod b 5]
theorem di_and63 (b : Nat) : (Int32.ofNat b).toInt64 &&& 63 = Int64.ofNat (b % 64) := by
  have h : (63 : Int64) = Int64.ofNat 63 := rfl
  rw [di_i2l, h, di_land0, show dI2l b &&& 63 = dI2l b % 64 from Nat.and_two_pow_sub_one_eq_mod _ 6]
  congr 1
  rw [di_i2l_eq]
  split <;> omega
theorem di_shl (a b : Nat) : Int32.ofNat a <<< (Int32.ofNat b &&& 31) = Int32.ofNat (dShl a b) := by
  have hb : b % 32 < 32 := Nat.mod_lt _ (by decide)
  rw [di_and31]
  refine Eq.trans ?_ (di_imod (a <<< (b % 32))).symm
  apply Int32.toBitVec_inj.mp
  rw [Int32.toBitVec_shiftLeft]
  apply BitVec.eq_of_toNat_eq
  show (BitVec.shiftLeft _ _).toNat = _
  rw [di_sm32 _ hb]
  show ((BitVec.ofNat 32 a) <<< (b % 32)).toNat = (BitVec.ofNat 32 (a <<< (b % 32))).toNat
  rw [BitVec.toNat_shiftLeft, BitVec.toNat_ofNat, BitVec.toNat_ofNat, Nat.shiftLeft_eq, Nat.shiftLeft_eq, Nat.mod_mul_mod]
theorem di_lshl (a b : Nat) : Int64.ofNat a <<< ((Int32.ofNat b).toInt64 &&& 63) = Int64.ofNat (dLShl a b) := by
  have hb : b % 64 < 64 := Nat.mod_lt _ (by decide)
  rw [di_and63]
  refine Eq.trans ?_ (di_jmod (a <<< (b % 64))).symm
  apply Int64.toBitVec_inj.mp
  rw [Int64.toBitVec_shiftLeft]
  apply BitVec.eq_of_toNat_eq
  show (BitVec.shiftLeft _ _).toNat = _
  rw [di_sm64 _ hb]
  show ((BitVec.ofNat 64 a) <<< (b % 64)).toNat = (BitVec.ofNat 64 (a <<< (b % 64))).toNat
  rw [BitVec.toNat_shiftLeft, BitVec.toNat_ofNat, BitVec.toNat_ofNat, Nat.shiftLeft_eq, Nat.shiftLeft_eq, Nat.mod_mul_mod]
theorem di_um64 (b : Nat) : ((Int32.ofNat b).toInt64.toUInt64 &&& Int64.toUInt64 63).toNat = b % 64 := by
  have h : ((Int32.ofNat b).toInt64 &&& 63).toUInt64 = (Int32.ofNat b).toInt64.toUInt64 &&& Int64.toUInt64 63 := rfl
  rw [← h, di_and63]
  show (BitVec.ofNat 64 (b % 64)).toNat = _
  rw [BitVec.toNat_ofNat]
  omega
theorem di_lushr (a b : Nat) : ((Int64.ofNat a).toUInt64 >>> ((Int32.ofNat b).toInt64.toUInt64 &&& Int64.toUInt64 63)).toInt64 = Int64.ofNat (dLUshr a b) := by
  have e : (Int64.ofNat a).toUInt64 >>> ((Int32.ofNat b).toInt64.toUInt64 &&& Int64.toUInt64 63) = UInt64.ofNat (dLUshr a b) := UInt64.toNat_inj.mp (by
    rw [UInt64.toNat_shiftRight, di_um64]
    have hd : dLUshr a b = (a % 18446744073709551616) >>> (b % 64) := rfl
    have h1 : (Int64.ofNat a).toUInt64.toNat = a % 18446744073709551616 := by
      show (BitVec.ofNat 64 a).toNat = _
      rw [BitVec.toNat_ofNat]
    rw [h1, hd, UInt64.toNat_ofNat', Nat.shiftRight_eq_div_pow, Nat.shiftRight_eq_div_pow, show b % 64 % 64 = b % 64 by omega]
    have h2 : a % 18446744073709551616 / 2 ^ (b % 64) ≤ a % 18446744073709551616 := Nat.div_le_self _ _
    omega)
  rw [e]
  rfl
end
section
/-! ===== a heap of words: values, cells, and how they lie in the machine's heap ===== -/
abbrev dV : Type := Nat ⊕ Nat ⊕ Nat
abbrev dC : Type := Nat × Nat × Nat
abbrev dH : Type := Nat × Nat × List (List dC)
/-- a value: an int, a long, or (0) null and (k + 1) the cell k, which lies at b k -/
def dv (b : Nat → Nat) : dV → Value
  | .inl n => .int (Int32.ofNat n)
  | .inr (.inl n) => .long (Int64.ofNat n)
  | .inr (.inr 0) => .null
  | .inr (.inr (k + 1)) => .ref (b k)
/-- number k of the words of w bits in c -/
def wd (w c k : Nat) : Nat := Nat.mod (Nat.shiftRight c (Nat.mul w k)) (Nat.pow 2 w)
def wst (w c k v : Nat) : Nat := Nat.xor c (Nat.shiftLeft (Nat.xor (wd w c k) v) (Nat.mul w k))
theorem wd_tb (w c k i : Nat) : (wd w c k).testBit i = (decide (i < w) && c.testBit (w * k + i)) := by
  have h : wd w c k = (c >>> (w * k)) % 2 ^ w := rfl
  rw [h, Nat.testBit_mod_two_pow, Nat.testBit_shiftRight]
theorem wd_lt (w c k : Nat) : wd w c k < 2 ^ w := Nat.mod_lt _ (Nat.two_pow_pos w)
theorem wd_wst {w c k v : Nat} (j : Nat) (hv : v < 2 ^ w) : wd w (wst w c k v) j = if j = k then v else wd w c j := by
  have hs : wst w c k v = c ^^^ ((wd w c k ^^^ v) <<< (w * k)) := rfl
  have hx : wd w c k ^^^ v < 2 ^ w := Nat.xor_lt_two_pow (wd_lt w c k) hv
  apply Nat.eq_of_testBit_eq
  intro i
  rw [wd_tb, hs, Nat.testBit_xor, Nat.testBit_shiftLeft]
  by_cases hi : i < w
  · by_cases hj : j = k
    · subst hj
      rw [if_pos rfl, show w * j + i - w * j = i by omega, Nat.testBit_xor, wd_tb]
      have h1 : w * j + i ≥ w * j := by omega
      simp [hi, h1]
    · rw [if_neg hj, wd_tb]
      by_cases hk : w * j + i ≥ w * k
      · have hjk : k + 1 ≤ j := by
          rcases Nat.lt_or_ge k j with q | q
          · exact q
          · exfalso
            have q2 : j + 1 ≤ k := by omega
            have q3 : w * (j + 1) ≤ w * k := Nat.mul_le_mul_left w q2
            rw [Nat.mul_add] at q3
            omega
        have q3 : w * (k + 1) ≤ w * j := Nat.mul_le_mul_left w hjk
        rw [Nat.mul_add] at q3
        have h2 : (wd w c k ^^^ v).testBit (w * j + i - w * k) = false := Nat.testBit_lt_two_pow (Nat.lt_of_lt_of_le hx (Nat.pow_le_pow_right (by decide) (by omega)))
        simp [hi, h2]
      · simp [hi, hk]
  · have h0 : (decide (i < w)) = false := by simp [hi]
    rw [h0, Bool.false_and]
    by_cases hj : j = k
    · rw [if_pos hj]
      exact (Nat.testBit_lt_two_pow (Nat.lt_of_lt_of_le hv (Nat.pow_le_pow_right (by decide) (by omega)))).symm
    · rw [if_neg hj, wd_tb, h0, Bool.false_and]
theorem wd_0 (w k : Nat) : wd w 0 k = 0 := by
  have h : wd w 0 k = (0 >>> (w * k)) % 2 ^ w := rfl
  rw [h, Nat.zero_shiftRight, Nat.zero_mod]
-- strict steps: a number is reckoned out before it goes on
noncomputable def fo {α : Type} (n : Nat) (k : Nat → α) : α := Nat.rec (motive := fun _ => α) (k 0) (fun m _ => k (Nat.succ m)) n
theorem fo_eq {α : Type} (n : Nat) (k : Nat → α) : fo n k = k n := by cases n <;> rfl
noncomputable def nth {α : Type} (l : List α) : Nat → Option α := List.rec (motive := fun _ => Nat → Option α) (fun _ => none) (fun a _ ih n => Nat.rec (motive := fun _ => Option α) (some a) (fun m _ => ih m) n) l
theorem nth_eq {α : Type} (l : List α) (n : Nat) : nth l n = l[n]? := by
  induction l generalizing n with
  | nil => rfl
  | cons a t ih => cases n with
    | zero => rfl
    | succ m => rw [List.getElem?_cons_succ, ← ih m]; rfl
noncomputable def setc {α β : Type} (l : List α) : Nat → α → (List α → β) → β → β := List.rec (motive := fun _ => Nat → α → (List α → β) → β → β) (fun _ _ _ z => z) (fun a t ih n c k z => Nat.rec (motive := fun _ => β) (k (c :: t)) (fun m _ => ih m c (fun u => k (a :: u)) z) n) l
theorem setc_eq {α β : Type} (l : List α) (n : Nat) (c : α) (k : List α → β) (z : β) : setc l n c k z = if n < l.length then k (l.set n c) else z := by
  induction l generalizing n k with
  | nil => rfl
  | cons a t ih => cases n with
    | zero => rfl
    | succ m =>
      show setc t m c (fun u => k (a :: u)) z = _
      rw [ih]
      simp only [List.length_cons, Nat.add_lt_add_iff_right, List.set_cons_succ]
noncomputable def appc {α β : Type} (l : List α) : α → (List α → β) → β := List.rec (motive := fun _ => α → (List α → β) → β) (fun c k => k [c]) (fun a _ ih c k => ih c (fun u => k (a :: u))) l
theorem appc_eq {α β : Type} (l : List α) (c : α) (k : List α → β) : appc l c k = k (l ++ [c]) := by
  induction l generalizing k with
  | nil => rfl
  | cons a t ih =>
    show appc t c (fun u => k (a :: u)) = _
    rw [ih]
    rfl
/-- the cell k -/
noncomputable def hat (h : dH) (k : Nat) : Option dC := match nth h.2.2 (Nat.div k 16) with
  | none => none
  | some ch => nth ch (Nat.mod k 16)
def hwf (h : dH) : Prop := h.2.2.length = (h.1 + 15) / 16 ∧ ∀ (i : Nat) (ch : List dC), h.2.2[i]? = some ch → ch.length = min 16 (h.1 - 16 * i)
theorem hat_eq (h : dH) (k : Nat) : hat h k = (h.2.2[k / 16]?).bind (fun ch => ch[k % 16]?) := by
  unfold hat
  rw [nth_eq]
  show (match h.2.2[k / 16]? with | none => none | some ch => nth ch (Nat.mod k 16)) = _
  cases h.2.2[k / 16]? with
  | none => rfl
  | some ch => exact nth_eq ch _
theorem hat_lt {h : dH} (hw : hwf h) {k : Nat} {c : dC} (e : hat h k = some c) : k < h.1 := by
  rw [hat_eq] at e
  cases hc : h.2.2[k / 16]? with
  | none => rw [hc] at e; cases e
  | some ch =>
    rw [hc] at e
    have h1 := hw.2 _ _ hc
    have h2 : k % 16 < ch.length := (List.getElem?_eq_some_iff.mp e).1
    omega
noncomputable def hset {β : Type} (h : dH) (k : Nat) (c : dC) (f : dH → β) (z : β) : β := match h with
  | (n, s, cs) => match nth cs (Nat.div k 16) with
    | none => z
    | some ch => setc ch (Nat.mod k 16) c (fun ch' => setc cs (Nat.div k 16) ch' (fun cs' => f (n, s, cs')) z) z
theorem hset_spec {β : Type} {h : dH} {k : Nat} {c0 c : dC} (f : dH → β) (z : β) (hw : hwf h) (e : hat h k = some c0) : ∃ h' : dH, hset h k c f z = f h' ∧ h'.1 = h.1 ∧ h'.2.1 = h.2.1 ∧ hwf h' ∧ ∀ j, hat h' j = if j = k then some c else hat h j := by
  obtain ⟨n, s, cs⟩ := h
  rw [hat_eq] at e
  dsimp only at e
  cases hc : cs[k / 16]? with
  | none => rw [hc] at e; cases e
  | some ch =>
    rw [hc] at e
    have h2 : k % 16 < ch.length := (List.getElem?_eq_some_iff.mp e).1
    have h3 : k / 16 < cs.length := (List.getElem?_eq_some_iff.mp hc).1
    refine ⟨(n, s, cs.set (k / 16) (ch.set (k % 16) c)), ?_, rfl, rfl, ?_, fun j => ?_⟩
    · unfold hset
      dsimp only
      rw [nth_eq, show cs[Nat.div k 16]? = some ch from hc]
      dsimp only
      rw [setc_eq, if_pos (show Nat.mod k 16 < ch.length from h2), setc_eq, if_pos (show Nat.div k 16 < cs.length from h3)]
      rfl
    · refine ⟨by simpa using hw.1, fun i d hd => ?_⟩
      dsimp only at hd ⊢
      rw [List.getElem?_set] at hd
      split at hd
      · rename_i hi
        subst hi
        cases hd
        rw [List.length_set]
        exact hw.2 _ _ hc
      · exact hw.2 _ _ hd
    · rw [hat_eq, hat_eq]
      dsimp only
      rw [List.getElem?_set]
      by_cases hj : k / 16 = j / 16
      · rw [if_pos hj, if_pos h3, ← hj, hc]
        show (ch.set (k % 16) c)[j % 16]? = if j = k then some c else ch[j % 16]?
        rw [List.getElem?_set]
        by_cases hm : k % 16 = j % 16
        · rw [if_pos hm, if_pos (by omega), if_pos (by omega)]
        · rw [if_neg hm, if_neg (by omega)]
      · rw [if_neg hj, if_neg (by omega)]
noncomputable def hpush {β : Type} (h : dH) (c : dC) (sz : Nat) (f : dH → β) (z : β) : β := match h with
  | (n, s, cs) => fo (Nat.add s sz) fun s' => match Nat.mod n 16 with
    | 0 => appc cs [c] (fun cs' => f (Nat.succ n, s', cs'))
    | _ => match nth cs (Nat.div n 16) with
      | none => z
      | some ch => appc ch c (fun ch' => setc cs (Nat.div n 16) ch' (fun cs' => f (Nat.succ n, s', cs')) z)
theorem hpush_spec {β : Type} {h : dH} {c : dC} {sz : Nat} (f : dH → β) (z : β) (hw : hwf h) : ∃ h' : dH, hpush h c sz f z = f h' ∧ h'.1 = h.1 + 1 ∧ h'.2.1 = h.2.1 + sz ∧ hwf h' ∧ ∀ j, hat h' j = if j = h.1 then some c else hat h j := by
  obtain ⟨n, s, cs⟩ := h
  obtain ⟨hw1, hw2⟩ := hw
  dsimp only at hw1 hw2
  have hex : hpush (n, s, cs) c sz f z = (match Nat.mod n 16 with
    | 0 => appc cs [c] (fun cs' => f (Nat.succ n, Nat.add s sz, cs'))
    | _ => match nth cs (Nat.div n 16) with
      | none => z
      | some ch => appc ch c (fun ch' => setc cs (Nat.div n 16) ch' (fun cs' => f (Nat.succ n, Nat.add s sz, cs')) z)) := by
    unfold hpush
    dsimp only
    rw [fo_eq]
  by_cases hn : n % 16 = 0
  · refine ⟨(n + 1, s + sz, cs ++ [[c]]), ?_, rfl, rfl, ⟨by simp; omega, fun i d hd => ?_⟩, fun j => ?_⟩
    · rw [hex, show Nat.mod n 16 = 0 from hn]
      show appc cs [c] _ = _
      rw [appc_eq]
      rfl
    · dsimp only at hd ⊢
      by_cases hi : i < cs.length
      · rw [List.getElem?_append_left hi] at hd
        rw [hw2 _ _ hd]; omega
      · rw [List.getElem?_append_right (by omega)] at hd
        have h0 : i - cs.length < 1 := (List.getElem?_eq_some_iff.mp hd).1
        rw [show i - cs.length = 0 by omega] at hd
        cases hd
        show 1 = _
        omega
    · rw [hat_eq, hat_eq]
      dsimp only
      by_cases hi : j / 16 < cs.length
      · rw [List.getElem?_append_left hi, if_neg (by omega)]
      · rw [List.getElem?_append_right (by omega)]
        rw [show cs[j / 16]? = none from List.getElem?_eq_none (by omega)]
        by_cases hj : j / 16 = cs.length
        · rw [show j / 16 - cs.length = 0 by omega]
          show [c][j % 16]? = _
          by_cases hjn : j = n
          · rw [if_pos hjn, show j % 16 = 0 by omega]; try rfl
          · rw [if_neg hjn]
            exact List.getElem?_eq_none (by simp; omega)
        · rw [show ([[c]] : List (List dC))[j / 16 - cs.length]? = none from List.getElem?_eq_none (by simp; omega), if_neg (by omega)]
  · have hlt : n / 16 < cs.length := by omega
    obtain ⟨ch, hc⟩ : ∃ ch, cs[n / 16]? = some ch := ⟨_, List.getElem?_eq_getElem hlt⟩
    have hl := hw2 _ _ hc
    refine ⟨(n + 1, s + sz, cs.set (n / 16) (ch ++ [c])), ?_, rfl, rfl, ⟨by simp; omega, fun i d hd => ?_⟩, fun j => ?_⟩
    · rw [hex]
      obtain ⟨r, hr⟩ : ∃ r, Nat.mod n 16 = r + 1 := ⟨n % 16 - 1, by show n % 16 = _; omega⟩
      rw [hr]
      show (match nth cs (Nat.div n 16) with | none => z | some ch => _) = _
      rw [nth_eq, show cs[Nat.div n 16]? = some ch from hc]
      dsimp only
      rw [appc_eq, setc_eq, if_pos (show Nat.div n 16 < cs.length from hlt)]
      rfl
    · dsimp only at hd ⊢
      rw [List.getElem?_set] at hd
      split at hd
      · rename_i hi
        subst hi
        cases hd
        rw [List.length_append, hl]
        simp
        omega
      · rw [hw2 _ _ hd]
        have h0 := (List.getElem?_eq_some_iff.mp hd).1
        omega
    · rw [hat_eq, hat_eq]
      dsimp only
      rw [List.getElem?_set]
      by_cases hj : n / 16 = j / 16
      · rw [if_pos hj, if_pos hlt, ← hj, hc]
        show (ch ++ [c])[j % 16]? = if j = n then some c else ch[j % 16]?
        by_cases hm : j % 16 < ch.length
        · rw [List.getElem?_append_left hm, if_neg (by omega)]
        · rw [List.getElem?_append_right (by omega), show ch[j % 16]? = none from List.getElem?_eq_none (by omega)]
          by_cases hjn : j = n
          · rw [if_pos hjn, show j % 16 - ch.length = 0 by omega]; rfl
          · rw [if_neg hjn]
            exact List.getElem?_eq_none (by simp; omega)
      · rw [if_neg hj, if_neg (by omega)]
end
section
/-! ===== names (the printed ones of this claim), and tables of words out of them ===== -/
def RX0 : String := "ItemJudge$Checker"
def TX0 : u_T := fun k => match k with
  | 0 => ("ItemJudge$Checker", "rules", "LItemJudge$Rules;", false)
  | 1 => ("ItemJudge$Checker", "tokens", "LItemJudge$Tokens;", false)
  | 2 => ("ItemJudge$Checker", "tree", "LItemJudge$Tree;", false)
  | 3 => ("ItemJudge$Checker", "blamed", "I", false)
  | _ => ("ItemJudge$Checker", "fault", "I", false)
def tyX0 : Nat → FieldType := fun k => match k with
  | 0 => .object "ItemJudge$Rules"
  | 1 => .object "ItemJudge$Tokens"
  | 2 => .object "ItemJudge$Tree"
  | 3 => .int
  | _ => .int
abbrev wsX00 : List Cond := u_ws RX0 TX0 5
theorem nmX0 : ∀ a, a < 5 → ∀ b, b < 5 → a ≠ b → (TX0 a).2.1 ≠ (TX0 b).2.1 := by decide +kernel
theorem tyX0_ok : ∀ k, k < 5 → parseFieldDescriptor (TX0 k).2.2.1 = some (tyX0 k) := by decide +kernel
abbrev cX0_init : ByteArray := prog_2_method_1_code
def yX0_init : MethodName := ⟨RX0, "<init>", "(LItemJudge$Rules;)V"⟩
abbrev cX0_blamedToken : ByteArray := prog_2_method_2_code
def yX0_blamedToken : MethodName := ⟨RX0, "blamedToken", "()I"⟩
abbrev cX0_firstFault : ByteArray := prog_2_method_3_code
def yX0_firstFault : MethodName := ⟨RX0, "firstFault", "(LItemJudge$Rules;)I"⟩
abbrev cX0_bind : ByteArray := prog_2_method_4_code
def yX0_bind : MethodName := ⟨RX0, "bind", "(LItemJudge$Rules;)V"⟩
abbrev cX0_blame : ByteArray := prog_2_method_5_code
def yX0_blame : MethodName := ⟨RX0, "blame", "(II)V"⟩
abbrev cX0_collect : ByteArray := prog_2_method_6_code
def yX0_collect : MethodName := ⟨RX0, "collect", "(I)V"⟩
abbrev cX0_sameParams : ByteArray := prog_2_method_7_code
def yX0_sameParams : MethodName := ⟨RX0, "sameParams", "(II)Z"⟩
abbrev cX0_checkParams : ByteArray := prog_2_method_8_code
def yX0_checkParams : MethodName := ⟨RX0, "checkParams", "(I)V"⟩
abbrev cX0_bindNode : ByteArray := prog_2_method_9_code
def yX0_bindNode : MethodName := ⟨RX0, "bindNode", "(I)V"⟩
abbrev cX0_tellsGroup : ByteArray := prog_2_method_10_code
def yX0_tellsGroup : MethodName := ⟨RX0, "tellsGroup", "(I)Z"⟩
abbrev cX0_link : ByteArray := prog_2_method_11_code
def yX0_link : MethodName := ⟨RX0, "link", "(I)V"⟩
abbrev cX0_checkFloats : ByteArray := prog_2_method_12_code
def yX0_checkFloats : MethodName := ⟨RX0, "checkFloats", "()V"⟩
abbrev cX0_checkNode : ByteArray := prog_2_method_13_code
def yX0_checkNode : MethodName := ⟨RX0, "checkNode", "(I)V"⟩
abbrev cX0_checkName : ByteArray := prog_2_method_14_code
def yX0_checkName : MethodName := ⟨RX0, "checkName", "(II)V"⟩
abbrev cX0_canUnwrap : ByteArray := prog_2_method_15_code
def yX0_canUnwrap : MethodName := ⟨RX0, "canUnwrap", "(II)Z"⟩
abbrev cX0_needNumber : ByteArray := prog_2_method_16_code
def yX0_needNumber : MethodName := ⟨RX0, "needNumber", "(I)V"⟩
abbrev cX0_checkControl : ByteArray := prog_2_method_17_code
def yX0_checkControl : MethodName := ⟨RX0, "checkControl", "(II)V"⟩
abbrev cX0_nameEntries : ByteArray := prog_2_method_18_code
def yX0_nameEntries : MethodName := ⟨RX0, "nameEntries", "()V"⟩
abbrev cX0_keepBoxes : ByteArray := prog_2_method_19_code
def yX0_keepBoxes : MethodName := ⟨RX0, "keepBoxes", "()V"⟩
def RX1 : String := "ItemJudge$Instances"
def TX1 : u_T := fun k => match k with
  | 0 => ("ItemJudge$Instances", "tree", "LItemJudge$Tree;", true)
  | 1 => ("ItemJudge$Instances", "calls", "[I", true)
  | 2 => ("ItemJudge$Instances", "madeOf", "[I", true)
  | 3 => ("ItemJudge$Instances", "argument", "[I", true)
  | 4 => ("ItemJudge$Instances", "argumentIn", "[I", true)
  | 5 => ("ItemJudge$Instances", "newArgument", "[I", true)
  | 6 => ("ItemJudge$Instances", "newIn", "[I", true)
  | 7 => ("ItemJudge$Instances", "count", "I", false)
  | 8 => ("ItemJudge$Instances", "box", "I", false)
  | 9 => ("ItemJudge$Instances", "boxIn", "I", false)
  | 10 => ("ItemJudge$Instances", "head", "I", false)
  | 11 => ("ItemJudge$Instances", "headIn", "I", false)
  | _ => ("ItemJudge$Instances", "spot", "I", false)
def tyX1 : Nat → FieldType := fun k => match k with
  | 0 => .object "ItemJudge$Tree"
  | 1 => .array .int
  | 2 => .array .int
  | 3 => .array .int
  | 4 => .array .int
  | 5 => .array .int
  | 6 => .array .int
  | 7 => .int
  | 8 => .int
  | 9 => .int
  | 10 => .int
  | 11 => .int
  | _ => .int
abbrev wsX10 : List Cond := u_ws RX1 TX1 13
theorem nmX1 : ∀ a, a < 13 → ∀ b, b < 13 → a ≠ b → (TX1 a).2.1 ≠ (TX1 b).2.1 := by decide +kernel
theorem tyX1_ok : ∀ k, k < 13 → parseFieldDescriptor (TX1 k).2.2.1 = some (tyX1 k) := by decide +kernel
abbrev cX1_init : ByteArray := prog_3_method_1_code
def yX1_init : MethodName := ⟨RX1, "<init>", "(LItemJudge$Tree;)V"⟩
abbrev cX1_ruleOf : ByteArray := prog_3_method_2_code
def yX1_ruleOf : MethodName := ⟨RX1, "ruleOf", "(I)I"⟩
abbrev cX1_argumentOf : ByteArray := prog_3_method_3_code
def yX1_argumentOf : MethodName := ⟨RX1, "argumentOf", "(II)I"⟩
abbrev cX1_argumentPlace : ByteArray := prog_3_method_4_code
def yX1_argumentPlace : MethodName := ⟨RX1, "argumentPlace", "(II)I"⟩
abbrev cX1_lead : ByteArray := prog_3_method_5_code
def yX1_lead : MethodName := ⟨RX1, "lead", "(II)I"⟩
abbrev cX1_unwrap : ByteArray := prog_3_method_6_code
def yX1_unwrap : MethodName := ⟨RX1, "unwrap", "(LItemJudge$Rules;II)V"⟩
abbrev cX1_follow : ByteArray := prog_3_method_7_code
def yX1_follow : MethodName := ⟨RX1, "follow", "(LItemJudge$Rules;II)V"⟩
abbrev cX1_ledTo : ByteArray := prog_3_method_8_code
def yX1_ledTo : MethodName := ⟨RX1, "ledTo", "(I)I"⟩
abbrev cX1_fill : ByteArray := prog_3_method_9_code
def yX1_fill : MethodName := ⟨RX1, "fill", "(LItemJudge$Rules;)Z"⟩
abbrev cX1_numberCalls : ByteArray := prog_3_method_10_code
def yX1_numberCalls : MethodName := ⟨RX1, "numberCalls", "(LItemJudge$Rules;)V"⟩
abbrev cX1_callAll : ByteArray := prog_3_method_11_code
def yX1_callAll : MethodName := ⟨RX1, "callAll", "(LItemJudge$Rules;II)Z"⟩
abbrev cX1_callStatement : ByteArray := prog_3_method_12_code
def yX1_callStatement : MethodName := ⟨RX1, "callStatement", "(LItemJudge$Rules;II)Z"⟩
abbrev cX1_called : ByteArray := prog_3_method_13_code
def yX1_called : MethodName := ⟨RX1, "called", "(LItemJudge$Rules;II)I"⟩
abbrev cX1_bindArgument : ByteArray := prog_3_method_14_code
def yX1_bindArgument : MethodName := ⟨RX1, "bindArgument", "(LItemJudge$Rules;III)V"⟩
abbrev cX1_hasParams : ByteArray := prog_3_method_15_code
def yX1_hasParams : MethodName := ⟨RX1, "hasParams", "(I)Z"⟩
abbrev cX1_holdsParams : ByteArray := prog_3_method_16_code
def yX1_holdsParams : MethodName := ⟨RX1, "holdsParams", "(I)Z"⟩
abbrev cX1_sameArguments : ByteArray := prog_3_method_17_code
def yX1_sameArguments : MethodName := ⟨RX1, "sameArguments", "(II)Z"⟩
def RX2 : String := "ItemJudge$Items"
def TX2 : u_T := fun k => match k with
  | 0 => ("ItemJudge$Items", "data", "[B", true)
  | 1 => ("ItemJudge$Items", "major", "[I", true)
  | 2 => ("ItemJudge$Items", "width", "[I", true)
  | 3 => ("ItemJudge$Items", "start", "[I", true)
  | 4 => ("ItemJudge$Items", "behind", "[I", true)
  | 5 => ("ItemJudge$Items", "parent", "[I", true)
  | 6 => ("ItemJudge$Items", "after", "[I", true)
  | 7 => ("ItemJudge$Items", "depth", "[I", true)
  | 8 => ("ItemJudge$Items", "level", "[I", true)
  | 9 => ("ItemJudge$Items", "content", "[I", true)
  | 10 => ("ItemJudge$Items", "inside", "[I", true)
  | 11 => ("ItemJudge$Items", "number", "[J", true)
  | 12 => ("ItemJudge$Items", "top", "I", false)
  | 13 => ("ItemJudge$Items", "topJoined", "I", false)
  | 14 => ("ItemJudge$Items", "count", "I", false)
  | 15 => ("ItemJudge$Items", "limit", "I", false)
  | 16 => ("ItemJudge$Items", "region", "I", false)
  | 17 => ("ItemJudge$Items", "stop", "I", false)
  | 18 => ("ItemJudge$Items", "joined", "I", false)
  | _ => ("ItemJudge$Items", "fault", "I", false)
def tyX2 : Nat → FieldType := fun k => match k with
  | 0 => .array .byte
  | 1 => .array .int
  | 2 => .array .int
  | 3 => .array .int
  | 4 => .array .int
  | 5 => .array .int
  | 6 => .array .int
  | 7 => .array .int
  | 8 => .array .int
  | 9 => .array .int
  | 10 => .array .int
  | 11 => .array .long
  | 12 => .int
  | 13 => .int
  | 14 => .int
  | 15 => .int
  | 16 => .int
  | 17 => .int
  | 18 => .int
  | _ => .int
abbrev wsX20 : List Cond := u_ws RX2 TX2 20
theorem nmX2 : ∀ a, a < 20 → ∀ b, b < 20 → a ≠ b → (TX2 a).2.1 ≠ (TX2 b).2.1 := by decide +kernel
theorem tyX2_ok : ∀ k, k < 20 → parseFieldDescriptor (TX2 k).2.2.1 = some (tyX2 k) := by decide +kernel
abbrev cX2_init : ByteArray := prog_4_method_1_code
def yX2_init : MethodName := ⟨RX2, "<init>", "()V"⟩
abbrev cX2_isTop : ByteArray := prog_4_method_2_code
def yX2_isTop : MethodName := ⟨RX2, "isTop", "(I)Z"⟩
abbrev cX2_size : ByteArray := prog_4_method_3_code
def yX2_size : MethodName := ⟨RX2, "size", "()I"⟩
abbrev cX2_faultPlace : ByteArray := prog_4_method_4_code
def yX2_faultPlace : MethodName := ⟨RX2, "faultPlace", "()I"⟩
abbrev cX2_majorOf : ByteArray := prog_4_method_5_code
def yX2_majorOf : MethodName := ⟨RX2, "majorOf", "(I)I"⟩
abbrev cX2_numberOf : ByteArray := prog_4_method_6_code
def yX2_numberOf : MethodName := ⟨RX2, "numberOf", "(I)J"⟩
abbrev cX2_widthOf : ByteArray := prog_4_method_7_code
def yX2_widthOf : MethodName := ⟨RX2, "widthOf", "(I)I"⟩
abbrev cX2_afterOf : ByteArray := prog_4_method_8_code
def yX2_afterOf : MethodName := ⟨RX2, "afterOf", "(I)I"⟩
abbrev cX2_startOf : ByteArray := prog_4_method_9_code
def yX2_startOf : MethodName := ⟨RX2, "startOf", "(I)I"⟩
abbrev cX2_behindOf : ByteArray := prog_4_method_10_code
def yX2_behindOf : MethodName := ⟨RX2, "behindOf", "(I)I"⟩
abbrev cX2_byteOf : ByteArray := prog_4_method_11_code
def yX2_byteOf : MethodName := ⟨RX2, "byteOf", "(IJ)I"⟩
abbrev cX2_dataAt : ByteArray := prog_4_method_12_code
def yX2_dataAt : MethodName := ⟨RX2, "dataAt", "(I)I"⟩
abbrev cX2_told : ByteArray := prog_4_method_13_code
def yX2_told : MethodName := ⟨RX2, "told", "(II)J"⟩
abbrev cX2_take : ByteArray := prog_4_method_14_code
def yX2_take : MethodName := ⟨RX2, "take", "([BI)Z"⟩
abbrev cX2_readWhole : ByteArray := prog_4_method_15_code
def yX2_readWhole : MethodName := ⟨RX2, "readWhole", "([BIII)Z"⟩
abbrev cX2_open : ByteArray := prog_4_method_16_code
def yX2_open : MethodName := ⟨RX2, "open", "(III)V"⟩
abbrev cX2_within : ByteArray := prog_4_method_17_code
def yX2_within : MethodName := ⟨RX2, "within", "(I)I"⟩
abbrev cX2_bad : ByteArray := prog_4_method_18_code
def yX2_bad : MethodName := ⟨RX2, "bad", "(I)I"⟩
abbrev cX2_readItem : ByteArray := prog_4_method_19_code
def yX2_readItem : MethodName := ⟨RX2, "readItem", "(III)I"⟩
abbrev cX2_readHead : ByteArray := prog_4_method_20_code
def yX2_readHead : MethodName := ⟨RX2, "readHead", "(II)I"⟩
abbrev cX2_readString : ByteArray := prog_4_method_21_code
def yX2_readString : MethodName := ⟨RX2, "readString", "(III)I"⟩
abbrev cX2_behindBytes : ByteArray := prog_4_method_22_code
def yX2_behindBytes : MethodName := ⟨RX2, "behindBytes", "(IJ)I"⟩
abbrev cX2_readPartHead : ByteArray := prog_4_method_23_code
def yX2_readPartHead : MethodName := ⟨RX2, "readPartHead", "(I)I"⟩
abbrev cX2_partSize : ByteArray := prog_4_method_24_code
def yX2_partSize : MethodName := ⟨RX2, "partSize", "(I)J"⟩
abbrev cX2_partStart : ByteArray := prog_4_method_25_code
def yX2_partStart : MethodName := ⟨RX2, "partStart", "(I)I"⟩
abbrev cX2_readList : ByteArray := prog_4_method_26_code
def yX2_readList : MethodName := ⟨RX2, "readList", "(IIII)I"⟩
def RX3 : String := "ItemJudge$Judge"
def TX3 : u_T := fun k => match k with
  | 0 => ("ItemJudge$Judge", "rules", "LItemJudge$Rules;", false)
  | 1 => ("ItemJudge$Judge", "tree", "LItemJudge$Tree;", false)
  | 2 => ("ItemJudge$Judge", "instances", "LItemJudge$Instances;", false)
  | 3 => ("ItemJudge$Judge", "items", "LItemJudge$Items;", true)
  | 4 => ("ItemJudge$Judge", "memo", "LItemJudge$Memo;", true)
  | 5 => ("ItemJudge$Judge", "leaves", "LItemJudge$Leaves;", true)
  | 6 => ("ItemJudge$Judge", "frames", "[I", true)
  | 7 => ("ItemJudge$Judge", "top", "I", false)
  | 8 => ("ItemJudge$Judge", "goNode", "I", false)
  | 9 => ("ItemJudge$Judge", "goIn", "I", false)
  | 10 => ("ItemJudge$Judge", "goItem", "I", false)
  | 11 => ("ItemJudge$Judge", "group", "I", false)
  | 12 => ("ItemJudge$Judge", "groupIn", "I", false)
  | 13 => ("ItemJudge$Judge", "fits", "[I", true)
  | 14 => ("ItemJudge$Judge", "fitted", "I", false)
  | 15 => ("ItemJudge$Judge", "wayKnown", "[J", true)
  | _ => ("ItemJudge$Judge", "wayEnds", "[J", true)
def tyX3 : Nat → FieldType := fun k => match k with
  | 0 => .object "ItemJudge$Rules"
  | 1 => .object "ItemJudge$Tree"
  | 2 => .object "ItemJudge$Instances"
  | 3 => .object "ItemJudge$Items"
  | 4 => .object "ItemJudge$Memo"
  | 5 => .object "ItemJudge$Leaves"
  | 6 => .array .int
  | 7 => .int
  | 8 => .int
  | 9 => .int
  | 10 => .int
  | 11 => .int
  | 12 => .int
  | 13 => .array .int
  | 14 => .int
  | 15 => .array .long
  | _ => .array .long
abbrev wsX30 : List Cond := u_ws RX3 TX3 17
theorem nmX3 : ∀ a, a < 17 → ∀ b, b < 17 → a ≠ b → (TX3 a).2.1 ≠ (TX3 b).2.1 := by decide +kernel
theorem tyX3_ok : ∀ k, k < 17 → parseFieldDescriptor (TX3 k).2.2.1 = some (tyX3 k) := by decide +kernel
abbrev cX3_init : ByteArray := prog_5_method_1_code
def yX3_init : MethodName := ⟨RX3, "<init>", "(LItemJudge$Rules;LItemJudge$Items;LItemJudge$Memo;)V"⟩
abbrev cX3_obey : ByteArray := prog_5_method_2_code
def yX3_obey : MethodName := ⟨RX3, "obey", "(LItemJudge$Rules;)V"⟩
abbrev cX3_says : ByteArray := prog_5_method_3_code
def yX3_says : MethodName := ⟨RX3, "says", "(II)Z"⟩
abbrev cX3_goTo : ByteArray := prog_5_method_4_code
def yX3_goTo : MethodName := ⟨RX3, "goTo", "(III)I"⟩
abbrev cX3_look : ByteArray := prog_5_method_5_code
def yX3_look : MethodName := ⟨RX3, "look", "(II)I"⟩
abbrev cX3_set : ByteArray := prog_5_method_6_code
def yX3_set : MethodName := ⟨RX3, "set", "(III)V"⟩
abbrev cX3_push : ByteArray := prog_5_method_7_code
def yX3_push : MethodName := ⟨RX3, "push", "(IIII)I"⟩
abbrev cX3_enter : ByteArray := prog_5_method_8_code
def yX3_enter : MethodName := ⟨RX3, "enter", "(III)I"⟩
abbrev cX3_enterNamed : ByteArray := prog_5_method_9_code
def yX3_enterNamed : MethodName := ⟨RX3, "enterNamed", "(III)I"⟩
abbrev cX3_leave : ByteArray := prog_5_method_10_code
def yX3_leave : MethodName := ⟨RX3, "leave", "(II)I"⟩
abbrev cX3_kept : ByteArray := prog_5_method_11_code
def yX3_kept : MethodName := ⟨RX3, "kept", "(III)I"⟩
abbrev cX3_check : ByteArray := prog_5_method_12_code
def yX3_check : MethodName := ⟨RX3, "check", "(III)I"⟩
abbrev cX3_enterArray : ByteArray := prog_5_method_13_code
def yX3_enterArray : MethodName := ⟨RX3, "enterArray", "(III)I"⟩
abbrev cX3_pushGroup : ByteArray := prog_5_method_14_code
def yX3_pushGroup : MethodName := ⟨RX3, "pushGroup", "(IIIII)V"⟩
abbrev cX3_beginChoice : ByteArray := prog_5_method_15_code
def yX3_beginChoice : MethodName := ⟨RX3, "beginChoice", "(II)V"⟩
abbrev cX3_beginEntry : ByteArray := prog_5_method_16_code
def yX3_beginEntry : MethodName := ⟨RX3, "beginEntry", "(II)V"⟩
abbrev cX3_findGroup : ByteArray := prog_5_method_17_code
def yX3_findGroup : MethodName := ⟨RX3, "findGroup", "(II)V"⟩
abbrev cX3_goOn : ByteArray := prog_5_method_18_code
def yX3_goOn : MethodName := ⟨RX3, "goOn", "()I"⟩
abbrev cX3_known : ByteArray := prog_5_method_19_code
def yX3_known : MethodName := ⟨RX3, "known", "(II)I"⟩
abbrev cX3_ended : ByteArray := prog_5_method_20_code
def yX3_ended : MethodName := ⟨RX3, "ended", "(II)I"⟩
abbrev cX3_gained : ByteArray := prog_5_method_21_code
def yX3_gained : MethodName := ⟨RX3, "gained", "(II)I"⟩
abbrev cX3_take : ByteArray := prog_5_method_22_code
def yX3_take : MethodName := ⟨RX3, "take", "(III)V"⟩
abbrev cX3_endEntry : ByteArray := prog_5_method_23_code
def yX3_endEntry : MethodName := ⟨RX3, "endEntry", "(II)V"⟩
abbrev cX3_enterMap : ByteArray := prog_5_method_24_code
def yX3_enterMap : MethodName := ⟨RX3, "enterMap", "(III)I"⟩
abbrev cX3_goFit : ByteArray := prog_5_method_25_code
def yX3_goFit : MethodName := ⟨RX3, "goFit", "()I"⟩
abbrev cX3_asksMore : ByteArray := prog_5_method_26_code
def yX3_asksMore : MethodName := ⟨RX3, "asksMore", "(II)Z"⟩
abbrev cX3_ask : ByteArray := prog_5_method_27_code
def yX3_ask : MethodName := ⟨RX3, "ask", "(II)I"⟩
abbrev cX3_answered : ByteArray := prog_5_method_28_code
def yX3_answered : MethodName := ⟨RX3, "answered", "(II)I"⟩
abbrev cX3_isGiven : ByteArray := prog_5_method_29_code
def yX3_isGiven : MethodName := ⟨RX3, "isGiven", "(II)Z"⟩
abbrev cX3_ways : ByteArray := prog_5_method_30_code
def yX3_ways : MethodName := ⟨RX3, "ways", "(IIII)J"⟩
abbrev cX3_throughGroup : ByteArray := prog_5_method_31_code
def yX3_throughGroup : MethodName := ⟨RX3, "throughGroup", "(IIJI)J"⟩
abbrev cX3_waysWithin : ByteArray := prog_5_method_32_code
def yX3_waysWithin : MethodName := ⟨RX3, "waysWithin", "(IIII)J"⟩
abbrev cX3_choicesOf : ByteArray := prog_5_method_33_code
def yX3_choicesOf : MethodName := ⟨RX3, "choicesOf", "(I)I"⟩
abbrev cX3_giveTo : ByteArray := prog_5_method_34_code
def yX3_giveTo : MethodName := ⟨RX3, "giveTo", "(IIJ)J"⟩
def RX4 : String := "ItemJudge$Leaves"
def TX4 : u_T := fun k => match k with
  | 0 => ("ItemJudge$Leaves", "rules", "LItemJudge$Rules;", false)
  | 1 => ("ItemJudge$Leaves", "tokens", "LItemJudge$Tokens;", false)
  | 2 => ("ItemJudge$Leaves", "tree", "LItemJudge$Tree;", false)
  | 3 => ("ItemJudge$Leaves", "instances", "LItemJudge$Instances;", false)
  | 4 => ("ItemJudge$Leaves", "items", "LItemJudge$Items;", true)
  | 5 => ("ItemJudge$Leaves", "firstMask", "[J", true)
  | 6 => ("ItemJudge$Leaves", "firstStamp", "[I", true)
  | 7 => ("ItemJudge$Leaves", "lateMask", "[J", true)
  | 8 => ("ItemJudge$Leaves", "lateKey", "[J", true)
  | _ => ("ItemJudge$Leaves", "stamp", "I", false)
def tyX4 : Nat → FieldType := fun k => match k with
  | 0 => .object "ItemJudge$Rules"
  | 1 => .object "ItemJudge$Tokens"
  | 2 => .object "ItemJudge$Tree"
  | 3 => .object "ItemJudge$Instances"
  | 4 => .object "ItemJudge$Items"
  | 5 => .array .long
  | 6 => .array .int
  | 7 => .array .long
  | 8 => .array .long
  | _ => .int
abbrev wsX40 : List Cond := u_ws RX4 TX4 10
theorem nmX4 : ∀ a, a < 10 → ∀ b, b < 10 → a ≠ b → (TX4 a).2.1 ≠ (TX4 b).2.1 := by decide +kernel
theorem tyX4_ok : ∀ k, k < 10 → parseFieldDescriptor (TX4 k).2.2.1 = some (tyX4 k) := by decide +kernel
abbrev cX4_init : ByteArray := prog_6_method_1_code
def yX4_init : MethodName := ⟨RX4, "<init>", "(LItemJudge$Rules;LItemJudge$Items;)V"⟩
abbrev cX4_obey : ByteArray := prog_6_method_2_code
def yX4_obey : MethodName := ⟨RX4, "obey", "(LItemJudge$Rules;)V"⟩
abbrev cX4_isSo : ByteArray := prog_6_method_3_code
def yX4_isSo : MethodName := ⟨RX4, "isSo", "(II)Z"⟩
abbrev cX4_isTag : ByteArray := prog_6_method_4_code
def yX4_isTag : MethodName := ⟨RX4, "isTag", "(II)Z"⟩
abbrev cX4_compares : ByteArray := prog_6_method_5_code
def yX4_compares : MethodName := ⟨RX4, "compares", "(III)Z"⟩
abbrev cX4_isNumber : ByteArray := prog_6_method_6_code
def yX4_isNumber : MethodName := ⟨RX4, "isNumber", "(I)Z"⟩
abbrev cX4_inRange : ByteArray := prog_6_method_7_code
def yX4_inRange : MethodName := ⟨RX4, "inRange", "(II)Z"⟩
abbrev cX4_compare : ByteArray := prog_6_method_8_code
def yX4_compare : MethodName := ⟨RX4, "compare", "(II)I"⟩
abbrev cX4_hasBytes : ByteArray := prog_6_method_9_code
def yX4_hasBytes : MethodName := ⟨RX4, "hasBytes", "(II)Z"⟩
abbrev cX4_isSimple : ByteArray := prog_6_method_10_code
def yX4_isSimple : MethodName := ⟨RX4, "isSimple", "(II)Z"⟩
abbrev cX4_hasSize : ByteArray := prog_6_method_11_code
def yX4_hasSize : MethodName := ⟨RX4, "hasSize", "(III)Z"⟩
abbrev cX4_hasBits : ByteArray := prog_6_method_12_code
def yX4_hasBits : MethodName := ⟨RX4, "hasBits", "(III)Z"⟩
abbrev cX4_mask : ByteArray := prog_6_method_13_code
def yX4_mask : MethodName := ⟨RX4, "mask", "(IIII)J"⟩
abbrev cX4_maskOf : ByteArray := prog_6_method_14_code
def yX4_maskOf : MethodName := ⟨RX4, "maskOf", "(IIII)J"⟩
abbrev cX4_maskNamed : ByteArray := prog_6_method_15_code
def yX4_maskNamed : MethodName := ⟨RX4, "maskNamed", "(IIII)J"⟩
abbrev cX4_maskControl : ByteArray := prog_6_method_16_code
def yX4_maskControl : MethodName := ⟨RX4, "maskControl", "(IIII)J"⟩
abbrev cX4_sized : ByteArray := prog_6_method_17_code
def yX4_sized : MethodName := ⟨RX4, "sized", "(JI)J"⟩
abbrev cX4_withBits : ByteArray := prog_6_method_18_code
def yX4_withBits : MethodName := ⟨RX4, "withBits", "(JI)J"⟩
abbrev cX4_maskLeaf : ByteArray := prog_6_method_19_code
def yX4_maskLeaf : MethodName := ⟨RX4, "maskLeaf", "(II)J"⟩
abbrev cX4_numberOf : ByteArray := prog_6_method_20_code
def yX4_numberOf : MethodName := ⟨RX4, "numberOf", "(I)J"⟩
abbrev cX4_range : ByteArray := prog_6_method_21_code
def yX4_range : MethodName := ⟨RX4, "range", "(JJI)J"⟩
def RX5 : String := "ItemJudge$Limits"
def TX5 : u_T := fun k => match k with
  | 0 => ("ItemJudge$Limits", "rules", "LItemJudge$Rules;", false)
  | 1 => ("ItemJudge$Limits", "tree", "LItemJudge$Tree;", false)
  | 2 => ("ItemJudge$Limits", "instances", "LItemJudge$Instances;", false)
  | 3 => ("ItemJudge$Limits", "seen", "[I", true)
  | 4 => ("ItemJudge$Limits", "queue", "[I", true)
  | 5 => ("ItemJudge$Limits", "queued", "I", false)
  | 6 => ("ItemJudge$Limits", "round", "I", false)
  | 7 => ("ItemJudge$Limits", "used", "I", false)
  | 8 => ("ItemJudge$Limits", "depths", "[I", true)
  | 9 => ("ItemJudge$Limits", "inside", "[I", true)
  | 10 => ("ItemJudge$Limits", "argumentDepths", "[I", true)
  | _ => ("ItemJudge$Limits", "changed", "Z", false)
def tyX5 : Nat → FieldType := fun k => match k with
  | 0 => .object "ItemJudge$Rules"
  | 1 => .object "ItemJudge$Tree"
  | 2 => .object "ItemJudge$Instances"
  | 3 => .array .int
  | 4 => .array .int
  | 5 => .int
  | 6 => .int
  | 7 => .int
  | 8 => .array .int
  | 9 => .array .int
  | 10 => .array .int
  | _ => .boolean
abbrev wsX50 : List Cond := u_ws RX5 TX5 12
theorem nmX5 : ∀ a, a < 12 → ∀ b, b < 12 → a ≠ b → (TX5 a).2.1 ≠ (TX5 b).2.1 := by decide +kernel
theorem tyX5_ok : ∀ k, k < 12 → parseFieldDescriptor (TX5 k).2.2.1 = some (tyX5 k) := by decide +kernel
abbrev cX5_init : ByteArray := prog_7_method_1_code
def yX5_init : MethodName := ⟨RX5, "<init>", "(LItemJudge$Rules;)V"⟩
abbrev cX5_firstLoop : ByteArray := prog_7_method_2_code
def yX5_firstLoop : MethodName := ⟨RX5, "firstLoop", "(LItemJudge$Rules;)I"⟩
abbrev cX5_meetsItself : ByteArray := prog_7_method_3_code
def yX5_meetsItself : MethodName := ⟨RX5, "meetsItself", "(I)Z"⟩
abbrev cX5_ownBox : ByteArray := prog_7_method_4_code
def yX5_ownBox : MethodName := ⟨RX5, "ownBox", "(I)I"⟩
abbrev cX5_context : ByteArray := prog_7_method_5_code
def yX5_context : MethodName := ⟨RX5, "context", "(I)I"⟩
abbrev cX5_reach : ByteArray := prog_7_method_6_code
def yX5_reach : MethodName := ⟨RX5, "reach", "(IZ)V"⟩
abbrev cX5_see : ByteArray := prog_7_method_7_code
def yX5_see : MethodName := ⟨RX5, "see", "(I)V"⟩
abbrev cX5_leadOn : ByteArray := prog_7_method_8_code
def yX5_leadOn : MethodName := ⟨RX5, "leadOn", "(I)V"⟩
abbrev cX5_leadOnIn : ByteArray := prog_7_method_9_code
def yX5_leadOnIn : MethodName := ⟨RX5, "leadOnIn", "(II)V"⟩
abbrev cX5_groupsTooLarge : ByteArray := prog_7_method_10_code
def yX5_groupsTooLarge : MethodName := ⟨RX5, "groupsTooLarge", "()Z"⟩
abbrev cX5_countEntry : ByteArray := prog_7_method_11_code
def yX5_countEntry : MethodName := ⟨RX5, "countEntry", "(I)I"⟩
abbrev cX5_countWithin : ByteArray := prog_7_method_12_code
def yX5_countWithin : MethodName := ⟨RX5, "countWithin", "(I)I"⟩
abbrev cX5_weigh : ByteArray := prog_7_method_13_code
def yX5_weigh : MethodName := ⟨RX5, "weigh", "()V"⟩
abbrev cX5_markTied : ByteArray := prog_7_method_14_code
def yX5_markTied : MethodName := ⟨RX5, "markTied", "()V"⟩
abbrev cX5_tiesOf : ByteArray := prog_7_method_15_code
def yX5_tiesOf : MethodName := ⟨RX5, "tiesOf", "(I)I"⟩
abbrev cX5_placeEntries : ByteArray := prog_7_method_16_code
def yX5_placeEntries : MethodName := ⟨RX5, "placeEntries", "(I)I"⟩
abbrev cX5_pathsTooLong : ByteArray := prog_7_method_17_code
def yX5_pathsTooLong : MethodName := ⟨RX5, "pathsTooLong", "()Z"⟩
abbrev cX5_raise : ByteArray := prog_7_method_18_code
def yX5_raise : MethodName := ⟨RX5, "raise", "([III)V"⟩
abbrev cX5_measure : ByteArray := prog_7_method_19_code
def yX5_measure : MethodName := ⟨RX5, "measure", "(II)I"⟩
abbrev cX5_measureArguments : ByteArray := prog_7_method_20_code
def yX5_measureArguments : MethodName := ⟨RX5, "measureArguments", "(I)V"⟩
abbrev cX5_pathTo : ByteArray := prog_7_method_21_code
def yX5_pathTo : MethodName := ⟨RX5, "pathTo", "(II)I"⟩
abbrev cX5_behindName : ByteArray := prog_7_method_22_code
def yX5_behindName : MethodName := ⟨RX5, "behindName", "(III)I"⟩
def RX6 : String := "ItemJudge$Memo"
def TX6 : u_T := fun k => match k with
  | 0 => ("ItemJudge$Memo", "answers", "[J", false)
  | 1 => ("ItemJudge$Memo", "kept", "I", false)
  | _ => ("ItemJudge$Memo", "stamp", "J", false)
def tyX6 : Nat → FieldType := fun k => match k with
  | 0 => .array .long
  | 1 => .int
  | _ => .long
abbrev wsX60 : List Cond := u_ws RX6 TX6 3
theorem nmX6 : ∀ a, a < 3 → ∀ b, b < 3 → a ≠ b → (TX6 a).2.1 ≠ (TX6 b).2.1 := by decide +kernel
theorem tyX6_ok : ∀ k, k < 3 → parseFieldDescriptor (TX6 k).2.2.1 = some (tyX6 k) := by decide +kernel
abbrev cX6_init : ByteArray := prog_8_method_1_code
def yX6_init : MethodName := ⟨RX6, "<init>", "()V"⟩
abbrev cX6_renew : ByteArray := prog_8_method_2_code
def yX6_renew : MethodName := ⟨RX6, "renew", "()V"⟩
abbrev cX6_key : ByteArray := prog_8_method_3_code
def yX6_key : MethodName := ⟨RX6, "key", "(IIII)J"⟩
abbrev cX6_find : ByteArray := prog_8_method_4_code
def yX6_find : MethodName := ⟨RX6, "find", "(J)I"⟩
abbrev cX6_keep : ByteArray := prog_8_method_5_code
def yX6_keep : MethodName := ⟨RX6, "keep", "(JI)V"⟩
abbrev cX6_settle : ByteArray := prog_8_method_6_code
def yX6_settle : MethodName := ⟨RX6, "settle", "(J)V"⟩
abbrev cX6_grow : ByteArray := prog_8_method_7_code
def yX6_grow : MethodName := ⟨RX6, "grow", "()V"⟩
abbrev cX6_slot : ByteArray := prog_8_method_8_code
def yX6_slot : MethodName := ⟨RX6, "slot", "(J)I"⟩
def RX7 : String := "ItemJudge$Parser"
def TX7 : u_T := fun k => match k with
  | 0 => ("ItemJudge$Parser", "rules", "LItemJudge$Rules;", false)
  | 1 => ("ItemJudge$Parser", "tokens", "LItemJudge$Tokens;", false)
  | 2 => ("ItemJudge$Parser", "tree", "LItemJudge$Tree;", false)
  | 3 => ("ItemJudge$Parser", "p", "I", false)
  | 4 => ("ItemJudge$Parser", "failed", "I", false)
  | 5 => ("ItemJudge$Parser", "statement", "I", false)
  | 6 => ("ItemJudge$Parser", "guard", "I", false)
  | 7 => ("ItemJudge$Parser", "deep", "I", false)
  | 8 => ("ItemJudge$Parser", "whose", "I", false)
  | 9 => ("ItemJudge$Parser", "scanned", "I", false)
  | _ => ("ItemJudge$Parser", "onlyGroup", "[Z", true)
def tyX7 : Nat → FieldType := fun k => match k with
  | 0 => .object "ItemJudge$Rules"
  | 1 => .object "ItemJudge$Tokens"
  | 2 => .object "ItemJudge$Tree"
  | 3 => .int
  | 4 => .int
  | 5 => .int
  | 6 => .int
  | 7 => .int
  | 8 => .int
  | 9 => .int
  | _ => .array .boolean
abbrev wsX70 : List Cond := u_ws RX7 TX7 11
theorem nmX7 : ∀ a, a < 11 → ∀ b, b < 11 → a ≠ b → (TX7 a).2.1 ≠ (TX7 b).2.1 := by decide +kernel
theorem tyX7_ok : ∀ k, k < 11 → parseFieldDescriptor (TX7 k).2.2.1 = some (tyX7 k) := by decide +kernel
abbrev cX7_init : ByteArray := prog_9_method_1_code
def yX7_init : MethodName := ⟨RX7, "<init>", "(LItemJudge$Rules;)V"⟩
abbrev cX7_failedToken : ByteArray := prog_9_method_2_code
def yX7_failedToken : MethodName := ⟨RX7, "failedToken", "()I"⟩
abbrev cX7_readRules : ByteArray := prog_9_method_3_code
def yX7_readRules : MethodName := ⟨RX7, "readRules", "(LItemJudge$Rules;)Z"⟩
abbrev cX7_peek : ByteArray := prog_9_method_4_code
def yX7_peek : MethodName := ⟨RX7, "peek", "()I"⟩
abbrev cX7_fail : ByteArray := prog_9_method_5_code
def yX7_fail : MethodName := ⟨RX7, "fail", "()I"⟩
abbrev cX7_take : ByteArray := prog_9_method_6_code
def yX7_take : MethodName := ⟨RX7, "take", "(I)Z"⟩
abbrev cX7_grow : ByteArray := prog_9_method_7_code
def yX7_grow : MethodName := ⟨RX7, "grow", "(II)I"⟩
abbrev cX7_readStatement : ByteArray := prog_9_method_8_code
def yX7_readStatement : MethodName := ⟨RX7, "readStatement", "()Z"⟩
abbrev cX7_beginsBody : ByteArray := prog_9_method_9_code
def yX7_beginsBody : MethodName := ⟨RX7, "beginsBody", "(I)Z"⟩
abbrev cX7_behindParams : ByteArray := prog_9_method_10_code
def yX7_behindParams : MethodName := ⟨RX7, "behindParams", "(I)I"⟩
abbrev cX7_atStatementEnd : ByteArray := prog_9_method_11_code
def yX7_atStatementEnd : MethodName := ⟨RX7, "atStatementEnd", "()Z"⟩
abbrev cX7_readTypeBody : ByteArray := prog_9_method_12_code
def yX7_readTypeBody : MethodName := ⟨RX7, "readTypeBody", "(IZ)Z"⟩
abbrev cX7_goBack : ByteArray := prog_9_method_13_code
def yX7_goBack : MethodName := ⟨RX7, "goBack", "(IIIII)V"⟩
abbrev cX7_readType : ByteArray := prog_9_method_14_code
def yX7_readType : MethodName := ⟨RX7, "readType", "()I"⟩
abbrev cX7_readChoices : ByteArray := prog_9_method_15_code
def yX7_readChoices : MethodName := ⟨RX7, "readChoices", "(I)I"⟩
abbrev cX7_readType1 : ByteArray := prog_9_method_16_code
def yX7_readType1 : MethodName := ⟨RX7, "readType1", "()I"⟩
abbrev cX7_joined : ByteArray := prog_9_method_17_code
def yX7_joined : MethodName := ⟨RX7, "joined", "(IIII)I"⟩
abbrev cX7_controlNamed : ByteArray := prog_9_method_18_code
def yX7_controlNamed : MethodName := ⟨RX7, "controlNamed", "(I)I"⟩
abbrev cX7_readType2 : ByteArray := prog_9_method_19_code
def yX7_readType2 : MethodName := ⟨RX7, "readType2", "()I"⟩
abbrev cX7_readParen : ByteArray := prog_9_method_20_code
def yX7_readParen : MethodName := ⟨RX7, "readParen", "(I)I"⟩
abbrev cX7_readBox : ByteArray := prog_9_method_21_code
def yX7_readBox : MethodName := ⟨RX7, "readBox", "(II)I"⟩
abbrev cX7_readAndGroup : ByteArray := prog_9_method_22_code
def yX7_readAndGroup : MethodName := ⟨RX7, "readAndGroup", "(I)I"⟩
abbrev cX7_readHash : ByteArray := prog_9_method_23_code
def yX7_readHash : MethodName := ⟨RX7, "readHash", "(IJZ)I"⟩
abbrev cX7_readName : ByteArray := prog_9_method_24_code
def yX7_readName : MethodName := ⟨RX7, "readName", "(II)I"⟩
abbrev cX7_readArgument : ByteArray := prog_9_method_25_code
def yX7_readArgument : MethodName := ⟨RX7, "readArgument", "()I"⟩
abbrev cX7_readGroup : ByteArray := prog_9_method_26_code
def yX7_readGroup : MethodName := ⟨RX7, "readGroup", "()I"⟩
abbrev cX7_readEntries : ByteArray := prog_9_method_27_code
def yX7_readEntries : MethodName := ⟨RX7, "readEntries", "(I)Z"⟩
abbrev cX7_beginsEntry : ByteArray := prog_9_method_28_code
def yX7_beginsEntry : MethodName := ⟨RX7, "beginsEntry", "(I)Z"⟩
abbrev cX7_readEntry : ByteArray := prog_9_method_29_code
def yX7_readEntry : MethodName := ⟨RX7, "readEntry", "()I"⟩
abbrev cX7_isOnlyGroup : ByteArray := prog_9_method_30_code
def yX7_isOnlyGroup : MethodName := ⟨RX7, "isOnlyGroup", "(I)Z"⟩
abbrev cX7_noteOnlyGroup : ByteArray := prog_9_method_31_code
def yX7_noteOnlyGroup : MethodName := ⟨RX7, "noteOnlyGroup", "(I)V"⟩
abbrev cX7_readTyped : ByteArray := prog_9_method_32_code
def yX7_readTyped : MethodName := ⟨RX7, "readTyped", "(I)Z"⟩
abbrev cX7_readShortKey : ByteArray := prog_9_method_33_code
def yX7_readShortKey : MethodName := ⟨RX7, "readShortKey", "()I"⟩
def RX8 : String := "ItemJudge$Rules"
def TX8 : u_T := fun k => match k with
  | 0 => ("ItemJudge$Rules", "tokens", "LItemJudge$Tokens;", true)
  | 1 => ("ItemJudge$Rules", "tree", "LItemJudge$Tree;", true)
  | 2 => ("ItemJudge$Rules", "instances", "LItemJudge$Instances;", true)
  | 3 => ("ItemJudge$Rules", "head", "[I", true)
  | 4 => ("ItemJudge$Rules", "sign", "[I", true)
  | 5 => ("ItemJudge$Rules", "params", "[I", true)
  | 6 => ("ItemJudge$Rules", "choice", "[I", true)
  | 7 => ("ItemJudge$Rules", "typed", "[I", true)
  | 8 => ("ItemJudge$Rules", "owner", "[I", true)
  | 9 => ("ItemJudge$Rules", "opening", "[I", true)
  | 10 => ("ItemJudge$Rules", "told", "[I", true)
  | 11 => ("ItemJudge$Rules", "grouped", "[I", true)
  | 12 => ("ItemJudge$Rules", "chain", "[I", true)
  | 13 => ("ItemJudge$Rules", "only", "[I", true)
  | 14 => ("ItemJudge$Rules", "statements", "I", false)
  | 15 => ("ItemJudge$Rules", "count", "I", false)
  | 16 => ("ItemJudge$Rules", "ownToken", "I", false)
  | 17 => ("ItemJudge$Rules", "ownNode", "I", false)
  | 18 => ("ItemJudge$Rules", "ownStatement", "I", false)
  | _ => ("ItemJudge$Rules", "ownRule", "I", false)
def tyX8 : Nat → FieldType := fun k => match k with
  | 0 => .object "ItemJudge$Tokens"
  | 1 => .object "ItemJudge$Tree"
  | 2 => .object "ItemJudge$Instances"
  | 3 => .array .int
  | 4 => .array .int
  | 5 => .array .int
  | 6 => .array .int
  | 7 => .array .int
  | 8 => .array .int
  | 9 => .array .int
  | 10 => .array .int
  | 11 => .array .int
  | 12 => .array .int
  | 13 => .array .int
  | 14 => .int
  | 15 => .int
  | 16 => .int
  | 17 => .int
  | 18 => .int
  | _ => .int
abbrev wsX80 : List Cond := u_ws RX8 TX8 20
theorem nmX8 : ∀ a, a < 20 → ∀ b, b < 20 → a ≠ b → (TX8 a).2.1 ≠ (TX8 b).2.1 := by decide +kernel
theorem tyX8_ok : ∀ k, k < 20 → parseFieldDescriptor (TX8 k).2.2.1 = some (tyX8 k) := by decide +kernel
abbrev cX8_init : ByteArray := prog_10_method_1_code
def yX8_init : MethodName := ⟨RX8, "<init>", "()V"⟩
abbrev cX8_keepPrelude : ByteArray := prog_10_method_2_code
def yX8_keepPrelude : MethodName := ⟨RX8, "keepPrelude", "()V"⟩
abbrev cX8_begin : ByteArray := prog_10_method_3_code
def yX8_begin : MethodName := ⟨RX8, "begin", "()V"⟩
abbrev cX8_addStatement : ByteArray := prog_10_method_4_code
def yX8_addStatement : MethodName := ⟨RX8, "addStatement", "(III)I"⟩
abbrev cX8_addRule : ByteArray := prog_10_method_5_code
def yX8_addRule : MethodName := ⟨RX8, "addRule", "(I)I"⟩
abbrev cX8_ownRules : ByteArray := prog_10_method_6_code
def yX8_ownRules : MethodName := ⟨RX8, "ownRules", "()I"⟩
abbrev cX8_numbered : ByteArray := prog_10_method_7_code
def yX8_numbered : MethodName := ⟨RX8, "numbered", "(I)I"⟩
abbrev cX8_firstNode : ByteArray := prog_10_method_8_code
def yX8_firstNode : MethodName := ⟨RX8, "firstNode", "(I)I"⟩
abbrev cX8_endNode : ByteArray := prog_10_method_9_code
def yX8_endNode : MethodName := ⟨RX8, "endNode", "(I)I"⟩
abbrev cX8_headOf : ByteArray := prog_10_method_10_code
def yX8_headOf : MethodName := ⟨RX8, "headOf", "(I)I"⟩
abbrev cX8_nameByte : ByteArray := prog_10_method_11_code
def yX8_nameByte : MethodName := ⟨RX8, "nameByte", "(II)I"⟩
abbrev cX8_nameSize : ByteArray := prog_10_method_12_code
def yX8_nameSize : MethodName := ⟨RX8, "nameSize", "(I)I"⟩
abbrev cX8_paramsOf : ByteArray := prog_10_method_13_code
def yX8_paramsOf : MethodName := ⟨RX8, "paramsOf", "(I)I"⟩
abbrev cX8_isRule : ByteArray := prog_10_method_14_code
def yX8_isRule : MethodName := ⟨RX8, "isRule", "(I)Z"⟩
abbrev cX8_isOwn : ByteArray := prog_10_method_15_code
def yX8_isOwn : MethodName := ⟨RX8, "isOwn", "(I)Z"⟩
abbrev cX8_isGroup : ByteArray := prog_10_method_16_code
def yX8_isGroup : MethodName := ⟨RX8, "isGroup", "(I)Z"⟩
abbrev cX8_ruleOfNode : ByteArray := prog_10_method_17_code
def yX8_ruleOfNode : MethodName := ⟨RX8, "ruleOfNode", "(I)I"⟩
abbrev cX8_paramToken : ByteArray := prog_10_method_18_code
def yX8_paramToken : MethodName := ⟨RX8, "paramToken", "(II)I"⟩
abbrev cX8_ruleNamed : ByteArray := prog_10_method_19_code
def yX8_ruleNamed : MethodName := ⟨RX8, "ruleNamed", "(III)I"⟩
abbrev cX8_paramNamed : ByteArray := prog_10_method_20_code
def yX8_paramNamed : MethodName := ⟨RX8, "paramNamed", "(II)I"⟩
abbrev cX8_target : ByteArray := prog_10_method_21_code
def yX8_target : MethodName := ⟨RX8, "target", "(II)I"⟩
abbrev cX8_single : ByteArray := prog_10_method_22_code
def yX8_single : MethodName := ⟨RX8, "single", "(I)I"⟩
abbrev cX8_box : ByteArray := prog_10_method_23_code
def yX8_box : MethodName := ⟨RX8, "box", "(I)I"⟩
abbrev cX8_choices : ByteArray := prog_10_method_24_code
def yX8_choices : MethodName := ⟨RX8, "choices", "(I)I"⟩
abbrev cX8_choicesTold : ByteArray := prog_10_method_25_code
def yX8_choicesTold : MethodName := ⟨RX8, "choicesTold", "(I)I"⟩
abbrev cX8_least : ByteArray := prog_10_method_26_code
def yX8_least : MethodName := ⟨RX8, "least", "(I)I"⟩
abbrev cX8_most : ByteArray := prog_10_method_27_code
def yX8_most : MethodName := ⟨RX8, "most", "(I)I"⟩
def RX9 : String := "ItemJudge$Tokens"
def TX9 : u_T := fun k => match k with
  | 0 => ("ItemJudge$Tokens", "text", "[B", true)
  | 1 => ("ItemJudge$Tokens", "kind", "[I", true)
  | 2 => ("ItemJudge$Tokens", "start", "[I", true)
  | 3 => ("ItemJudge$Tokens", "bodyStart", "[I", true)
  | 4 => ("ItemJudge$Tokens", "bodySize", "[I", true)
  | 5 => ("ItemJudge$Tokens", "low", "[J", true)
  | 6 => ("ItemJudge$Tokens", "high", "[J", true)
  | 7 => ("ItemJudge$Tokens", "count", "I", false)
  | 8 => ("ItemJudge$Tokens", "stop", "I", false)
  | 9 => ("ItemJudge$Tokens", "open", "I", false)
  | 10 => ("ItemJudge$Tokens", "bodies", "I", false)
  | 11 => ("ItemJudge$Tokens", "newKind", "I", false)
  | 12 => ("ItemJudge$Tokens", "newStart", "I", false)
  | 13 => ("ItemJudge$Tokens", "newSize", "I", false)
  | 14 => ("ItemJudge$Tokens", "newLow", "J", false)
  | 15 => ("ItemJudge$Tokens", "newHigh", "J", false)
  | _ => ("ItemJudge$Tokens", "number", "J", false)
def tyX9 : Nat → FieldType := fun k => match k with
  | 0 => .array .byte
  | 1 => .array .int
  | 2 => .array .int
  | 3 => .array .int
  | 4 => .array .int
  | 5 => .array .long
  | 6 => .array .long
  | 7 => .int
  | 8 => .int
  | 9 => .int
  | 10 => .int
  | 11 => .int
  | 12 => .int
  | 13 => .int
  | 14 => .long
  | 15 => .long
  | _ => .long
abbrev wsX90 : List Cond := u_ws RX9 TX9 17
theorem nmX9 : ∀ a, a < 17 → ∀ b, b < 17 → a ≠ b → (TX9 a).2.1 ≠ (TX9 b).2.1 := by decide +kernel
theorem tyX9_ok : ∀ k, k < 17 → parseFieldDescriptor (TX9 k).2.2.1 = some (tyX9 k) := by decide +kernel
abbrev cX9_init : ByteArray := prog_11_method_1_code
def yX9_init : MethodName := ⟨RX9, "<init>", "()V"⟩
abbrev cX9_cutPrelude : ByteArray := prog_11_method_2_code
def yX9_cutPrelude : MethodName := ⟨RX9, "cutPrelude", "()V"⟩
abbrev cX9_cutOwn : ByteArray := prog_11_method_3_code
def yX9_cutOwn : MethodName := ⟨RX9, "cutOwn", "([BII)V"⟩
abbrev cX9_kindOf : ByteArray := prog_11_method_4_code
def yX9_kindOf : MethodName := ⟨RX9, "kindOf", "(I)I"⟩
abbrev cX9_placeOf : ByteArray := prog_11_method_5_code
def yX9_placeOf : MethodName := ⟨RX9, "placeOf", "(I)I"⟩
abbrev cX9_lastToken : ByteArray := prog_11_method_6_code
def yX9_lastToken : MethodName := ⟨RX9, "lastToken", "()I"⟩
abbrev cX9_bodyByte : ByteArray := prog_11_method_7_code
def yX9_bodyByte : MethodName := ⟨RX9, "bodyByte", "(II)I"⟩
abbrev cX9_sameBody : ByteArray := prog_11_method_8_code
def yX9_sameBody : MethodName := ⟨RX9, "sameBody", "(II)Z"⟩
abbrev cX9_isWord : ByteArray := prog_11_method_9_code
def yX9_isWord : MethodName := ⟨RX9, "isWord", "(ILjava/lang/String;)Z"⟩
abbrev cX9_load : ByteArray := prog_11_method_10_code
def yX9_load : MethodName := ⟨RX9, "load", "(Ljava/lang/String;I)I"⟩
abbrev cX9_cut : ByteArray := prog_11_method_11_code
def yX9_cut : MethodName := ⟨RX9, "cut", "(II)V"⟩
abbrev cX9_add : ByteArray := prog_11_method_12_code
def yX9_add : MethodName := ⟨RX9, "add", "(II)V"⟩
abbrev cX9_opensTooMuch : ByteArray := prog_11_method_13_code
def yX9_opensTooMuch : MethodName := ⟨RX9, "opensTooMuch", "()Z"⟩
abbrev cX9_look : ByteArray := prog_11_method_14_code
def yX9_look : MethodName := ⟨RX9, "look", "(I)I"⟩
abbrev cX9_behindBlanks : ByteArray := prog_11_method_15_code
def yX9_behindBlanks : MethodName := ⟨RX9, "behindBlanks", "(I)I"⟩
abbrev cX9_one : ByteArray := prog_11_method_16_code
def yX9_one : MethodName := ⟨RX9, "one", "(I)I"⟩
abbrev cX9_sign : ByteArray := prog_11_method_17_code
def yX9_sign : MethodName := ⟨RX9, "sign", "(II)I"⟩
abbrev cX9_dots : ByteArray := prog_11_method_18_code
def yX9_dots : MethodName := ⟨RX9, "dots", "(I)I"⟩
abbrev cX9_slashes : ByteArray := prog_11_method_19_code
def yX9_slashes : MethodName := ⟨RX9, "slashes", "(I)I"⟩
abbrev cX9_named : ByteArray := prog_11_method_20_code
def yX9_named : MethodName := ⟨RX9, "named", "(II)I"⟩
abbrev cX9_numberAt : ByteArray := prog_11_method_21_code
def yX9_numberAt : MethodName := ⟨RX9, "numberAt", "(IZ)I"⟩
abbrev cX9_occur : ByteArray := prog_11_method_22_code
def yX9_occur : MethodName := ⟨RX9, "occur", "(IJ)I"⟩
abbrev cX9_anOccur : ByteArray := prog_11_method_23_code
def yX9_anOccur : MethodName := ⟨RX9, "anOccur", "(IJJ)I"⟩
abbrev cX9_hash : ByteArray := prog_11_method_24_code
def yX9_hash : MethodName := ⟨RX9, "hash", "(I)I"⟩
abbrev cX9_behindUint : ByteArray := prog_11_method_25_code
def yX9_behindUint : MethodName := ⟨RX9, "behindUint", "(I)I"⟩
abbrev cX9_behindZero : ByteArray := prog_11_method_26_code
def yX9_behindZero : MethodName := ⟨RX9, "behindZero", "(I)I"⟩
abbrev cX9_behindDigits : ByteArray := prog_11_method_27_code
def yX9_behindDigits : MethodName := ⟨RX9, "behindDigits", "(II)I"⟩
abbrev cX9_mostBefore : ByteArray := prog_11_method_28_code
def yX9_mostBefore : MethodName := ⟨RX9, "mostBefore", "(II)J"⟩
abbrev cX9_behindFloat : ByteArray := prog_11_method_29_code
def yX9_behindFloat : MethodName := ⟨RX9, "behindFloat", "(I)I"⟩
abbrev cX9_behindPlain : ByteArray := prog_11_method_30_code
def yX9_behindPlain : MethodName := ⟨RX9, "behindPlain", "(I)I"⟩
abbrev cX9_quoted : ByteArray := prog_11_method_31_code
def yX9_quoted : MethodName := ⟨RX9, "quoted", "(III)I"⟩
abbrev cX9_hexBytes : ByteArray := prog_11_method_32_code
def yX9_hexBytes : MethodName := ⟨RX9, "hexBytes", "(I)I"⟩
abbrev cX9_closed : ByteArray := prog_11_method_33_code
def yX9_closed : MethodName := ⟨RX9, "closed", "(III)I"⟩
abbrev cX9_addBody : ByteArray := prog_11_method_34_code
def yX9_addBody : MethodName := ⟨RX9, "addBody", "(I)V"⟩
abbrev cX9_escaped : ByteArray := prog_11_method_35_code
def yX9_escaped : MethodName := ⟨RX9, "escaped", "(I)I"⟩
abbrev cX9_isDigit : ByteArray := prog_11_method_36_code
def yX9_isDigit : MethodName := ⟨RX9, "isDigit", "(I)Z"⟩
abbrev cX9_digit : ByteArray := prog_11_method_37_code
def yX9_digit : MethodName := ⟨RX9, "digit", "(I)I"⟩
abbrev cX9_sticks : ByteArray := prog_11_method_38_code
def yX9_sticks : MethodName := ⟨RX9, "sticks", "(I)Z"⟩
abbrev cX9_startsName : ByteArray := prog_11_method_39_code
def yX9_startsName : MethodName := ⟨RX9, "startsName", "(I)Z"⟩
abbrev cX9_goesOnName : ByteArray := prog_11_method_40_code
def yX9_goesOnName : MethodName := ⟨RX9, "goesOnName", "(I)Z"⟩
def RX10 : String := "ItemJudge$Tree"
def TX10 : u_T := fun k => match k with
  | 0 => ("ItemJudge$Tree", "kind", "[I", true)
  | 1 => ("ItemJudge$Tree", "token", "[I", true)
  | 2 => ("ItemJudge$Tree", "next", "[I", true)
  | 3 => ("ItemJudge$Tree", "first", "[I", true)
  | 4 => ("ItemJudge$Tree", "second", "[I", true)
  | 5 => ("ItemJudge$Tree", "third", "[I", true)
  | 6 => ("ItemJudge$Tree", "mark", "[I", true)
  | 7 => ("ItemJudge$Tree", "guard", "[I", true)
  | 8 => ("ItemJudge$Tree", "deep", "[I", true)
  | 9 => ("ItemJudge$Tree", "statement", "[I", true)
  | 10 => ("ItemJudge$Tree", "weight", "[I", true)
  | 11 => ("ItemJudge$Tree", "place", "[I", true)
  | 12 => ("ItemJudge$Tree", "tied", "[I", true)
  | _ => ("ItemJudge$Tree", "count", "I", false)
def tyX10 : Nat → FieldType := fun k => match k with
  | 0 => .array .int
  | 1 => .array .int
  | 2 => .array .int
  | 3 => .array .int
  | 4 => .array .int
  | 5 => .array .int
  | 6 => .array .int
  | 7 => .array .int
  | 8 => .array .int
  | 9 => .array .int
  | 10 => .array .int
  | 11 => .array .int
  | 12 => .array .int
  | _ => .int
abbrev wsX100 : List Cond := u_ws RX10 TX10 14
theorem nmX10 : ∀ a, a < 14 → ∀ b, b < 14 → a ≠ b → (TX10 a).2.1 ≠ (TX10 b).2.1 := by decide +kernel
theorem tyX10_ok : ∀ k, k < 14 → parseFieldDescriptor (TX10 k).2.2.1 = some (tyX10 k) := by decide +kernel
abbrev cX10_init : ByteArray := prog_12_method_1_code
def yX10_init : MethodName := ⟨RX10, "<init>", "()V"⟩
abbrev cX10_add : ByteArray := prog_12_method_2_code
def yX10_add : MethodName := ⟨RX10, "add", "(II)I"⟩
abbrev cX10_kindOf : ByteArray := prog_12_method_3_code
def yX10_kindOf : MethodName := ⟨RX10, "kindOf", "(I)I"⟩
abbrev cX10_nextOf : ByteArray := prog_12_method_4_code
def yX10_nextOf : MethodName := ⟨RX10, "nextOf", "(I)I"⟩
abbrev cX10_firstOf : ByteArray := prog_12_method_5_code
def yX10_firstOf : MethodName := ⟨RX10, "firstOf", "(I)I"⟩
abbrev cX10_secondOf : ByteArray := prog_12_method_6_code
def yX10_secondOf : MethodName := ⟨RX10, "secondOf", "(I)I"⟩
abbrev cX10_chainIn : ByteArray := prog_12_method_7_code
def yX10_chainIn : MethodName := ⟨RX10, "chainIn", "(II)I"⟩
abbrev cX10_aloneIn : ByteArray := prog_12_method_8_code
def yX10_aloneIn : MethodName := ⟨RX10, "aloneIn", "(II)I"⟩
abbrev cX10_isName : ByteArray := prog_12_method_9_code
def yX10_isName : MethodName := ⟨RX10, "isName", "(I)Z"⟩
abbrev cX10_isEntry : ByteArray := prog_12_method_10_code
def yX10_isEntry : MethodName := ⟨RX10, "isEntry", "(I)Z"⟩
abbrev cX10_nameToken : ByteArray := prog_12_method_11_code
def yX10_nameToken : MethodName := ⟨RX10, "nameToken", "(I)I"⟩
abbrev cX10_append : ByteArray := prog_12_method_12_code
def yX10_append : MethodName := ⟨RX10, "append", "(II)V"⟩
abbrev cX10_length : ByteArray := prog_12_method_13_code
def yX10_length : MethodName := ⟨RX10, "length", "(I)I"⟩
def RX11 : String := "ItemJudge$Writer"
def TX11 : u_T := fun k => match k with
  | 0 => ("ItemJudge$Writer", "items", "LItemJudge$Items;", true)
  | 1 => ("ItemJudge$Writer", "out", "[B", true)
  | 2 => ("ItemJudge$Writer", "outSize", "I", false)
  | 3 => ("ItemJudge$Writer", "draft", "[B", true)
  | 4 => ("ItemJudge$Writer", "sorted", "[B", true)
  | 5 => ("ItemJudge$Writer", "size", "I", false)
  | 6 => ("ItemJudge$Writer", "from", "[I", true)
  | 7 => ("ItemJudge$Writer", "to", "[I", true)
  | 8 => ("ItemJudge$Writer", "order", "[I", true)
  | _ => ("ItemJudge$Writer", "digits", "[I", true)
def tyX11 : Nat → FieldType := fun k => match k with
  | 0 => .object "ItemJudge$Items"
  | 1 => .array .byte
  | 2 => .int
  | 3 => .array .byte
  | 4 => .array .byte
  | 5 => .int
  | 6 => .array .int
  | 7 => .array .int
  | 8 => .array .int
  | _ => .array .int
abbrev wsX110 : List Cond := u_ws RX11 TX11 10
theorem nmX11 : ∀ a, a < 10 → ∀ b, b < 10 → a ≠ b → (TX11 a).2.1 ≠ (TX11 b).2.1 := by decide +kernel
theorem tyX11_ok : ∀ k, k < 10 → parseFieldDescriptor (TX11 k).2.2.1 = some (tyX11 k) := by decide +kernel
abbrev cX11_init : ByteArray := prog_13_method_1_code
def yX11_init : MethodName := ⟨RX11, "<init>", "(LItemJudge$Items;)V"⟩
abbrev cX11_kept : ByteArray := prog_13_method_2_code
def yX11_kept : MethodName := ⟨RX11, "kept", "(I)I"⟩
abbrev cX11_tell : ByteArray := prog_13_method_3_code
def yX11_tell : MethodName := ⟨RX11, "tell", "(I)I"⟩
abbrev cX11_pack : ByteArray := prog_13_method_4_code
def yX11_pack : MethodName := ⟨RX11, "pack", "(I)I"⟩
abbrev cX11_keepDraft : ByteArray := prog_13_method_5_code
def yX11_keepDraft : MethodName := ⟨RX11, "keepDraft", "()I"⟩
abbrev cX11_add : ByteArray := prog_13_method_6_code
def yX11_add : MethodName := ⟨RX11, "add", "(I)V"⟩
abbrev cX11_addWord : ByteArray := prog_13_method_7_code
def yX11_addWord : MethodName := ⟨RX11, "addWord", "(Ljava/lang/String;)V"⟩
abbrev cX11_addHex : ByteArray := prog_13_method_8_code
def yX11_addHex : MethodName := ⟨RX11, "addHex", "(JI)V"⟩
abbrev cX11_addNumber : ByteArray := prog_13_method_9_code
def yX11_addNumber : MethodName := ⟨RX11, "addNumber", "(J)V"⟩
abbrev cX11_tenth : ByteArray := prog_13_method_10_code
def yX11_tenth : MethodName := ⟨RX11, "tenth", "(J)J"⟩
abbrev cX11_addItem : ByteArray := prog_13_method_11_code
def yX11_addItem : MethodName := ⟨RX11, "addItem", "(II)V"⟩
abbrev cX11_addNegative : ByteArray := prog_13_method_12_code
def yX11_addNegative : MethodName := ⟨RX11, "addNegative", "(J)V"⟩
abbrev cX11_addSeven : ByteArray := prog_13_method_13_code
def yX11_addSeven : MethodName := ⟨RX11, "addSeven", "(JI)V"⟩
abbrev cX11_addList : ByteArray := prog_13_method_14_code
def yX11_addList : MethodName := ⟨RX11, "addList", "(IIII)V"⟩
abbrev cX11_addString : ByteArray := prog_13_method_15_code
def yX11_addString : MethodName := ⟨RX11, "addString", "(I)V"⟩
abbrev cX11_addBytes : ByteArray := prog_13_method_16_code
def yX11_addBytes : MethodName := ⟨RX11, "addBytes", "(IIJ)V"⟩
abbrev cX11_addSign : ByteArray := prog_13_method_17_code
def yX11_addSign : MethodName := ⟨RX11, "addSign", "(I)V"⟩
abbrev cX11_packItem : ByteArray := prog_13_method_18_code
def yX11_packItem : MethodName := ⟨RX11, "packItem", "(II)V"⟩
abbrev cX11_packFloat : ByteArray := prog_13_method_19_code
def yX11_packFloat : MethodName := ⟨RX11, "packFloat", "(JI)V"⟩
abbrev cX11_packHead : ByteArray := prog_13_method_20_code
def yX11_packHead : MethodName := ⟨RX11, "packHead", "(IJ)V"⟩
abbrev cX11_packNumber : ByteArray := prog_13_method_21_code
def yX11_packNumber : MethodName := ⟨RX11, "packNumber", "(JI)V"⟩
abbrev cX11_sortPairs : ByteArray := prog_13_method_22_code
def yX11_sortPairs : MethodName := ⟨RX11, "sortPairs", "(I)V"⟩
abbrev cX11_isBefore : ByteArray := prog_13_method_23_code
def yX11_isBefore : MethodName := ⟨RX11, "isBefore", "(II)Z"⟩
def RX12 : String := "ItemJudge"
def TX12 : u_T := fun k => match k with
  | 0 => ("ItemJudge", "tape", "[B", true)
  | 1 => ("ItemJudge", "taped", "I", false)
  | 2 => ("ItemJudge", "faultPlace", "I", false)
  | 3 => ("ItemJudge", "rules", "LItemJudge$Rules;", false)
  | 4 => ("ItemJudge", "spare", "LItemJudge$Rules;", false)
  | 5 => ("ItemJudge", "parser", "LItemJudge$Parser;", true)
  | 6 => ("ItemJudge", "checker", "LItemJudge$Checker;", true)
  | 7 => ("ItemJudge", "limits", "LItemJudge$Limits;", true)
  | 8 => ("ItemJudge", "items", "LItemJudge$Items;", true)
  | 9 => ("ItemJudge", "memo", "LItemJudge$Memo;", true)
  | 10 => ("ItemJudge", "referee", "LItemJudge$Judge;", true)
  | _ => ("ItemJudge", "writer", "LItemJudge$Writer;", true)
def tyX12 : Nat → FieldType := fun k => match k with
  | 0 => .array .byte
  | 1 => .int
  | 2 => .int
  | 3 => .object "ItemJudge$Rules"
  | 4 => .object "ItemJudge$Rules"
  | 5 => .object "ItemJudge$Parser"
  | 6 => .object "ItemJudge$Checker"
  | 7 => .object "ItemJudge$Limits"
  | 8 => .object "ItemJudge$Items"
  | 9 => .object "ItemJudge$Memo"
  | 10 => .object "ItemJudge$Judge"
  | _ => .object "ItemJudge$Writer"
abbrev wsX120 : List Cond := u_ws RX12 TX12 12
theorem nmX12 : ∀ a, a < 12 → ∀ b, b < 12 → a ≠ b → (TX12 a).2.1 ≠ (TX12 b).2.1 := by decide +kernel
theorem tyX12_ok : ∀ k, k < 12 → parseFieldDescriptor (TX12 k).2.2.1 = some (tyX12 k) := by decide +kernel
abbrev cX12_init : ByteArray := prog_1_method_1_code
def yX12_init : MethodName := ⟨RX12, "<init>", "()V"⟩
abbrev cX12_feed : ByteArray := prog_1_method_2_code
def yX12_feed : MethodName := ⟨RX12, "feed", "(IIIII)I"⟩
abbrev cX12_end : ByteArray := prog_1_method_3_code
def yX12_end : MethodName := ⟨RX12, "end", "(I)I"⟩
abbrev cX12_grammar : ByteArray := prog_1_method_4_code
def yX12_grammar : MethodName := ⟨RX12, "grammar", "()I"⟩
abbrev cX12_place : ByteArray := prog_1_method_5_code
def yX12_place : MethodName := ⟨RX12, "place", "()I"⟩
abbrev cX12_rule : ByteArray := prog_1_method_6_code
def yX12_rule : MethodName := ⟨RX12, "rule", "(II)I"⟩
abbrev cX12_item : ByteArray := prog_1_method_7_code
def yX12_item : MethodName := ⟨RX12, "item", "()I"⟩
abbrev cX12_node : ByteArray := prog_1_method_8_code
def yX12_node : MethodName := ⟨RX12, "node", "(II)J"⟩
abbrev cX12_judge : ByteArray := prog_1_method_9_code
def yX12_judge : MethodName := ⟨RX12, "judge", "(II)I"⟩
abbrev cX12_write : ByteArray := prog_1_method_10_code
def yX12_write : MethodName := ⟨RX12, "write", "(I)I"⟩
abbrev cX12_shorten : ByteArray := prog_1_method_11_code
def yX12_shorten : MethodName := ⟨RX12, "shorten", "(I)I"⟩
abbrev cX12_out : ByteArray := prog_1_method_12_code
def yX12_out : MethodName := ⟨RX12, "out", "(I)I"⟩
abbrev cX12_feedNumber : ByteArray := prog_1_method_13_code
def yX12_feedNumber : MethodName := ⟨RX12, "feedNumber", "(I)V"⟩
abbrev cX12_faulty : ByteArray := prog_1_method_14_code
def yX12_faulty : MethodName := ⟨RX12, "faulty", "(II)I"⟩
abbrev cX12_at : ByteArray := prog_1_method_15_code
def yX12_at : MethodName := ⟨RX12, "at", "([II)I"⟩
abbrev cX12_put : ByteArray := prog_1_method_16_code
def yX12_put : MethodName := ⟨RX12, "put", "([III)V"⟩
abbrev cX12_longAt : ByteArray := prog_1_method_17_code
def yX12_longAt : MethodName := ⟨RX12, "longAt", "([JI)J"⟩
abbrev cX12_putLong : ByteArray := prog_1_method_18_code
def yX12_putLong : MethodName := ⟨RX12, "putLong", "([JIJ)V"⟩
abbrev cX12_byteAt : ByteArray := prog_1_method_19_code
def yX12_byteAt : MethodName := ⟨RX12, "byteAt", "([BI)I"⟩
abbrev cX12_putByte : ByteArray := prog_1_method_20_code
def yX12_putByte : MethodName := ⟨RX12, "putByte", "([BII)V"⟩
abbrev cX12_copy : ByteArray := prog_1_method_21_code
def yX12_copy : MethodName := ⟨RX12, "copy", "([BI[BII)V"⟩
abbrev cX12_below : ByteArray := prog_1_method_22_code
def yX12_below : MethodName := ⟨RX12, "below", "(JJ)Z"⟩
def RX13 : String := "ItemJudgeModel"
def TX13 : u_T := fun k => match k with
  | 0 => ("ItemJudgeModel", "code", "I", false)
  | 1 => ("ItemJudgeModel", "stop", "Ljava/lang/IllegalStateException;", true)
  | 2 => ("ItemJudgeModel", "tape", "[B", true)
  | 3 => ("ItemJudgeModel", "size", "I", false)
  | 4 => ("ItemJudgeModel", "source", "[B", true)
  | 5 => ("ItemJudgeModel", "sourceSize", "I", false)
  | 6 => ("ItemJudgeModel", "tokens", "[I", true)
  | 7 => ("ItemJudgeModel", "places", "[I", true)
  | 8 => ("ItemJudgeModel", "tokenNames", "[B", true)
  | 9 => ("ItemJudgeModel", "tokenMinus", "[Z", true)
  | 10 => ("ItemJudgeModel", "tokenNumbers", "[J", true)
  | 11 => ("ItemJudgeModel", "tokenLeast", "[I", true)
  | 12 => ("ItemJudgeModel", "tokenMost", "[I", true)
  | 13 => ("ItemJudgeModel", "tokenAt", "[I", true)
  | 14 => ("ItemJudgeModel", "tokenSize", "[I", true)
  | 15 => ("ItemJudgeModel", "tokenCount", "I", false)
  | 16 => ("ItemJudgeModel", "mostTokens", "I", false)
  | 17 => ("ItemJudgeModel", "answer", "I", false)
  | 18 => ("ItemJudgeModel", "faultPlace", "I", false)
  | 19 => ("ItemJudgeModel", "uintValue", "J", false)
  | 20 => ("ItemJudgeModel", "uintPlain", "Z", false)
  | 21 => ("ItemJudgeModel", "texts", "[B", true)
  | 22 => ("ItemJudgeModel", "textCounts", "[I", true)
  | 23 => ("ItemJudgeModel", "bank", "I", false)
  | 24 => ("ItemJudgeModel", "typeEnds", "[I", true)
  | 25 => ("ItemJudgeModel", "oneEnds", "[I", true)
  | 26 => ("ItemJudgeModel", "groupEnds", "[I", true)
  | 27 => ("ItemJudgeModel", "deep", "[I", true)
  | 28 => ("ItemJudgeModel", "kinds", "[I", true)
  | 29 => ("ItemJudgeModel", "nodeTokens", "[I", true)
  | 30 => ("ItemJudgeModel", "nodeA", "[I", true)
  | 31 => ("ItemJudgeModel", "nodeB", "[I", true)
  | 32 => ("ItemJudgeModel", "nodeNext", "[I", true)
  | 33 => ("ItemJudgeModel", "nodeOps", "[I", true)
  | 34 => ("ItemJudgeModel", "nodeNumbers", "[J", true)
  | 35 => ("ItemJudgeModel", "nodeMinus", "[Z", true)
  | 36 => ("ItemJudgeModel", "nodeLeast", "[I", true)
  | 37 => ("ItemJudgeModel", "nodeMost", "[I", true)
  | 38 => ("ItemJudgeModel", "nodeAt", "[I", true)
  | 39 => ("ItemJudgeModel", "nodeSize", "[I", true)
  | 40 => ("ItemJudgeModel", "nodeRefs", "[I", true)
  | 41 => ("ItemJudgeModel", "nodeCounts", "[I", true)
  | 42 => ("ItemJudgeModel", "pos", "I", false)
  | 43 => ("ItemJudgeModel", "opens", "I", false)
  | 44 => ("ItemJudgeModel", "defs", "I", false)
  | 45 => ("ItemJudgeModel", "defTokens", "[I", true)
  | 46 => ("ItemJudgeModel", "defOps", "[I", true)
  | 47 => ("ItemJudgeModel", "defNodes", "[I", true)
  | 48 => ("ItemJudgeModel", "defIsType", "[Z", true)
  | 49 => ("ItemJudgeModel", "defParams", "[I", true)
  | 50 => ("ItemJudgeModel", "defParamAt", "[I", true)
  | 51 => ("ItemJudgeModel", "paramTokens", "[I", true)
  | 52 => ("ItemJudgeModel", "paramCount", "I", false)
  | 53 => ("ItemJudgeModel", "ruleCounts", "[I", true)
  | 54 => ("ItemJudgeModel", "ruleNames", "[B", true)
  | 55 => ("ItemJudgeModel", "ruleParams", "[I", true)
  | 56 => ("ItemJudgeModel", "isGroup", "[Z", true)
  | 57 => ("ItemJudgeModel", "ruleFirst", "[I", true)
  | 58 => ("ItemJudgeModel", "ruleLast", "[I", true)
  | 59 => ("ItemJudgeModel", "keptNodes", "[I", true)
  | 60 => ("ItemJudgeModel", "keptTypes", "[Z", true)
  | 61 => ("ItemJudgeModel", "keptNext", "[I", true)
  | 62 => ("ItemJudgeModel", "defRules", "[I", true)
  | 63 => ("ItemJudgeModel", "ruleDefs", "[I", true)
  | 64 => ("ItemJudgeModel", "firstToken", "I", false)
  | 65 => ("ItemJudgeModel", "firstNumber", "I", false)
  | 66 => ("ItemJudgeModel", "leads", "[Z", true)
  | 67 => ("ItemJudgeModel", "later", "[I", true)
  | 68 => ("ItemJudgeModel", "laterMany", "I", false)
  | 69 => ("ItemJudgeModel", "seen", "[Z", true)
  | 70 => ("ItemJudgeModel", "seenRules", "[Z", true)
  | 71 => ("ItemJudgeModel", "instanceCounts", "[I", true)
  | 72 => ("ItemJudgeModel", "instanceRules", "[I", true)
  | 73 => ("ItemJudgeModel", "instanceArgs", "[I", true)
  | 74 => ("ItemJudgeModel", "instanceEnvs", "[I", true)
  | 75 => ("ItemJudgeModel", "argNode", "I", false)
  | 76 => ("ItemJudgeModel", "argEnv", "I", false)
  | 77 => ("ItemJudgeModel", "knownEntries", "[I", true)
  | 78 => ("ItemJudgeModel", "knownPaths", "[I", true)
  | 79 => ("ItemJudgeModel", "argPaths", "[I", true)
  | 80 => ("ItemJudgeModel", "groupEntries", "[I", true)
  | 81 => ("ItemJudgeModel", "takenOff", "I", false)
  | 82 => ("ItemJudgeModel", "takenEnv", "I", false)
  | 83 => ("ItemJudgeModel", "pathsIn", "[I", true)
  | 84 => ("ItemJudgeModel", "majors", "[I", true)
  | 85 => ("ItemJudgeModel", "numbers", "[J", true)
  | 86 => ("ItemJudgeModel", "wides", "[I", true)
  | 87 => ("ItemJudgeModel", "starts", "[I", true)
  | 88 => ("ItemJudgeModel", "ends", "[I", true)
  | 89 => ("ItemJudgeModel", "parents", "[I", true)
  | 90 => ("ItemJudgeModel", "firsts", "[I", true)
  | 91 => ("ItemJudgeModel", "nexts", "[I", true)
  | 92 => ("ItemJudgeModel", "contentAt", "[I", true)
  | 93 => ("ItemJudgeModel", "depths", "[I", true)
  | 94 => ("ItemJudgeModel", "insides", "[B", true)
  | 95 => ("ItemJudgeModel", "lies", "[B", true)
  | 96 => ("ItemJudgeModel", "liesNow", "I", false)
  | 97 => ("ItemJudgeModel", "insideRows", "[I", true)
  | 98 => ("ItemJudgeModel", "store", "[B", true)
  | 99 => ("ItemJudgeModel", "itemCount", "I", false)
  | 100 => ("ItemJudgeModel", "itemBank", "I", false)
  | 101 => ("ItemJudgeModel", "poolItems", "I", false)
  | 102 => ("ItemJudgeModel", "poolParts", "I", false)
  | 103 => ("ItemJudgeModel", "at", "I", false)
  | 104 => ("ItemJudgeModel", "sourceEnd", "I", false)
  | 105 => ("ItemJudgeModel", "itemBase", "I", false)
  | 106 => ("ItemJudgeModel", "itemsRead", "I", false)
  | 107 => ("ItemJudgeModel", "partsAt", "I", false)
  | 108 => ("ItemJudgeModel", "known", "[B", true)
  | 109 => ("ItemJudgeModel", "takenKeys", "[J", true)
  | 110 => ("ItemJudgeModel", "takenEnds", "[I", true)
  | 111 => ("ItemJudgeModel", "takenCount", "I", false)
  | 112 => ("ItemJudgeModel", "takenKey", "J", false)
  | 113 => ("ItemJudgeModel", "alone", "I", false)
  | 114 => ("ItemJudgeModel", "rowNodes", "[I", true)
  | 115 => ("ItemJudgeModel", "rowEnvs", "[I", true)
  | 116 => ("ItemJudgeModel", "rowKeys", "[I", true)
  | 117 => ("ItemJudgeModel", "rowPairs", "[I", true)
  | 118 => ("ItemJudgeModel", "rows", "I", false)
  | 119 => ("ItemJudgeModel", "rowBase", "I", false)
  | 120 => ("ItemJudgeModel", "sets", "[J", true)
  | 121 => ("ItemJudgeModel", "setTop", "I", false)
  | 122 => ("ItemJudgeModel", "ways", "[J", true)
  | 123 => ("ItemJudgeModel", "wayKeys", "[J", true)
  | 124 => ("ItemJudgeModel", "waySets", "[I", true)
  | 125 => ("ItemJudgeModel", "wayHeads", "[I", true)
  | 126 => ("ItemJudgeModel", "wayCount", "I", false)
  | 127 => ("ItemJudgeModel", "active", "I", false)
  | 128 => ("ItemJudgeModel", "out", "[B", true)
  | 129 => ("ItemJudgeModel", "outSize", "I", false)
  | 130 => ("ItemJudgeModel", "draft", "[B", true)
  | 131 => ("ItemJudgeModel", "drafted", "I", false)
  | 132 => ("ItemJudgeModel", "pairAt", "[I", true)
  | 133 => ("ItemJudgeModel", "keyEnd", "[I", true)
  | 134 => ("ItemJudgeModel", "pairTop", "I", false)
  | _ => ("ItemJudgeModel", "turn", "[B", true)
def tyX13 : Nat → FieldType := fun k => match k with
  | 0 => .int
  | 1 => .object "java/lang/IllegalStateException"
  | 2 => .array .byte
  | 3 => .int
  | 4 => .array .byte
  | 5 => .int
  | 6 => .array .int
  | 7 => .array .int
  | 8 => .array .byte
  | 9 => .array .boolean
  | 10 => .array .long
  | 11 => .array .int
  | 12 => .array .int
  | 13 => .array .int
  | 14 => .array .int
  | 15 => .int
  | 16 => .int
  | 17 => .int
  | 18 => .int
  | 19 => .long
  | 20 => .boolean
  | 21 => .array .byte
  | 22 => .array .int
  | 23 => .int
  | 24 => .array .int
  | 25 => .array .int
  | 26 => .array .int
  | 27 => .array .int
  | 28 => .array .int
  | 29 => .array .int
  | 30 => .array .int
  | 31 => .array .int
  | 32 => .array .int
  | 33 => .array .int
  | 34 => .array .long
  | 35 => .array .boolean
  | 36 => .array .int
  | 37 => .array .int
  | 38 => .array .int
  | 39 => .array .int
  | 40 => .array .int
  | 41 => .array .int
  | 42 => .int
  | 43 => .int
  | 44 => .int
  | 45 => .array .int
  | 46 => .array .int
  | 47 => .array .int
  | 48 => .array .boolean
  | 49 => .array .int
  | 50 => .array .int
  | 51 => .array .int
  | 52 => .int
  | 53 => .array .int
  | 54 => .array .byte
  | 55 => .array .int
  | 56 => .array .boolean
  | 57 => .array .int
  | 58 => .array .int
  | 59 => .array .int
  | 60 => .array .boolean
  | 61 => .array .int
  | 62 => .array .int
  | 63 => .array .int
  | 64 => .int
  | 65 => .int
  | 66 => .array .boolean
  | 67 => .array .int
  | 68 => .int
  | 69 => .array .boolean
  | 70 => .array .boolean
  | 71 => .array .int
  | 72 => .array .int
  | 73 => .array .int
  | 74 => .array .int
  | 75 => .int
  | 76 => .int
  | 77 => .array .int
  | 78 => .array .int
  | 79 => .array .int
  | 80 => .array .int
  | 81 => .int
  | 82 => .int
  | 83 => .array .int
  | 84 => .array .int
  | 85 => .array .long
  | 86 => .array .int
  | 87 => .array .int
  | 88 => .array .int
  | 89 => .array .int
  | 90 => .array .int
  | 91 => .array .int
  | 92 => .array .int
  | 93 => .array .int
  | 94 => .array .byte
  | 95 => .array .byte
  | 96 => .int
  | 97 => .array .int
  | 98 => .array .byte
  | 99 => .int
  | 100 => .int
  | 101 => .int
  | 102 => .int
  | 103 => .int
  | 104 => .int
  | 105 => .int
  | 106 => .int
  | 107 => .int
  | 108 => .array .byte
  | 109 => .array .long
  | 110 => .array .int
  | 111 => .int
  | 112 => .long
  | 113 => .int
  | 114 => .array .int
  | 115 => .array .int
  | 116 => .array .int
  | 117 => .array .int
  | 118 => .int
  | 119 => .int
  | 120 => .array .long
  | 121 => .int
  | 122 => .array .long
  | 123 => .array .long
  | 124 => .array .int
  | 125 => .array .int
  | 126 => .int
  | 127 => .int
  | 128 => .array .byte
  | 129 => .int
  | 130 => .array .byte
  | 131 => .int
  | 132 => .array .int
  | 133 => .array .int
  | 134 => .int
  | _ => .array .byte
abbrev wsX130 : List Cond := u_ws RX13 TX13 136
theorem nmX13 : ∀ a, a < 136 → ∀ b, b < 136 → a ≠ b → (TX13 a).2.1 ≠ (TX13 b).2.1 := by decide +kernel
theorem tyX13_ok : ∀ k, k < 136 → parseFieldDescriptor (TX13 k).2.2.1 = some (tyX13 k) := by decide +kernel
abbrev cX13_init : ByteArray := prog_15_method_2_code
def yX13_init : MethodName := ⟨RX13, "<init>", "()V"⟩
abbrev cX13_feed : ByteArray := prog_15_method_3_code
def yX13_feed : MethodName := ⟨RX13, "feed", "(IIIII)I"⟩
abbrev cX13_end : ByteArray := prog_15_method_4_code
def yX13_end : MethodName := ⟨RX13, "end", "(I)I"⟩
abbrev cX13_fail : ByteArray := prog_15_method_5_code
def yX13_fail : MethodName := ⟨RX13, "fail", "(II)V"⟩
abbrev cX13_byteAt : ByteArray := prog_15_method_6_code
def yX13_byteAt : MethodName := ⟨RX13, "byteAt", "(I)I"⟩
abbrev cX13_isFigure : ByteArray := prog_15_method_7_code
def yX13_isFigure : MethodName := ⟨RX13, "isFigure", "(I)Z"⟩
abbrev cX13_isLetter : ByteArray := prog_15_method_8_code
def yX13_isLetter : MethodName := ⟨RX13, "isLetter", "(I)Z"⟩
abbrev cX13_isNameStart : ByteArray := prog_15_method_9_code
def yX13_isNameStart : MethodName := ⟨RX13, "isNameStart", "(I)Z"⟩
abbrev cX13_isNameByte : ByteArray := prog_15_method_10_code
def yX13_isNameByte : MethodName := ⟨RX13, "isNameByte", "(I)Z"⟩
abbrev cX13_hexOf : ByteArray := prog_15_method_11_code
def yX13_hexOf : MethodName := ⟨RX13, "hexOf", "(I)I"⟩
abbrev cX13_skip : ByteArray := prog_15_method_12_code
def yX13_skip : MethodName := ⟨RX13, "skip", "(I)I"⟩
abbrev cX13_blanks : ByteArray := prog_15_method_13_code
def yX13_blanks : MethodName := ⟨RX13, "blanks", "(I)I"⟩
abbrev cX13_scan : ByteArray := prog_15_method_14_code
def yX13_scan : MethodName := ⟨RX13, "scan", "()V"⟩
abbrev cX13_tokenHere : ByteArray := prog_15_method_15_code
def yX13_tokenHere : MethodName := ⟨RX13, "tokenHere", "(I)I"⟩
abbrev cX13_nameHere : ByteArray := prog_15_method_16_code
def yX13_nameHere : MethodName := ⟨RX13, "nameHere", "(II)I"⟩
abbrev cX13_uintHere : ByteArray := prog_15_method_17_code
def yX13_uintHere : MethodName := ⟨RX13, "uintHere", "(I)I"⟩
abbrev cX13_isUnder : ByteArray := prog_15_method_18_code
def yX13_isUnder : MethodName := ⟨RX13, "isUnder", "(JJ)Z"⟩
abbrev cX13_quotient : ByteArray := prog_15_method_19_code
def yX13_quotient : MethodName := ⟨RX13, "quotient", "(JJ)J"⟩
abbrev cX13_floatHere : ByteArray := prog_15_method_20_code
def yX13_floatHere : MethodName := ⟨RX13, "floatHere", "(I)I"⟩
abbrev cX13_numberHere : ByteArray := prog_15_method_21_code
def yX13_numberHere : MethodName := ⟨RX13, "numberHere", "(III)I"⟩
abbrev cX13_bound : ByteArray := prog_15_method_22_code
def yX13_bound : MethodName := ⟨RX13, "bound", "(J)I"⟩
abbrev cX13_occurFrom : ByteArray := prog_15_method_23_code
def yX13_occurFrom : MethodName := ⟨RX13, "occurFrom", "(IIJI)I"⟩
abbrev cX13_occurHere : ByteArray := prog_15_method_24_code
def yX13_occurHere : MethodName := ⟨RX13, "occurHere", "(III)I"⟩
abbrev cX13_keepByte : ByteArray := prog_15_method_25_code
def yX13_keepByte : MethodName := ⟨RX13, "keepByte", "(I)V"⟩
abbrev cX13_escaped : ByteArray := prog_15_method_26_code
def yX13_escaped : MethodName := ⟨RX13, "escaped", "(I)I"⟩
abbrev cX13_textHere : ByteArray := prog_15_method_27_code
def yX13_textHere : MethodName := ⟨RX13, "textHere", "(III)I"⟩
abbrev cX13_hexBytes : ByteArray := prog_15_method_28_code
def yX13_hexBytes : MethodName := ⟨RX13, "hexBytes", "(II)I"⟩
abbrev cX13_hashHere : ByteArray := prog_15_method_29_code
def yX13_hashHere : MethodName := ⟨RX13, "hashHere", "(II)I"⟩
abbrev cX13_signHere : ByteArray := prog_15_method_30_code
def yX13_signHere : MethodName := ⟨RX13, "signHere", "(III)I"⟩
abbrev cX13_forgetEnds : ByteArray := prog_15_method_31_code
def yX13_forgetEnds : MethodName := ⟨RX13, "forgetEnds", "()V"⟩
abbrev cX13_isAt : ByteArray := prog_15_method_32_code
def yX13_isAt : MethodName := ⟨RX13, "isAt", "(II)Z"⟩
abbrev cX13_typeEnd : ByteArray := prog_15_method_33_code
def yX13_typeEnd : MethodName := ⟨RX13, "typeEnd", "(II)I"⟩
abbrev cX13_oneEnd : ByteArray := prog_15_method_34_code
def yX13_oneEnd : MethodName := ⟨RX13, "oneEnd", "(II)I"⟩
abbrev cX13_nameEnd : ByteArray := prog_15_method_35_code
def yX13_nameEnd : MethodName := ⟨RX13, "nameEnd", "(II)I"⟩
abbrev cX13_bracketsEnd : ByteArray := prog_15_method_36_code
def yX13_bracketsEnd : MethodName := ⟨RX13, "bracketsEnd", "(IIIZ)I"⟩
abbrev cX13_twoEnd : ByteArray := prog_15_method_37_code
def yX13_twoEnd : MethodName := ⟨RX13, "twoEnd", "(II)I"⟩
abbrev cX13_groupEnd : ByteArray := prog_15_method_38_code
def yX13_groupEnd : MethodName := ⟨RX13, "groupEnd", "(II)I"⟩
abbrev cX13_isValueToken : ByteArray := prog_15_method_39_code
def yX13_isValueToken : MethodName := ⟨RX13, "isValueToken", "(I)Z"⟩
abbrev cX13_behindKey : ByteArray := prog_15_method_40_code
def yX13_behindKey : MethodName := ⟨RX13, "behindKey", "(II)I"⟩
abbrev cX13_keyedEnd : ByteArray := prog_15_method_41_code
def yX13_keyedEnd : MethodName := ⟨RX13, "keyedEnd", "(II)I"⟩
abbrev cX13_entryEnd : ByteArray := prog_15_method_42_code
def yX13_entryEnd : MethodName := ⟨RX13, "entryEnd", "(II)I"⟩
abbrev cX13_newNode : ByteArray := prog_15_method_43_code
def yX13_newNode : MethodName := ⟨RX13, "newNode", "(II)I"⟩
abbrev cX13_is : ByteArray := prog_15_method_44_code
def yX13_is : MethodName := ⟨RX13, "is", "(I)Z"⟩
abbrev cX13_misplaced : ByteArray := prog_15_method_45_code
def yX13_misplaced : MethodName := ⟨RX13, "misplaced", "()V"⟩
abbrev cX13_take : ByteArray := prog_15_method_46_code
def yX13_take : MethodName := ⟨RX13, "take", "(I)V"⟩
abbrev cX13_takeOpen : ByteArray := prog_15_method_47_code
def yX13_takeOpen : MethodName := ⟨RX13, "takeOpen", "(I)V"⟩
abbrev cX13_takeClose : ByteArray := prog_15_method_48_code
def yX13_takeClose : MethodName := ⟨RX13, "takeClose", "(I)V"⟩
abbrev cX13_eat : ByteArray := prog_15_method_49_code
def yX13_eat : MethodName := ⟨RX13, "eat", "(I)Z"⟩
abbrev cX13_type : ByteArray := prog_15_method_50_code
def yX13_type : MethodName := ⟨RX13, "type", "()I"⟩
abbrev cX13_one : ByteArray := prog_15_method_51_code
def yX13_one : MethodName := ⟨RX13, "one", "()I"⟩
abbrev cX13_value : ByteArray := prog_15_method_52_code
def yX13_value : MethodName := ⟨RX13, "value", "()I"⟩
abbrev cX13_named : ByteArray := prog_15_method_53_code
def yX13_named : MethodName := ⟨RX13, "named", "(I)I"⟩
abbrev cX13_two : ByteArray := prog_15_method_54_code
def yX13_two : MethodName := ⟨RX13, "two", "()I"⟩
abbrev cX13_inBrackets : ByteArray := prog_15_method_55_code
def yX13_inBrackets : MethodName := ⟨RX13, "inBrackets", "(III)I"⟩
abbrev cX13_hash : ByteArray := prog_15_method_56_code
def yX13_hash : MethodName := ⟨RX13, "hash", "(I)I"⟩
abbrev cX13_beginsEntry : ByteArray := prog_15_method_57_code
def yX13_beginsEntry : MethodName := ⟨RX13, "beginsEntry", "()Z"⟩
abbrev cX13_group : ByteArray := prog_15_method_58_code
def yX13_group : MethodName := ⟨RX13, "group", "()I"⟩
abbrev cX13_choice : ByteArray := prog_15_method_59_code
def yX13_choice : MethodName := ⟨RX13, "choice", "()I"⟩
abbrev cX13_entry : ByteArray := prog_15_method_60_code
def yX13_entry : MethodName := ⟨RX13, "entry", "()I"⟩
abbrev cX13_keyText : ByteArray := prog_15_method_61_code
def yX13_keyText : MethodName := ⟨RX13, "keyText", "(I)V"⟩
abbrev cX13_beginsRule : ByteArray := prog_15_method_62_code
def yX13_beginsRule : MethodName := ⟨RX13, "beginsRule", "(I)Z"⟩
abbrev cX13_readRules : ByteArray := prog_15_method_63_code
def yX13_readRules : MethodName := ⟨RX13, "readRules", "()V"⟩
abbrev cX13_findRule : ByteArray := prog_15_method_64_code
def yX13_findRule : MethodName := ⟨RX13, "findRule", "(II)I"⟩
abbrev cX13_isSameName : ByteArray := prog_15_method_65_code
def yX13_isSameName : MethodName := ⟨RX13, "isSameName", "(II)Z"⟩
abbrev cX13_note : ByteArray := prog_15_method_66_code
def yX13_note : MethodName := ⟨RX13, "note", "(II)V"⟩
abbrev cX13_collectRules : ByteArray := prog_15_method_67_code
def yX13_collectRules : MethodName := ⟨RX13, "collectRules", "(Z)V"⟩
abbrev cX13_checkAgain : ByteArray := prog_15_method_68_code
def yX13_checkAgain : MethodName := ⟨RX13, "checkAgain", "(II)V"⟩
abbrev cX13_checkParams : ByteArray := prog_15_method_69_code
def yX13_checkParams : MethodName := ⟨RX13, "checkParams", "(I)V"⟩
abbrev cX13_refOf : ByteArray := prog_15_method_70_code
def yX13_refOf : MethodName := ⟨RX13, "refOf", "(II)I"⟩
abbrev cX13_findRefs : ByteArray := prog_15_method_71_code
def yX13_findRefs : MethodName := ⟨RX13, "findRefs", "()V"⟩
abbrev cX13_bareName : ByteArray := prog_15_method_72_code
def yX13_bareName : MethodName := ⟨RX13, "bareName", "(I)I"⟩
abbrev cX13_bareTwo : ByteArray := prog_15_method_73_code
def yX13_bareTwo : MethodName := ⟨RX13, "bareTwo", "(I)I"⟩
abbrev cX13_isGroupRef : ByteArray := prog_15_method_74_code
def yX13_isGroupRef : MethodName := ⟨RX13, "isGroupRef", "(I)Z"⟩
abbrev cX13_tellsGroup : ByteArray := prog_15_method_75_code
def yX13_tellsGroup : MethodName := ⟨RX13, "tellsGroup", "(I)Z"⟩
abbrev cX13_findKinds : ByteArray := prog_15_method_76_code
def yX13_findKinds : MethodName := ⟨RX13, "findKinds", "()V"⟩
abbrev cX13_controlOf : ByteArray := prog_15_method_77_code
def yX13_controlOf : MethodName := ⟨RX13, "controlOf", "(I)I"⟩
abbrev cX13_checkType : ByteArray := prog_15_method_78_code
def yX13_checkType : MethodName := ⟨RX13, "checkType", "(III)V"⟩
abbrev cX13_checkOne : ByteArray := prog_15_method_79_code
def yX13_checkOne : MethodName := ⟨RX13, "checkOne", "(III)V"⟩
abbrev cX13_beginOf : ByteArray := prog_15_method_80_code
def yX13_beginOf : MethodName := ⟨RX13, "beginOf", "(I)I"⟩
abbrev cX13_paramsOf : ByteArray := prog_15_method_81_code
def yX13_paramsOf : MethodName := ⟨RX13, "paramsOf", "(I)I"⟩
abbrev cX13_checkName : ByteArray := prog_15_method_82_code
def yX13_checkName : MethodName := ⟨RX13, "checkName", "(I)V"⟩
abbrev cX13_nameToken : ByteArray := prog_15_method_83_code
def yX13_nameToken : MethodName := ⟨RX13, "nameToken", "(I)I"⟩
abbrev cX13_checkTwo : ByteArray := prog_15_method_84_code
def yX13_checkTwo : MethodName := ⟨RX13, "checkTwo", "(III)V"⟩
abbrev cX13_unwrapKind : ByteArray := prog_15_method_85_code
def yX13_unwrapKind : MethodName := ⟨RX13, "unwrapKind", "(I)I"⟩
abbrev cX13_checkGroup : ByteArray := prog_15_method_86_code
def yX13_checkGroup : MethodName := ⟨RX13, "checkGroup", "(I)V"⟩
abbrev cX13_checkEntry : ByteArray := prog_15_method_87_code
def yX13_checkEntry : MethodName := ⟨RX13, "checkEntry", "(I)V"⟩
abbrev cX13_checkAll : ByteArray := prog_15_method_88_code
def yX13_checkAll : MethodName := ⟨RX13, "checkAll", "()V"⟩
abbrev cX13_leadsFrom : ByteArray := prog_15_method_89_code
def yX13_leadsFrom : MethodName := ⟨RX13, "leadsFrom", "(II)V"⟩
abbrev cX13_comesLater : ByteArray := prog_15_method_90_code
def yX13_comesLater : MethodName := ⟨RX13, "comesLater", "(I)V"⟩
abbrev cX13_leadsBehind : ByteArray := prog_15_method_91_code
def yX13_leadsBehind : MethodName := ⟨RX13, "leadsBehind", "(II)V"⟩
abbrev cX13_findRings : ByteArray := prog_15_method_92_code
def yX13_findRings : MethodName := ⟨RX13, "findRings", "()V"⟩
abbrev cX13_rowBehind : ByteArray := prog_15_method_93_code
def yX13_rowBehind : MethodName := ⟨RX13, "rowBehind", "(I)I"⟩
abbrev cX13_contentBehind : ByteArray := prog_15_method_94_code
def yX13_contentBehind : MethodName := ⟨RX13, "contentBehind", "(I)I"⟩
abbrev cX13_isInItself : ByteArray := prog_15_method_95_code
def yX13_isInItself : MethodName := ⟨RX13, "isInItself", "(I)Z"⟩
abbrev cX13_leadsTo : ByteArray := prog_15_method_96_code
def yX13_leadsTo : MethodName := ⟨RX13, "leadsTo", "(II)Z"⟩
abbrev cX13_nameLeadsTo : ByteArray := prog_15_method_97_code
def yX13_nameLeadsTo : MethodName := ⟨RX13, "nameLeadsTo", "(II)Z"⟩
abbrev cX13_hasParam : ByteArray := prog_15_method_98_code
def yX13_hasParam : MethodName := ⟨RX13, "hasParam", "(I)Z"⟩
abbrev cX13_hasBeside : ByteArray := prog_15_method_99_code
def yX13_hasBeside : MethodName := ⟨RX13, "hasBeside", "(IZ)Z"⟩
abbrev cX13_argument : ByteArray := prog_15_method_100_code
def yX13_argument : MethodName := ⟨RX13, "argument", "(II)V"⟩
abbrev cX13_instanceOf : ByteArray := prog_15_method_101_code
def yX13_instanceOf : MethodName := ⟨RX13, "instanceOf", "(II)I"⟩
abbrev cX13_use : ByteArray := prog_15_method_102_code
def yX13_use : MethodName := ⟨RX13, "use", "(II)V"⟩
abbrev cX13_useRule : ByteArray := prog_15_method_103_code
def yX13_useRule : MethodName := ⟨RX13, "useRule", "(II)V"⟩
abbrev cX13_findInstances : ByteArray := prog_15_method_104_code
def yX13_findInstances : MethodName := ⟨RX13, "findInstances", "()V"⟩
abbrev cX13_whole : ByteArray := prog_15_method_105_code
def yX13_whole : MethodName := ⟨RX13, "whole", "(II)I"⟩
abbrev cX13_ruleOfWhole : ByteArray := prog_15_method_106_code
def yX13_ruleOfWhole : MethodName := ⟨RX13, "ruleOfWhole", "(I)I"⟩
abbrev cX13_envOfWhole : ByteArray := prog_15_method_107_code
def yX13_envOfWhole : MethodName := ⟨RX13, "envOfWhole", "(I)I"⟩
abbrev cX13_capped : ByteArray := prog_15_method_108_code
def yX13_capped : MethodName := ⟨RX13, "capped", "(I)I"⟩
abbrev cX13_entriesOfRule : ByteArray := prog_15_method_109_code
def yX13_entriesOfRule : MethodName := ⟨RX13, "entriesOfRule", "(I)I"⟩
abbrev cX13_entriesOfName : ByteArray := prog_15_method_110_code
def yX13_entriesOfName : MethodName := ⟨RX13, "entriesOfName", "(I)I"⟩
abbrev cX13_entriesOfGroup : ByteArray := prog_15_method_111_code
def yX13_entriesOfGroup : MethodName := ⟨RX13, "entriesOfGroup", "(I)I"⟩
abbrev cX13_entriesOfEntry : ByteArray := prog_15_method_112_code
def yX13_entriesOfEntry : MethodName := ⟨RX13, "entriesOfEntry", "(I)I"⟩
abbrev cX13_unwrap : ByteArray := prog_15_method_113_code
def yX13_unwrap : MethodName := ⟨RX13, "unwrap", "(II)V"⟩
abbrev cX13_tooMuch : ByteArray := prog_15_method_114_code
def yX13_tooMuch : MethodName := ⟨RX13, "tooMuch", "()V"⟩
abbrev cX13_most : ByteArray := prog_15_method_115_code
def yX13_most : MethodName := ⟨RX13, "most", "(II)I"⟩
abbrev cX13_pathOfWhole : ByteArray := prog_15_method_116_code
def yX13_pathOfWhole : MethodName := ⟨RX13, "pathOfWhole", "(I)I"⟩
abbrev cX13_pathOfName : ByteArray := prog_15_method_117_code
def yX13_pathOfName : MethodName := ⟨RX13, "pathOfName", "(II)I"⟩
abbrev cX13_isBegunAnew : ByteArray := prog_15_method_118_code
def yX13_isBegunAnew : MethodName := ⟨RX13, "isBegunAnew", "(I)Z"⟩
abbrev cX13_measureInside : ByteArray := prog_15_method_119_code
def yX13_measureInside : MethodName := ⟨RX13, "measureInside", "(II)V"⟩
abbrev cX13_pathBehind : ByteArray := prog_15_method_120_code
def yX13_pathBehind : MethodName := ⟨RX13, "pathBehind", "(II)I"⟩
abbrev cX13_pathOf : ByteArray := prog_15_method_121_code
def yX13_pathOf : MethodName := ⟨RX13, "pathOf", "(II)I"⟩
abbrev cX13_measure : ByteArray := prog_15_method_122_code
def yX13_measure : MethodName := ⟨RX13, "measure", "()V"⟩
abbrev cX13_measureWhole : ByteArray := prog_15_method_123_code
def yX13_measureWhole : MethodName := ⟨RX13, "measureWhole", "(I)V"⟩
abbrev cX13_byteOf : ByteArray := prog_15_method_124_code
def yX13_byteOf : MethodName := ⟨RX13, "byteOf", "(I)I"⟩
abbrev cX13_numberOf : ByteArray := prog_15_method_125_code
def yX13_numberOf : MethodName := ⟨RX13, "numberOf", "(II)J"⟩
abbrev cX13_wideOf : ByteArray := prog_15_method_126_code
def yX13_wideOf : MethodName := ⟨RX13, "wideOf", "(I)I"⟩
abbrev cX13_readItem : ByteArray := prog_15_method_127_code
def yX13_readItem : MethodName := ⟨RX13, "readItem", "(II)I"⟩
abbrev cX13_readBytes : ByteArray := prog_15_method_128_code
def yX13_readBytes : MethodName := ⟨RX13, "readBytes", "(IIZJ)V"⟩
abbrev cX13_skipBytes : ByteArray := prog_15_method_129_code
def yX13_skipBytes : MethodName := ⟨RX13, "skipBytes", "(J)V"⟩
abbrev cX13_readRow : ByteArray := prog_15_method_130_code
def yX13_readRow : MethodName := ⟨RX13, "readRow", "(IIIZJI)V"⟩
abbrev cX13_item : ByteArray := prog_15_method_131_code
def yX13_item : MethodName := ⟨RX13, "item", "()I"⟩
abbrev cX13_node : ByteArray := prog_15_method_132_code
def yX13_node : MethodName := ⟨RX13, "node", "(II)J"⟩
abbrev cX13_forgetKnown : ByteArray := prog_15_method_133_code
def yX13_forgetKnown : MethodName := ⟨RX13, "forgetKnown", "()V"⟩
abbrev cX13_takenAt : ByteArray := prog_15_method_134_code
def yX13_takenAt : MethodName := ⟨RX13, "takenAt", "(III)I"⟩
abbrev cX13_keepTaken : ByteArray := prog_15_method_135_code
def yX13_keepTaken : MethodName := ⟨RX13, "keepTaken", "(IIII)V"⟩
abbrev cX13_isType : ByteArray := prog_15_method_136_code
def yX13_isType : MethodName := ⟨RX13, "isType", "(III)Z"⟩
abbrev cX13_isOne : ByteArray := prog_15_method_137_code
def yX13_isOne : MethodName := ⟨RX13, "isOne", "(III)Z"⟩
abbrev cX13_compareToNode : ByteArray := prog_15_method_138_code
def yX13_compareToNode : MethodName := ⟨RX13, "compareToNode", "(II)I"⟩
abbrev cX13_isSameBytes : ByteArray := prog_15_method_139_code
def yX13_isSameBytes : MethodName := ⟨RX13, "isSameBytes", "(II)Z"⟩
abbrev cX13_isTwo : ByteArray := prog_15_method_140_code
def yX13_isTwo : MethodName := ⟨RX13, "isTwo", "(III)Z"⟩
abbrev cX13_isSeven : ByteArray := prog_15_method_141_code
def yX13_isSeven : MethodName := ⟨RX13, "isSeven", "(IJ)Z"⟩
abbrev cX13_isName : ByteArray := prog_15_method_142_code
def yX13_isName : MethodName := ⟨RX13, "isName", "(III)Z"⟩
abbrev cX13_knownAt : ByteArray := prog_15_method_143_code
def yX13_knownAt : MethodName := ⟨RX13, "knownAt", "(II)I"⟩
abbrev cX13_ownPlace : ByteArray := prog_15_method_144_code
def yX13_ownPlace : MethodName := ⟨RX13, "ownPlace", "(I)I"⟩
abbrev cX13_isRule : ByteArray := prog_15_method_145_code
def yX13_isRule : MethodName := ⟨RX13, "isRule", "(III)Z"⟩
abbrev cX13_isPrelude : ByteArray := prog_15_method_146_code
def yX13_isPrelude : MethodName := ⟨RX13, "isPrelude", "(II)Z"⟩
abbrev cX13_isUnwrapped : ByteArray := prog_15_method_147_code
def yX13_isUnwrapped : MethodName := ⟨RX13, "isUnwrapped", "(III)Z"⟩
abbrev cX13_isIn : ByteArray := prog_15_method_148_code
def yX13_isIn : MethodName := ⟨RX13, "isIn", "(IIII)Z"⟩
abbrev cX13_isOneOf : ByteArray := prog_15_method_149_code
def yX13_isOneOf : MethodName := ⟨RX13, "isOneOf", "(III)Z"⟩
abbrev cX13_isOneIn : ByteArray := prog_15_method_150_code
def yX13_isOneIn : MethodName := ⟨RX13, "isOneIn", "(III)Z"⟩
abbrev cX13_isOneOfEntry : ByteArray := prog_15_method_151_code
def yX13_isOneOfEntry : MethodName := ⟨RX13, "isOneOfEntry", "(III)Z"⟩
abbrev cX13_isOneOfRule : ByteArray := prog_15_method_152_code
def yX13_isOneOfRule : MethodName := ⟨RX13, "isOneOfRule", "(III)Z"⟩
abbrev cX13_groupSort : ByteArray := prog_15_method_153_code
def yX13_groupSort : MethodName := ⟨RX13, "groupSort", "(I)I"⟩
abbrev cX13_numberItem : ByteArray := prog_15_method_154_code
def yX13_numberItem : MethodName := ⟨RX13, "numberItem", "(J)I"⟩
abbrev cX13_isNumberAs : ByteArray := prog_15_method_155_code
def yX13_isNumberAs : MethodName := ⟨RX13, "isNumberAs", "(JII)Z"⟩
abbrev cX13_isControlled : ByteArray := prog_15_method_156_code
def yX13_isControlled : MethodName := ⟨RX13, "isControlled", "(IIII)Z"⟩
abbrev cX13_isSmall : ByteArray := prog_15_method_157_code
def yX13_isSmall : MethodName := ⟨RX13, "isSmall", "(III)Z"⟩
abbrev cX13_areBits : ByteArray := prog_15_method_158_code
def yX13_areBits : MethodName := ⟨RX13, "areBits", "(III)Z"⟩
abbrev cX13_isInside : ByteArray := prog_15_method_159_code
def yX13_isInside : MethodName := ⟨RX13, "isInside", "(IIIZ)Z"⟩
abbrev cX13_readInside : ByteArray := prog_15_method_160_code
def yX13_readInside : MethodName := ⟨RX13, "readInside", "(I)Z"⟩
abbrev cX13_isRow : ByteArray := prog_15_method_161_code
def yX13_isRow : MethodName := ⟨RX13, "isRow", "(III)Z"⟩
abbrev cX13_takeGroup : ByteArray := prog_15_method_162_code
def yX13_takeGroup : MethodName := ⟨RX13, "takeGroup", "(III)I"⟩
abbrev cX13_takeChoices : ByteArray := prog_15_method_163_code
def yX13_takeChoices : MethodName := ⟨RX13, "takeChoices", "(III)I"⟩
abbrev cX13_takeEntry : ByteArray := prog_15_method_164_code
def yX13_takeEntry : MethodName := ⟨RX13, "takeEntry", "(III)I"⟩
abbrev cX13_takeOnce : ByteArray := prog_15_method_165_code
def yX13_takeOnce : MethodName := ⟨RX13, "takeOnce", "(III)I"⟩
abbrev cX13_takeRule : ByteArray := prog_15_method_166_code
def yX13_takeRule : MethodName := ⟨RX13, "takeRule", "(III)I"⟩
abbrev cX13_takeTold : ByteArray := prog_15_method_167_code
def yX13_takeTold : MethodName := ⟨RX13, "takeTold", "(III)I"⟩
abbrev cX13_findRow : ByteArray := prog_15_method_168_code
def yX13_findRow : MethodName := ⟨RX13, "findRow", "(II)I"⟩
abbrev cX13_collectGroup : ByteArray := prog_15_method_169_code
def yX13_collectGroup : MethodName := ⟨RX13, "collectGroup", "(II)V"⟩
abbrev cX13_collectEntry : ByteArray := prog_15_method_170_code
def yX13_collectEntry : MethodName := ⟨RX13, "collectEntry", "(II)V"⟩
abbrev cX13_collectName : ByteArray := prog_15_method_171_code
def yX13_collectName : MethodName := ⟨RX13, "collectName", "(II)V"⟩
abbrev cX13_isKey : ByteArray := prog_15_method_172_code
def yX13_isKey : MethodName := ⟨RX13, "isKey", "(III)Z"⟩
abbrev cX13_isMap : ByteArray := prog_15_method_173_code
def yX13_isMap : MethodName := ⟨RX13, "isMap", "(III)Z"⟩
abbrev cX13_newSet : ByteArray := prog_15_method_174_code
def yX13_newSet : MethodName := ⟨RX13, "newSet", "()I"⟩
abbrev cX13_add : ByteArray := prog_15_method_175_code
def yX13_add : MethodName := ⟨RX13, "add", "(II)V"⟩
abbrev cX13_has : ByteArray := prog_15_method_176_code
def yX13_has : MethodName := ⟨RX13, "has", "(II)Z"⟩
abbrev cX13_isEmpty : ByteArray := prog_15_method_177_code
def yX13_isEmpty : MethodName := ⟨RX13, "isEmpty", "(I)Z"⟩
abbrev cX13_nextState : ByteArray := prog_15_method_178_code
def yX13_nextState : MethodName := ⟨RX13, "nextState", "(II)I"⟩
abbrev cX13_join : ByteArray := prog_15_method_179_code
def yX13_join : MethodName := ⟨RX13, "join", "(II)V"⟩
abbrev cX13_turnOver : ByteArray := prog_15_method_180_code
def yX13_turnOver : MethodName := ⟨RX13, "turnOver", "(II)V"⟩
abbrev cX13_forgetWays : ByteArray := prog_15_method_181_code
def yX13_forgetWays : MethodName := ⟨RX13, "forgetWays", "()V"⟩
abbrev cX13_wayAt : ByteArray := prog_15_method_182_code
def yX13_wayAt : MethodName := ⟨RX13, "wayAt", "(J)I"⟩
abbrev cX13_wayKey : ByteArray := prog_15_method_183_code
def yX13_wayKey : MethodName := ⟨RX13, "wayKey", "(III)J"⟩
abbrev cX13_joinKnown : ByteArray := prog_15_method_184_code
def yX13_joinKnown : MethodName := ⟨RX13, "joinKnown", "(JI)Z"⟩
abbrev cX13_keepWay : ByteArray := prog_15_method_185_code
def yX13_keepWay : MethodName := ⟨RX13, "keepWay", "(JI)V"⟩
abbrev cX13_canGive : ByteArray := prog_15_method_186_code
def yX13_canGive : MethodName := ⟨RX13, "canGive", "(III)Z"⟩
abbrev cX13_throughGroup : ByteArray := prog_15_method_187_code
def yX13_throughGroup : MethodName := ⟨RX13, "throughGroup", "(IIII)V"⟩
abbrev cX13_throughList : ByteArray := prog_15_method_188_code
def yX13_throughList : MethodName := ⟨RX13, "throughList", "(IIII)V"⟩
abbrev cX13_throughName : ByteArray := prog_15_method_189_code
def yX13_throughName : MethodName := ⟨RX13, "throughName", "(IIII)V"⟩
abbrev cX13_throughRule : ByteArray := prog_15_method_190_code
def yX13_throughRule : MethodName := ⟨RX13, "throughRule", "(IIII)V"⟩
abbrev cX13_throughEntry : ByteArray := prog_15_method_191_code
def yX13_throughEntry : MethodName := ⟨RX13, "throughEntry", "(IIII)V"⟩
abbrev cX13_throughPairs : ByteArray := prog_15_method_192_code
def yX13_throughPairs : MethodName := ⟨RX13, "throughPairs", "(IIII)V"⟩
abbrev cX13_throughTimes : ByteArray := prog_15_method_193_code
def yX13_throughTimes : MethodName := ⟨RX13, "throughTimes", "(IIIII)V"⟩
abbrev cX13_part : ByteArray := prog_15_method_194_code
def yX13_part : MethodName := ⟨RX13, "part", "(IIII)V"⟩
abbrev cX13_throughOnce : ByteArray := prog_15_method_195_code
def yX13_throughOnce : MethodName := ⟨RX13, "throughOnce", "(IIIII)V"⟩
abbrev cX13_layPrelude : ByteArray := prog_15_method_196_code
def yX13_layPrelude : MethodName := ⟨RX13, "layPrelude", "()V"⟩
abbrev cX13_mean : ByteArray := prog_15_method_197_code
def yX13_mean : MethodName := ⟨RX13, "mean", "(Z)V"⟩
abbrev cX13_grammar : ByteArray := prog_15_method_198_code
def yX13_grammar : MethodName := ⟨RX13, "grammar", "()I"⟩
abbrev cX13_place : ByteArray := prog_15_method_199_code
def yX13_place : MethodName := ⟨RX13, "place", "()I"⟩
abbrev cX13_choicesOf : ByteArray := prog_15_method_200_code
def yX13_choicesOf : MethodName := ⟨RX13, "choicesOf", "(I)I"⟩
abbrev cX13_rule : ByteArray := prog_15_method_201_code
def yX13_rule : MethodName := ⟨RX13, "rule", "(II)I"⟩
abbrev cX13_judge : ByteArray := prog_15_method_202_code
def yX13_judge : MethodName := ⟨RX13, "judge", "(II)I"⟩
abbrev cX13_say : ByteArray := prog_15_method_203_code
def yX13_say : MethodName := ⟨RX13, "say", "(I)V"⟩
abbrev cX13_sayAll : ByteArray := prog_15_method_204_code
def yX13_sayAll : MethodName := ⟨RX13, "sayAll", "(Ljava/lang/String;)V"⟩
abbrev cX13_sayNumber : ByteArray := prog_15_method_205_code
def yX13_sayNumber : MethodName := ⟨RX13, "sayNumber", "(J)V"⟩
abbrev cX13_sayHex : ByteArray := prog_15_method_206_code
def yX13_sayHex : MethodName := ⟨RX13, "sayHex", "(JI)V"⟩
abbrev cX13_sayBytes : ByteArray := prog_15_method_207_code
def yX13_sayBytes : MethodName := ⟨RX13, "sayBytes", "(III)V"⟩
abbrev cX13_sayParts : ByteArray := prog_15_method_208_code
def yX13_sayParts : MethodName := ⟨RX13, "sayParts", "(I)V"⟩
abbrev cX13_sayRow : ByteArray := prog_15_method_209_code
def yX13_sayRow : MethodName := ⟨RX13, "sayRow", "(I)V"⟩
abbrev cX13_sayItem : ByteArray := prog_15_method_210_code
def yX13_sayItem : MethodName := ⟨RX13, "sayItem", "(I)V"⟩
abbrev cX13_saySimple : ByteArray := prog_15_method_211_code
def yX13_saySimple : MethodName := ⟨RX13, "saySimple", "(I)V"⟩
abbrev cX13_keepDraft : ByteArray := prog_15_method_212_code
def yX13_keepDraft : MethodName := ⟨RX13, "keepDraft", "()I"⟩
abbrev cX13_write : ByteArray := prog_15_method_213_code
def yX13_write : MethodName := ⟨RX13, "write", "(I)I"⟩
abbrev cX13_head : ByteArray := prog_15_method_214_code
def yX13_head : MethodName := ⟨RX13, "head", "(IJ)V"⟩
abbrev cX13_shortItem : ByteArray := prog_15_method_215_code
def yX13_shortItem : MethodName := ⟨RX13, "shortItem", "(I)V"⟩
abbrev cX13_shortMap : ByteArray := prog_15_method_216_code
def yX13_shortMap : MethodName := ⟨RX13, "shortMap", "(I)V"⟩
abbrev cX13_isKeyUnder : ByteArray := prog_15_method_217_code
def yX13_isKeyUnder : MethodName := ⟨RX13, "isKeyUnder", "(II)Z"⟩
abbrev cX13_shorten : ByteArray := prog_15_method_218_code
def yX13_shorten : MethodName := ⟨RX13, "shorten", "(I)I"⟩
abbrev cX13_out : ByteArray := prog_15_method_219_code
def yX13_out : MethodName := ⟨RX13, "out", "(I)I"⟩
def cR : Nat → String := fun o => match o with
  | 0 => RX0
  | 1 => RX1
  | 2 => RX2
  | 3 => RX3
  | 4 => RX4
  | 5 => RX5
  | 6 => RX6
  | 7 => RX7
  | 8 => RX8
  | 9 => RX9
  | 10 => RX10
  | 11 => RX11
  | 12 => RX12
  | _ => RX13
def cT : Nat → u_T := fun o => match o with
  | 0 => TX0
  | 1 => TX1
  | 2 => TX2
  | 3 => TX3
  | 4 => TX4
  | 5 => TX5
  | 6 => TX6
  | 7 => TX7
  | 8 => TX8
  | 9 => TX9
  | 10 => TX10
  | 11 => TX11
  | 12 => TX12
  | _ => TX13
def cY : Nat → Nat → FieldType := fun o => match o with
  | 0 => tyX0
  | 1 => tyX1
  | 2 => tyX2
  | 3 => tyX3
  | 4 => tyX4
  | 5 => tyX5
  | 6 => tyX6
  | 7 => tyX7
  | 8 => tyX8
  | 9 => tyX9
  | 10 => tyX10
  | 11 => tyX11
  | 12 => tyX12
  | _ => tyX13
def cN : Nat → Nat := fun o => match o with
  | 0 => 5
  | 1 => 13
  | 2 => 20
  | 3 => 17
  | 4 => 10
  | 5 => 12
  | 6 => 3
  | 7 => 11
  | 8 => 20
  | 9 => 17
  | 10 => 14
  | 11 => 10
  | 12 => 12
  | _ => 136
abbrev diCl : List vw_C := [(RX0, TX0, 5), (RX1, TX1, 13), (RX2, TX2, 20), (RX3, TX3, 17), (RX4, TX4, 10), (RX5, TX5, 12), (RX6, TX6, 3), (RX7, TX7, 11), (RX8, TX8, 20), (RX9, TX9, 17), (RX10, TX10, 14), (RX11, TX11, 10), (RX12, TX12, 12), (RX13, TX13, 136)]
def tcode : FieldType → Nat
  | .int => 0
  | .long => 1
  | .boolean => 2
  | .object _ => 3
  | .array _ => 3
  | _ => 4
def dFT : Nat → List (Nat × Nat × Nat) := fun o => match o with
  | 0 => [(9, 0, 0), (15, 8, 0), (21, 0, 1), (22, 8, 1), (26, 0, 2), (27, 0, 3), (38, 8, 17), (41, 10, 13), (50, 0, 4), (59, 8, 18), (62, 8, 14), (71, 8, 19), (74, 8, 15), (75, 8, 11), (79, 8, 9), (97, 8, 3), (116, 8, 8), (119, 8, 4), (122, 8, 10), (132, 8, 5), (144, 10, 9), (150, 10, 4), (171, 8, 7), (174, 8, 6), (177, 10, 6), (183, 8, 12), (189, 8, 16), (192, 9, 7), (200, 10, 5), (221, 10, 1), (224, 10, 0), (227, 10, 3), (230, 8, 13)]
  | 1 => [(11, 1, 0), (15, 1, 1), (19, 1, 2), (22, 1, 3), (25, 1, 4), (28, 1, 5), (31, 1, 6), (38, 10, 5), (43, 1, 9), (51, 8, 13), (60, 1, 8), (69, 1, 10), (72, 1, 11), (75, 1, 12), (82, 8, 17), (88, 8, 19), (104, 8, 12), (114, 1, 7), (117, 8, 15), (128, 10, 13), (136, 8, 18), (139, 8, 14), (142, 8, 8)]
  | 2 => [(11, 2, 0), (15, 2, 1), (19, 2, 2), (22, 2, 3), (25, 2, 4), (28, 2, 5), (31, 2, 6), (34, 2, 7), (37, 2, 8), (40, 2, 9), (43, 2, 10), (46, 2, 11), (50, 2, 13), (54, 2, 12), (57, 2, 19), (103, 2, 18), (110, 2, 14), (125, 2, 17), (131, 2, 16), (140, 2, 15)]
  | 3 => [(11, 3, 0), (17, 8, 1), (23, 3, 1), (24, 8, 2), (28, 3, 2), (29, 3, 3), (33, 3, 4), (42, 3, 5), (46, 3, 6), (50, 3, 13), (53, 3, 15), (57, 3, 16), (64, 3, 7), (68, 3, 14), (71, 8, 12), (84, 3, 8), (87, 3, 9), (90, 3, 10), (158, 1, 10), (161, 1, 11), (164, 8, 17), (199, 10, 5), (233, 3, 11), (236, 3, 12), (271, 10, 10), (274, 10, 11), (317, 10, 6)]
  | 4 => [(9, 4, 4), (17, 4, 5), (21, 4, 6), (25, 4, 7), (28, 4, 8), (31, 4, 0), (35, 8, 0), (41, 4, 1), (42, 8, 1), (46, 4, 2), (47, 8, 2), (51, 4, 3), (52, 4, 9), (56, 10, 1), (89, 9, 6), (101, 9, 4), (108, 9, 5), (117, 10, 5), (172, 1, 10), (175, 1, 11), (178, 1, 12)]
  | 5 => [(9, 5, 0), (15, 8, 1), (21, 5, 1), (22, 8, 2), (26, 5, 2), (27, 5, 3), (31, 5, 4), (34, 5, 8), (37, 5, 9), (40, 5, 10), (43, 10, 13), (49, 5, 7), (56, 5, 6), (59, 8, 19), (62, 8, 15), (75, 8, 17), (94, 10, 6), (97, 10, 7), (103, 5, 5), (110, 10, 9), (113, 8, 18), (116, 8, 14), (119, 8, 8), (147, 5, 11), (154, 10, 5), (157, 8, 11), (172, 10, 10), (178, 8, 12), (184, 10, 12), (196, 10, 11), (199, 1, 7), (226, 10, 8), (240, 1, 8), (242, 1, 9)]
  | 6 => [(9, 6, 0), (13, 6, 2), (17, 6, 1)]
  | 7 => [(9, 7, 0), (15, 8, 0), (21, 7, 1), (22, 8, 1), (26, 7, 2), (27, 7, 10), (31, 7, 4), (35, 8, 16), (38, 7, 3), (61, 10, 7), (65, 7, 6), (71, 10, 8), (74, 7, 7), (76, 10, 9), (79, 7, 5), (91, 7, 9), (101, 7, 8), (107, 8, 6), (114, 8, 7), (120, 10, 3), (123, 10, 13), (132, 10, 5), (145, 10, 2), (158, 10, 4), (194, 9, 6), (202, 9, 4), (248, 10, 0), (251, 10, 6)]
  | 8 => [(12, 8, 0), (21, 8, 1), (30, 8, 2), (34, 8, 3), (38, 8, 4), (41, 8, 5), (44, 8, 6), (47, 8, 7), (50, 8, 8), (53, 8, 9), (56, 8, 10), (59, 8, 11), (62, 8, 12), (65, 8, 13), (68, 9, 7), (72, 8, 16), (75, 10, 13), (76, 8, 17), (79, 8, 14), (82, 8, 18), (85, 8, 15), (86, 8, 19), (105, 9, 4), (112, 10, 9), (153, 10, 1), (156, 9, 5), (164, 9, 6)]
  | 9 => [(9, 9, 0), (15, 9, 1), (19, 9, 2), (22, 9, 3), (25, 9, 4), (28, 9, 5), (32, 9, 6), (51, 9, 7), (63, 9, 10), (88, 9, 8), (91, 9, 9), (108, 9, 11), (115, 9, 12), (118, 9, 13), (121, 9, 14), (129, 9, 15), (152, 9, 16)]
  | 10 => [(9, 10, 0), (15, 10, 1), (18, 10, 2), (21, 10, 3), (24, 10, 4), (27, 10, 5), (30, 10, 6), (33, 10, 7), (36, 10, 8), (39, 10, 9), (42, 10, 10), (45, 10, 11), (48, 10, 12), (51, 10, 13)]
  | 11 => [(9, 11, 0), (15, 11, 1), (19, 11, 2), (23, 11, 3), (26, 11, 4), (29, 11, 6), (33, 11, 7), (36, 11, 8), (39, 11, 9), (46, 11, 5)]
  | 12 => [(9, 12, 0), (13, 12, 1), (17, 12, 2), (23, 12, 3), (27, 12, 4), (35, 12, 5), (42, 12, 6), (49, 12, 7), (56, 12, 8), (63, 12, 9), (72, 12, 10), (81, 12, 11), (85, 8, 0), (111, 8, 16), (136, 8, 2), (180, 8, 11)]
  | _ => [(1, 13, 0), (20, 13, 1), (23, 13, 2), (27, 13, 4), (30, 13, 6), (34, 13, 7), (37, 13, 8), (40, 13, 9), (44, 13, 10), (48, 13, 11), (51, 13, 12), (54, 13, 13), (57, 13, 14), (60, 13, 18), (63, 13, 21), (66, 13, 22), (69, 13, 24), (72, 13, 25), (75, 13, 26), (78, 13, 27), (81, 13, 28), (84, 13, 29), (87, 13, 30), (90, 13, 31), (93, 13, 32), (96, 13, 33), (99, 13, 34), (102, 13, 35), (105, 13, 36), (108, 13, 37), (111, 13, 38), (114, 13, 39), (117, 13, 40), (120, 13, 41), (123, 13, 45), (126, 13, 46), (129, 13, 47), (132, 13, 48), (135, 13, 49), (138, 13, 50), (141, 13, 51), (144, 13, 53), (147, 13, 54), (150, 13, 55), (153, 13, 56), (156, 13, 57), (159, 13, 58), (162, 13, 59), (165, 13, 60), (168, 13, 61), (171, 13, 62), (174, 13, 63), (177, 13, 66), (180, 13, 67), (183, 13, 69), (186, 13, 70), (189, 13, 71), (192, 13, 72), (195, 13, 73), (198, 13, 74), (201, 13, 77), (204, 13, 78), (207, 13, 79), (210, 13, 80), (214, 13, 83), (218, 13, 84), (221, 13, 85), (224, 13, 86), (227, 13, 87), (230, 13, 88), (233, 13, 89), (236, 13, 90), (239, 13, 91), (242, 13, 92), (245, 13, 93), (248, 13, 94), (251, 13, 95), (254, 13, 97), (258, 13, 98), (261, 13, 101), (264, 13, 102), (268, 13, 108), (272, 13, 109), (275, 13, 110), (278, 13, 114), (281, 13, 115), (284, 13, 116), (287, 13, 117), (290, 13, 120), (294, 13, 122), (298, 13, 123), (301, 13, 124), (305, 13, 125), (308, 13, 128), (311, 13, 130), (314, 13, 132), (317, 13, 133), (320, 13, 135), (326, 13, 3), (329, 13, 17), (332, 13, 5), (349, 13, 15), (355, 13, 16), (387, 13, 20), (391, 13, 19), (431, 13, 23), (486, 13, 42), (499, 13, 43), (555, 13, 44), (558, 13, 52), (567, 13, 65), (570, 13, 64), (652, 13, 68), (680, 13, 75), (683, 13, 76), (716, 13, 81), (719, 13, 82), (758, 13, 104), (764, 13, 103), (767, 13, 106), (770, 13, 105), (773, 13, 96), (800, 13, 107), (805, 13, 100), (808, 13, 99), (814, 13, 111), (825, 13, 112), (912, 13, 113), (955, 13, 119), (958, 13, 118), (979, 13, 121), (982, 13, 126), (1061, 13, 127), (1094, 13, 131), (1160, 13, 129), (1176, 13, 134)]
def dMT : Nat → List (Nat × Nat × Nat) := fun o => match o with
  | 0 => [(31, 3, 1), (35, 11, 1), (46, 12, 1), (53, 17, 1), (56, 18, 1), (65, 5, 1), (68, 8, 1), (82, 297, 3), (86, 9, 1), (90, 298, 3), (94, 10, 1), (100, 198, 1), (104, 4, 1), (108, 184, 1), (112, 185, 1), (125, 6, 1), (129, 7, 1), (135, 197, 1), (139, 214, 1), (147, 255, 1), (153, 257, 1), (156, 200, 1), (159, 249, 1), (162, 252, 1), (165, 251, 1), (168, 201, 1), (180, 193, 1), (186, 258, 1), (193, 210, 1), (194, 13, 1), (197, 15, 1), (203, 16, 1), (206, 259, 1), (209, 192, 1), (212, 195, 1), (215, 202, 1), (218, 14, 1)]
  | 1 => [(34, 297, 3), (47, 23, 1), (56, 252, 1), (63, 249, 1), (66, 251, 1), (78, 24, 1), (85, 196, 1), (91, 26, 1), (94, 21, 1), (97, 22, 1), (100, 193, 1), (107, 194, 1), (110, 28, 1), (118, 192, 1), (121, 29, 1), (125, 20, 1), (129, 255, 1), (132, 298, 3), (145, 30, 1), (148, 188, 1), (151, 187, 1), (154, 31, 1), (158, 33, 1), (161, 32, 1), (165, 250, 1), (168, 35, 1), (172, 34, 1)]
  | 2 => [(60, 297, 3), (64, 299, 3), (68, 41, 1), (72, 301, 3), (76, 37, 1), (82, 40, 1), (86, 42, 1), (89, 44, 1), (92, 45, 1), (95, 46, 1), (99, 298, 3), (106, 50, 1), (113, 303, 3), (117, 51, 1), (121, 54, 1), (128, 53, 1), (143, 300, 3), (147, 55, 1), (150, 56, 1), (153, 61, 1), (161, 304, 3), (165, 57, 1), (168, 58, 1), (171, 59, 1)]
  | 3 => [(39, 96, 2), (60, 97, 1), (74, 297, 3), (78, 65, 1), (93, 69, 1), (96, 73, 1), (99, 79, 1), (103, 86, 1), (106, 71, 1), (110, 67, 1), (114, 253, 1), (119, 250, 1), (123, 68, 1), (127, 249, 1), (130, 70, 1), (133, 251, 1), (136, 99, 1), (140, 254, 1), (143, 74, 1), (146, 85, 1), (149, 98, 1), (152, 25, 1), (167, 141, 0), (171, 142, 1), (175, 66, 1), (178, 82, 1), (181, 89, 1), (184, 72, 1), (187, 43, 1), (192, 90, 1), (195, 143, 1), (202, 252, 1), (205, 106, 1), (209, 107, 1), (212, 40, 1), (215, 52, 1), (218, 41, 1), (222, 100, 1), (225, 75, 1), (229, 76, 1), (240, 81, 1), (243, 206, 1), (246, 205, 1), (249, 84, 1), (252, 80, 1), (255, 83, 1), (258, 78, 1), (266, 77, 1), (277, 87, 1), (280, 88, 1), (283, 298, 3), (289, 300, 3), (293, 91, 1), (296, 95, 1), (300, 92, 1), (307, 93, 1), (310, 299, 3), (314, 94, 1)]
  | 4 => [(61, 297, 3), (65, 40, 1), (71, 249, 1), (74, 101, 1), (78, 103, 1), (82, 104, 1), (86, 102, 1), (94, 299, 3), (98, 105, 1), (104, 41, 1), (111, 252, 1), (114, 251, 1), (120, 304, 3), (124, 46, 1), (128, 213, 1), (131, 42, 1), (144, 108, 1), (152, 109, 1), (155, 250, 1), (158, 110, 1), (161, 111, 1), (164, 114, 1), (168, 25, 1), (181, 300, 3), (185, 298, 3), (193, 115, 1), (194, 112, 0), (198, 113, 0), (201, 116, 0)]
  | 5 => [(52, 298, 3), (63, 122, 1), (67, 297, 3), (71, 189, 1), (78, 249, 1), (81, 257, 1), (84, 119, 1), (88, 120, 1), (91, 121, 1), (100, 196, 1), (106, 124, 1), (122, 125, 1), (126, 188, 1), (129, 187, 1), (132, 255, 1), (135, 252, 1), (138, 194, 1), (141, 123, 1), (144, 127, 1), (151, 256, 1), (160, 128, 1), (163, 251, 1), (175, 132, 1), (181, 130, 1), (187, 131, 1), (190, 134, 1), (193, 250, 1), (202, 136, 1), (205, 20, 1), (208, 135, 1), (211, 192, 1), (214, 202, 1), (217, 137, 1), (220, 21, 1), (223, 22, 1), (229, 138, 1), (233, 23, 1), (236, 24, 1)]
  | 6 => [(23, 300, 3), (29, 146, 1), (33, 299, 3), (40, 145, 1), (43, 144, 1)]
  | 7 => [(41, 150, 1), (45, 154, 1), (49, 210, 1), (55, 248, 1), (67, 298, 3), (81, 152, 1), (85, 156, 1), (88, 155, 0), (94, 151, 1), (97, 183, 1), (104, 153, 1), (110, 158, 1), (117, 175, 1), (126, 160, 1), (129, 157, 1), (135, 159, 1), (139, 162, 1), (142, 161, 1), (148, 165, 1), (151, 163, 1), (155, 164, 1), (163, 215, 1), (191, 170, 1), (198, 299, 3), (205, 297, 3), (209, 169, 1), (213, 167, 1), (216, 166, 1), (219, 168, 1), (222, 172, 1), (229, 171, 1), (232, 173, 1), (235, 174, 0), (238, 178, 1), (241, 176, 1), (244, 177, 1), (254, 179, 1)]
  | 8 => [(11, 207, 2), (20, 247, 2), (27, 19, 2), (89, 298, 3), (93, 297, 3), (97, 189, 1), (101, 213, 1), (108, 193, 1), (115, 214, 1), (119, 197, 1), (122, 199, 1), (125, 198, 1), (129, 250, 1), (132, 249, 1), (135, 251, 1), (138, 195, 1), (141, 201, 1), (144, 252, 1), (147, 259, 1), (150, 204, 1), (160, 299, 3)]
  | 9 => [(37, 216, 1), (55, 217, 1), (59, 303, 3), (66, 297, 3), (70, 301, 3), (84, 302, 3), (94, 221, 1), (98, 218, 1), (101, 222, 1), (104, 219, 1), (111, 298, 3), (125, 300, 3), (132, 220, 1), (135, 238, 1), (138, 245, 0), (142, 226, 1), (146, 242, 0), (149, 231, 1), (155, 228, 1), (159, 227, 1), (163, 237, 1), (167, 230, 1), (172, 229, 1), (176, 224, 1), (179, 225, 1), (182, 223, 1), (185, 246, 0), (188, 235, 1), (193, 304, 3), (199, 233, 1), (202, 232, 1), (205, 244, 0), (208, 243, 0), (211, 234, 0), (223, 236, 1), (226, 239, 1), (229, 241, 0), (232, 240, 1)]
  | 10 => [(55, 297, 3), (59, 250, 1), (63, 298, 3)]
  | 11 => [(42, 301, 3), (49, 270, 1), (53, 264, 1), (57, 277, 1), (60, 303, 3), (73, 265, 1), (79, 269, 0), (83, 298, 3), (87, 297, 3), (93, 41, 1), (99, 40, 1), (103, 268, 1), (107, 271, 1), (110, 274, 1), (113, 273, 1), (117, 42, 1), (120, 272, 1), (128, 266, 1), (138, 267, 1), (161, 43, 1), (168, 44, 1), (171, 60, 1), (174, 59, 1), (177, 275, 1), (183, 45, 1), (190, 47, 1), (193, 276, 1), (198, 278, 1), (201, 279, 1), (205, 46, 1), (209, 281, 1), (212, 280, 1), (217, 304, 3), (221, 282, 1)]
  | 12 => [(22, 180, 2), (32, 147, 2), (41, 0, 2), (48, 117, 2), (55, 36, 2), (62, 139, 2), (69, 62, 2), (78, 260, 2), (89, 208, 1), (94, 149, 1), (98, 3, 1), (101, 181, 1), (104, 295, 1), (108, 182, 1), (114, 209, 1), (118, 148, 1), (122, 296, 1), (126, 2, 1), (130, 1, 1), (133, 118, 1), (140, 27, 1), (145, 126, 1), (149, 133, 1), (152, 212, 1), (155, 129, 1), (158, 63, 1), (161, 140, 1), (164, 185, 1), (167, 186, 1), (171, 190, 1), (174, 191, 1), (177, 192, 1), (184, 297, 0), (188, 203, 1), (191, 49, 1), (195, 38, 1), (198, 39, 1), (200, 48, 1), (204, 37, 1), (208, 64, 1), (212, 262, 1), (215, 263, 1), (218, 261, 1), (221, 302, 0), (224, 211, 1)]
  | _ => [(323, 499, 1), (335, 311, 0), (339, 312, 0), (342, 310, 0), (345, 309, 1), (352, 315, 1), (358, 318, 1), (361, 331, 1), (365, 319, 1), (368, 324, 1), (372, 327, 1), (375, 330, 1), (378, 332, 1), (381, 333, 1), (384, 313, 0), (395, 314, 0), (400, 322, 0), (404, 321, 0), (414, 323, 1), (417, 320, 1), (420, 326, 1), (426, 325, 0), (434, 329, 0), (437, 328, 1), (441, 316, 1), (451, 337, 1), (454, 335, 1), (458, 340, 1), (461, 341, 1), (464, 336, 1), (467, 338, 1), (470, 339, 1), (474, 345, 1), (477, 342, 1), (480, 343, 1), (483, 344, 1), (489, 308, 1), (493, 347, 1), (496, 348, 1), (502, 349, 1), (505, 346, 1), (508, 354, 1), (512, 352, 1), (515, 357, 1), (518, 350, 1), (521, 351, 1), (524, 355, 1), (527, 356, 1), (530, 353, 1), (533, 358, 1), (536, 359, 1), (539, 361, 1), (542, 362, 1), (545, 360, 1), (549, 363, 1), (552, 364, 1), (561, 334, 1), (564, 365, 1), (573, 367, 1), (576, 369, 1), (579, 371, 1), (582, 372, 1), (585, 368, 1), (588, 373, 1), (591, 376, 1), (594, 375, 1), (597, 377, 1), (600, 378, 1), (612, 382, 1), (616, 387, 1), (619, 383, 1), (622, 380, 1), (625, 386, 1), (628, 384, 1), (631, 385, 1), (634, 381, 1), (637, 389, 1), (640, 388, 1), (643, 390, 1), (646, 392, 1), (649, 394, 1), (655, 393, 1), (658, 398, 1), (661, 397, 1), (664, 399, 1), (667, 421, 1), (670, 400, 1), (673, 402, 1), (677, 401, 1), (686, 403, 1), (689, 404, 1), (692, 405, 1), (695, 406, 1), (698, 413, 1), (701, 415, 1), (704, 411, 0), (707, 412, 1), (710, 414, 1), (713, 396, 1), (722, 409, 1), (725, 410, 0), (728, 424, 1), (731, 418, 1), (734, 408, 1), (737, 419, 1), (740, 422, 1), (743, 417, 1), (746, 416, 1), (749, 420, 1), (752, 423, 1), (755, 426, 1), (761, 427, 1), (776, 429, 0), (779, 428, 1), (783, 431, 1), (787, 433, 1), (791, 430, 1), (796, 432, 1), (811, 436, 1), (828, 437, 1), (831, 440, 1), (835, 443, 1), (838, 459, 1), (842, 441, 1), (845, 442, 1), (848, 445, 1), (851, 439, 1), (854, 476, 1), (857, 464, 1), (860, 450, 1), (863, 452, 1), (866, 455, 1), (869, 444, 1), (883, 449, 1), (886, 448, 1), (890, 446, 1), (893, 447, 1), (896, 438, 1), (900, 451, 1), (903, 453, 1), (906, 454, 1), (909, 456, 1), (915, 457, 1), (918, 458, 1), (922, 460, 1), (925, 461, 1), (928, 462, 1), (934, 463, 1), (937, 465, 1), (940, 466, 1), (943, 467, 1), (946, 468, 1), (949, 469, 1), (952, 470, 1), (961, 473, 1), (964, 472, 1), (967, 474, 1), (970, 471, 1), (973, 475, 1), (976, 489, 1), (988, 485, 1), (991, 484, 1), (994, 477, 1), (997, 490, 1), (1000, 479, 1), (1003, 494, 1), (1006, 486, 0), (1010, 487, 1), (1014, 491, 1), (1017, 488, 1), (1021, 482, 1), (1024, 478, 1), (1027, 481, 1), (1030, 483, 1), (1033, 493, 1), (1036, 492, 1), (1039, 498, 1), (1043, 496, 1), (1046, 495, 1), (1049, 480, 1), (1052, 497, 1), (1057, 500, 1), (1064, 317, 1), (1067, 366, 1), (1070, 370, 1), (1073, 374, 1), (1076, 379, 1), (1079, 391, 1), (1082, 395, 1), (1085, 407, 1), (1088, 425, 1), (1091, 503, 1), (1097, 506, 1), (1102, 508, 1), (1111, 507, 1), (1114, 509, 1), (1123, 510, 1), (1130, 513, 1), (1135, 511, 1), (1138, 512, 1), (1141, 514, 1), (1163, 515, 1), (1166, 517, 1), (1170, 519, 1), (1173, 518, 1), (1179, 520, 1)]
def dOT : Nat → List Nat := fun o => match o with
  | 0 => [3]
  | 1 => [5]
  | 2 => [5]
  | 3 => [5]
  | 4 => [3]
  | 5 => [3]
  | 6 => [1]
  | 7 => [3]
  | 8 => [3]
  | 9 => [3]
  | 10 => [3]
  | 11 => [3]
  | 12 => [3]
  | _ => [7]
def dCT : Nat → List (Nat × Nat) := fun o => match o with
  | 0 => []
  | 1 => []
  | 2 => []
  | 3 => [(37, 4)]
  | 4 => []
  | 5 => []
  | 6 => []
  | 7 => []
  | 8 => [(9, 9), (18, 10), (25, 1)]
  | 9 => []
  | 10 => []
  | 11 => []
  | 12 => [(20, 8), (30, 7), (39, 0), (46, 5), (53, 2), (60, 6), (67, 3), (76, 11)]
  | _ => []
def dKT : Nat → List (Nat × Nat) := fun o => match o with
  | 0 => []
  | 1 => []
  | 2 => []
  | 3 => [(239, 1000000)]
  | 4 => []
  | 5 => []
  | 6 => [(39, 524288)]
  | 7 => []
  | 8 => []
  | 9 => []
  | 10 => []
  | 11 => []
  | 12 => []
  | _ => [(213, 132000), (217, 33000), (257, 45000), (267, 34340), (271, 262144), (293, 2097152), (297, 65536), (304, 32768), (430, 1000000), (817, 131072), (824, 262143), (889, 40000), (985, 65535)]
def dJT : Nat → List (Nat × Nat) := fun o => match o with
  | 0 => []
  | 1 => []
  | 2 => [(80, 18446744073709551615), (157, 32), (159, 100)]
  | 3 => [(82, 1125899906842624), (269, 6), (287, 2)]
  | 4 => [(134, 24), (136, 31), (138, 25), (140, 26), (142, 27), (148, 511), (150, 18446744073709551615), (189, 512), (191, 2048), (205, 1099511627776), (207, 64), (215, 63)]
  | 5 => []
  | 6 => [(21, 131071), (37, 16383), (47, 11400714819323198485)]
  | 7 => [(225, 7), (227, 6)]
  | 8 => []
  | 9 => [(170, 1000000), (191, 1000), (197, 18446744073709551615), (215, 1152921504606846975), (217, 9223372036854775807), (219, 1844674407370955161), (221, 1844674407370955160)]
  | 10 => []
  | 11 => [(77, 10), (91, 5), (124, 18446744073709551615), (141, 20), (145, 21), (149, 22), (153, 23), (215, 24)]
  | 12 => [(233, 9223372036854775808)]
  | _ => [(398, 18446744073709551615), (408, 9223372036854775808), (410, 2), (412, 10), (424, 1000), (794, 32), (803, 100), (818, 66), (820, 70000), (822, 11400714819323198485), (873, 25), (875, 26), (877, 27), (879, 24), (881, 31), (932, 8), (986, 4096), (1100, 9), (1105, 15)]
def dNT : List (Nat × Nat × Nat) := [(0, 82, 297), (0, 90, 298), (1, 34, 297), (1, 132, 298), (2, 60, 297), (2, 64, 299), (2, 72, 301), (2, 99, 298), (2, 113, 303), (2, 143, 300), (2, 161, 304), (3, 74, 297), (3, 283, 298), (3, 289, 300), (3, 310, 299), (4, 61, 297), (4, 94, 299), (4, 120, 304), (4, 181, 300), (4, 185, 298), (5, 52, 298), (5, 67, 297), (6, 23, 300), (6, 33, 299), (7, 67, 298), (7, 198, 299), (7, 205, 297), (8, 89, 298), (8, 93, 297), (8, 160, 299), (9, 59, 303), (9, 66, 297), (9, 70, 301), (9, 84, 302), (9, 111, 298), (9, 125, 300), (9, 193, 304), (10, 55, 297), (10, 63, 298), (11, 42, 301), (11, 60, 303), (11, 83, 298), (11, 87, 297), (11, 217, 304)]
abbrev dMI : Type := Nat × MethodName × ByteArray × Nat × Option FieldType
def dMi_0 : List dMI := [(0, yX0_init, cX0_init, 2, none), (0, yX0_blamedToken, cX0_blamedToken, 1, (some .int)), (0, yX0_firstFault, cX0_firstFault, 3, (some .int)), (0, yX0_bind, cX0_bind, 3, none), (0, yX0_blame, cX0_blame, 4, none), (0, yX0_collect, cX0_collect, 5, none), (0, yX0_sameParams, cX0_sameParams, 5, (some .boolean)), (0, yX0_checkParams, cX0_checkParams, 6, none), (0, yX0_bindNode, cX0_bindNode, 5, none), (0, yX0_tellsGroup, cX0_tellsGroup, 6, (some .boolean)), (0, yX0_link, cX0_link, 6, none), (0, yX0_checkFloats, cX0_checkFloats, 2, none), (0, yX0_checkNode, cX0_checkNode, 3, none), (0, yX0_checkName, cX0_checkName, 5, none), (0, yX0_canUnwrap, cX0_canUnwrap, 4, (some .boolean)), (0, yX0_needNumber, cX0_needNumber, 2, none), (0, yX0_checkControl, cX0_checkControl, 5, none), (0, yX0_nameEntries, cX0_nameEntries, 7, none), (0, yX0_keepBoxes, cX0_keepBoxes, 2, none), (1, yX1_init, cX1_init, 2, none), (1, yX1_ruleOf, cX1_ruleOf, 2, (some .int)), (1, yX1_argumentOf, cX1_argumentOf, 3, (some .int)), (1, yX1_argumentPlace, cX1_argumentPlace, 3, (some .int)), (1, yX1_lead, cX1_lead, 5, (some .int)), (1, yX1_unwrap, cX1_unwrap, 6, none)]
def dMi_1 : List dMI := [(1, yX1_follow, cX1_follow, 6, none), (1, yX1_ledTo, cX1_ledTo, 2, (some .int)), (1, yX1_fill, cX1_fill, 3, (some .boolean)), (1, yX1_numberCalls, cX1_numberCalls, 4, none), (1, yX1_callAll, cX1_callAll, 6, (some .boolean)), (1, yX1_callStatement, cX1_callStatement, 8, (some .boolean)), (1, yX1_called, cX1_called, 7, (some .int)), (1, yX1_bindArgument, cX1_bindArgument, 8, none), (1, yX1_hasParams, cX1_hasParams, 4, (some .boolean)), (1, yX1_holdsParams, cX1_holdsParams, 3, (some .boolean)), (1, yX1_sameArguments, cX1_sameArguments, 4, (some .boolean)), (2, yX2_init, cX2_init, 1, none), (2, yX2_isTop, cX2_isTop, 2, (some .boolean)), (2, yX2_size, cX2_size, 1, (some .int)), (2, yX2_faultPlace, cX2_faultPlace, 1, (some .int)), (2, yX2_majorOf, cX2_majorOf, 2, (some .int)), (2, yX2_numberOf, cX2_numberOf, 2, (some .long)), (2, yX2_widthOf, cX2_widthOf, 2, (some .int)), (2, yX2_afterOf, cX2_afterOf, 2, (some .int)), (2, yX2_startOf, cX2_startOf, 2, (some .int)), (2, yX2_behindOf, cX2_behindOf, 2, (some .int)), (2, yX2_byteOf, cX2_byteOf, 4, (some .int)), (2, yX2_dataAt, cX2_dataAt, 2, (some .int)), (2, yX2_told, cX2_told, 4, (some .long)), (2, yX2_take, cX2_take, 4, (some .boolean))]
def dMi_2 : List dMI := [(2, yX2_readWhole, cX2_readWhole, 6, (some .boolean)), (2, yX2_open, cX2_open, 4, none), (2, yX2_within, cX2_within, 6, (some .int)), (2, yX2_bad, cX2_bad, 2, (some .int)), (2, yX2_readItem, cX2_readItem, 7, (some .int)), (2, yX2_readHead, cX2_readHead, 9, (some .int)), (2, yX2_readString, cX2_readString, 8, (some .int)), (2, yX2_behindBytes, cX2_behindBytes, 4, (some .int)), (2, yX2_readPartHead, cX2_readPartHead, 4, (some .int)), (2, yX2_partSize, cX2_partSize, 7, (some .long)), (2, yX2_partStart, cX2_partStart, 3, (some .int)), (2, yX2_readList, cX2_readList, 10, (some .int)), (3, yX3_init, cX3_init, 4, none), (3, yX3_obey, cX3_obey, 2, none), (3, yX3_says, cX3_says, 6, (some .boolean)), (3, yX3_goTo, cX3_goTo, 4, (some .int)), (3, yX3_look, cX3_look, 3, (some .int)), (3, yX3_set, cX3_set, 5, none), (3, yX3_push, cX3_push, 6, (some .int)), (3, yX3_enter, cX3_enter, 5, (some .int)), (3, yX3_enterNamed, cX3_enterNamed, 7, (some .int)), (3, yX3_leave, cX3_leave, 7, (some .int)), (3, yX3_kept, cX3_kept, 4, (some .int)), (3, yX3_check, cX3_check, 10, (some .int)), (3, yX3_enterArray, cX3_enterArray, 6, (some .int))]
def dMi_3 : List dMI := [(3, yX3_pushGroup, cX3_pushGroup, 7, none), (3, yX3_beginChoice, cX3_beginChoice, 3, none), (3, yX3_beginEntry, cX3_beginEntry, 3, none), (3, yX3_findGroup, cX3_findGroup, 3, none), (3, yX3_goOn, cX3_goOn, 5, (some .int)), (3, yX3_known, cX3_known, 6, (some .int)), (3, yX3_ended, cX3_ended, 5, (some .int)), (3, yX3_gained, cX3_gained, 5, (some .int)), (3, yX3_take, cX3_take, 5, none), (3, yX3_endEntry, cX3_endEntry, 4, none), (3, yX3_enterMap, cX3_enterMap, 6, (some .int)), (3, yX3_goFit, cX3_goFit, 4, (some .int)), (3, yX3_asksMore, cX3_asksMore, 3, (some .boolean)), (3, yX3_ask, cX3_ask, 6, (some .int)), (3, yX3_answered, cX3_answered, 5, (some .int)), (3, yX3_isGiven, cX3_isGiven, 4, (some .boolean)), (3, yX3_ways, cX3_ways, 14, (some .long)), (3, yX3_throughGroup, cX3_throughGroup, 16, (some .long)), (3, yX3_waysWithin, cX3_waysWithin, 7, (some .long)), (3, yX3_choicesOf, cX3_choicesOf, 3, (some .int)), (3, yX3_giveTo, cX3_giveTo, 16, (some .long)), (4, yX4_init, cX4_init, 3, none), (4, yX4_obey, cX4_obey, 2, none), (4, yX4_isSo, cX4_isSo, 5, (some .boolean)), (4, yX4_isTag, cX4_isTag, 5, (some .boolean))]
def dMi_4 : List dMI := [(4, yX4_compares, cX4_compares, 5, (some .boolean)), (4, yX4_isNumber, cX4_isNumber, 2, (some .boolean)), (4, yX4_inRange, cX4_inRange, 4, (some .boolean)), (4, yX4_compare, cX4_compare, 8, (some .int)), (4, yX4_hasBytes, cX4_hasBytes, 5, (some .boolean)), (4, yX4_isSimple, cX4_isSimple, 6, (some .boolean)), (4, yX4_hasSize, cX4_hasSize, 8, (some .boolean)), (4, yX4_hasBits, cX4_hasBits, 11, (some .boolean)), (4, yX4_mask, cX4_mask, 9, (some .long)), (4, yX4_maskOf, cX4_maskOf, 7, (some .long)), (4, yX4_maskNamed, cX4_maskNamed, 11, (some .long)), (4, yX4_maskControl, cX4_maskControl, 8, (some .long)), (4, yX4_sized, cX4_sized, 6, (some .long)), (4, yX4_withBits, cX4_withBits, 6, (some .long)), (4, yX4_maskLeaf, cX4_maskLeaf, 6, (some .long)), (4, yX4_numberOf, cX4_numberOf, 5, (some .long)), (4, yX4_range, cX4_range, 9, (some .long)), (5, yX5_init, cX5_init, 2, none), (5, yX5_firstLoop, cX5_firstLoop, 5, (some .int)), (5, yX5_meetsItself, cX5_meetsItself, 3, (some .boolean)), (5, yX5_ownBox, cX5_ownBox, 3, (some .int)), (5, yX5_context, cX5_context, 3, (some .int)), (5, yX5_reach, cX5_reach, 4, none), (5, yX5_see, cX5_see, 2, none), (5, yX5_leadOn, cX5_leadOn, 4, none)]
def dMi_5 : List dMI := [(5, yX5_leadOnIn, cX5_leadOnIn, 7, none), (5, yX5_groupsTooLarge, cX5_groupsTooLarge, 3, (some .boolean)), (5, yX5_countEntry, cX5_countEntry, 5, (some .int)), (5, yX5_countWithin, cX5_countWithin, 4, (some .int)), (5, yX5_weigh, cX5_weigh, 3, none), (5, yX5_markTied, cX5_markTied, 3, none), (5, yX5_tiesOf, cX5_tiesOf, 5, (some .int)), (5, yX5_placeEntries, cX5_placeEntries, 7, (some .int)), (5, yX5_pathsTooLong, cX5_pathsTooLong, 3, (some .boolean)), (5, yX5_raise, cX5_raise, 4, none), (5, yX5_measure, cX5_measure, 10, (some .int)), (5, yX5_measureArguments, cX5_measureArguments, 7, none), (5, yX5_pathTo, cX5_pathTo, 7, (some .int)), (5, yX5_behindName, cX5_behindName, 7, (some .int)), (6, yX6_init, cX6_init, 1, none), (6, yX6_renew, cX6_renew, 2, none), (6, yX6_key, cX6_key, 4, (some .long)), (6, yX6_find, cX6_find, 9, (some .int)), (6, yX6_keep, cX6_keep, 4, none), (6, yX6_settle, cX6_settle, 7, none), (6, yX6_grow, cX6_grow, 3, none), (6, yX6_slot, cX6_slot, 3, (some .int)), (7, yX7_init, cX7_init, 2, none), (7, yX7_failedToken, cX7_failedToken, 1, (some .int)), (7, yX7_readRules, cX7_readRules, 3, (some .boolean))]
def dMi_6 : List dMI := [(7, yX7_peek, cX7_peek, 1, (some .int)), (7, yX7_fail, cX7_fail, 1, (some .int)), (7, yX7_take, cX7_take, 2, (some .boolean)), (7, yX7_grow, cX7_grow, 4, (some .int)), (7, yX7_readStatement, cX7_readStatement, 6, (some .boolean)), (7, yX7_beginsBody, cX7_beginsBody, 1, (some .boolean)), (7, yX7_behindParams, cX7_behindParams, 5, (some .int)), (7, yX7_atStatementEnd, cX7_atStatementEnd, 2, (some .boolean)), (7, yX7_readTypeBody, cX7_readTypeBody, 7, (some .boolean)), (7, yX7_goBack, cX7_goBack, 6, none), (7, yX7_readType, cX7_readType, 1, (some .int)), (7, yX7_readChoices, cX7_readChoices, 5, (some .int)), (7, yX7_readType1, cX7_readType1, 8, (some .int)), (7, yX7_joined, cX7_joined, 5, (some .int)), (7, yX7_controlNamed, cX7_controlNamed, 2, (some .int)), (7, yX7_readType2, cX7_readType2, 2, (some .int)), (7, yX7_readParen, cX7_readParen, 3, (some .int)), (7, yX7_readBox, cX7_readBox, 8, (some .int)), (7, yX7_readAndGroup, cX7_readAndGroup, 4, (some .int)), (7, yX7_readHash, cX7_readHash, 9, (some .int)), (7, yX7_readName, cX7_readName, 7, (some .int)), (7, yX7_readArgument, cX7_readArgument, 3, (some .int)), (7, yX7_readGroup, cX7_readGroup, 5, (some .int)), (7, yX7_readEntries, cX7_readEntries, 5, (some .boolean)), (7, yX7_beginsEntry, cX7_beginsEntry, 1, (some .boolean))]
def dMi_7 : List dMI := [(7, yX7_readEntry, cX7_readEntry, 8, (some .int)), (7, yX7_isOnlyGroup, cX7_isOnlyGroup, 2, (some .boolean)), (7, yX7_noteOnlyGroup, cX7_noteOnlyGroup, 2, none), (7, yX7_readTyped, cX7_readTyped, 5, (some .boolean)), (7, yX7_readShortKey, cX7_readShortKey, 3, (some .int)), (8, yX8_init, cX8_init, 1, none), (8, yX8_keepPrelude, cX8_keepPrelude, 1, none), (8, yX8_begin, cX8_begin, 1, none), (8, yX8_addStatement, cX8_addStatement, 5, (some .int)), (8, yX8_addRule, cX8_addRule, 3, (some .int)), (8, yX8_ownRules, cX8_ownRules, 1, (some .int)), (8, yX8_numbered, cX8_numbered, 2, (some .int)), (8, yX8_firstNode, cX8_firstNode, 2, (some .int)), (8, yX8_endNode, cX8_endNode, 2, (some .int)), (8, yX8_headOf, cX8_headOf, 2, (some .int)), (8, yX8_nameByte, cX8_nameByte, 3, (some .int)), (8, yX8_nameSize, cX8_nameSize, 2, (some .int)), (8, yX8_paramsOf, cX8_paramsOf, 2, (some .int)), (8, yX8_isRule, cX8_isRule, 2, (some .boolean)), (8, yX8_isOwn, cX8_isOwn, 2, (some .boolean)), (8, yX8_isGroup, cX8_isGroup, 2, (some .boolean)), (8, yX8_ruleOfNode, cX8_ruleOfNode, 2, (some .int)), (8, yX8_paramToken, cX8_paramToken, 3, (some .int)), (8, yX8_ruleNamed, cX8_ruleNamed, 5, (some .int)), (8, yX8_paramNamed, cX8_paramNamed, 5, (some .int))]
def dMi_8 : List dMI := [(8, yX8_target, cX8_target, 5, (some .int)), (8, yX8_single, cX8_single, 4, (some .int)), (8, yX8_box, cX8_box, 6, (some .int)), (8, yX8_choices, cX8_choices, 4, (some .int)), (8, yX8_choicesTold, cX8_choicesTold, 3, (some .int)), (8, yX8_least, cX8_least, 3, (some .int)), (8, yX8_most, cX8_most, 3, (some .int)), (9, yX9_init, cX9_init, 1, none), (9, yX9_cutPrelude, cX9_cutPrelude, 2, none), (9, yX9_cutOwn, cX9_cutOwn, 4, none), (9, yX9_kindOf, cX9_kindOf, 2, (some .int)), (9, yX9_placeOf, cX9_placeOf, 2, (some .int)), (9, yX9_lastToken, cX9_lastToken, 1, (some .int)), (9, yX9_bodyByte, cX9_bodyByte, 3, (some .int)), (9, yX9_sameBody, cX9_sameBody, 7, (some .boolean)), (9, yX9_isWord, cX9_isWord, 6, (some .boolean)), (9, yX9_load, cX9_load, 5, (some .int)), (9, yX9_cut, cX9_cut, 6, none), (9, yX9_add, cX9_add, 3, none), (9, yX9_opensTooMuch, cX9_opensTooMuch, 2, (some .boolean)), (9, yX9_look, cX9_look, 2, (some .int)), (9, yX9_behindBlanks, cX9_behindBlanks, 5, (some .int)), (9, yX9_one, cX9_one, 4, (some .int)), (9, yX9_sign, cX9_sign, 3, (some .int)), (9, yX9_dots, cX9_dots, 2, (some .int))]
def dMi_9 : List dMI := [(9, yX9_slashes, cX9_slashes, 2, (some .int)), (9, yX9_named, cX9_named, 5, (some .int)), (9, yX9_numberAt, cX9_numberAt, 6, (some .int)), (9, yX9_occur, cX9_occur, 5, (some .int)), (9, yX9_anOccur, cX9_anOccur, 6, (some .int)), (9, yX9_hash, cX9_hash, 5, (some .int)), (9, yX9_behindUint, cX9_behindUint, 3, (some .int)), (9, yX9_behindZero, cX9_behindZero, 2, (some .int)), (9, yX9_behindDigits, cX9_behindDigits, 7, (some .int)), (9, yX9_mostBefore, cX9_mostBefore, 2, (some .long)), (9, yX9_behindFloat, cX9_behindFloat, 5, (some .int)), (9, yX9_behindPlain, cX9_behindPlain, 3, (some .int)), (9, yX9_quoted, cX9_quoted, 7, (some .int)), (9, yX9_hexBytes, cX9_hexBytes, 7, (some .int)), (9, yX9_closed, cX9_closed, 4, (some .int)), (9, yX9_addBody, cX9_addBody, 2, none), (9, yX9_escaped, cX9_escaped, 1, (some .int)), (9, yX9_isDigit, cX9_isDigit, 1, (some .boolean)), (9, yX9_digit, cX9_digit, 1, (some .int)), (9, yX9_sticks, cX9_sticks, 1, (some .boolean)), (9, yX9_startsName, cX9_startsName, 1, (some .boolean)), (9, yX9_goesOnName, cX9_goesOnName, 1, (some .boolean)), (10, yX10_init, cX10_init, 1, none), (10, yX10_add, cX10_add, 4, (some .int)), (10, yX10_kindOf, cX10_kindOf, 2, (some .int))]
def dMi_10 : List dMI := [(10, yX10_nextOf, cX10_nextOf, 2, (some .int)), (10, yX10_firstOf, cX10_firstOf, 2, (some .int)), (10, yX10_secondOf, cX10_secondOf, 2, (some .int)), (10, yX10_chainIn, cX10_chainIn, 3, (some .int)), (10, yX10_aloneIn, cX10_aloneIn, 3, (some .int)), (10, yX10_isName, cX10_isName, 3, (some .boolean)), (10, yX10_isEntry, cX10_isEntry, 3, (some .boolean)), (10, yX10_nameToken, cX10_nameToken, 2, (some .int)), (10, yX10_append, cX10_append, 5, none), (10, yX10_length, cX10_length, 4, (some .int)), (11, yX11_init, cX11_init, 2, none), (11, yX11_kept, cX11_kept, 2, (some .int)), (11, yX11_tell, cX11_tell, 2, (some .int)), (11, yX11_pack, cX11_pack, 2, (some .int)), (11, yX11_keepDraft, cX11_keepDraft, 1, (some .int)), (11, yX11_add, cX11_add, 2, none), (11, yX11_addWord, cX11_addWord, 3, none), (11, yX11_addHex, cX11_addHex, 6, none), (11, yX11_addNumber, cX11_addNumber, 7, none), (11, yX11_tenth, cX11_tenth, 2, (some .long)), (11, yX11_addItem, cX11_addItem, 5, none), (11, yX11_addNegative, cX11_addNegative, 3, none), (11, yX11_addSeven, cX11_addSeven, 4, none), (11, yX11_addList, cX11_addList, 8, none), (11, yX11_addString, cX11_addString, 6, none)]
def dMi_11 : List dMI := [(11, yX11_addBytes, cX11_addBytes, 7, none), (11, yX11_addSign, cX11_addSign, 2, none), (11, yX11_packItem, cX11_packItem, 8, none), (11, yX11_packFloat, cX11_packFloat, 4, none), (11, yX11_packHead, cX11_packHead, 5, none), (11, yX11_packNumber, cX11_packNumber, 5, none), (11, yX11_sortPairs, cX11_sortPairs, 9, none), (11, yX11_isBefore, cX11_isBefore, 8, (some .boolean)), (12, yX12_init, cX12_init, 1, none), (12, yX12_feed, cX12_feed, 6, (some .int)), (12, yX12_end, cX12_end, 2, (some .int)), (12, yX12_grammar, cX12_grammar, 5, (some .int)), (12, yX12_place, cX12_place, 1, (some .int)), (12, yX12_rule, cX12_rule, 4, (some .int)), (12, yX12_item, cX12_item, 2, (some .int)), (12, yX12_node, cX12_node, 3, (some .long)), (12, yX12_judge, cX12_judge, 4, (some .int)), (12, yX12_write, cX12_write, 2, (some .int)), (12, yX12_shorten, cX12_shorten, 2, (some .int)), (12, yX12_out, cX12_out, 2, (some .int)), (12, yX12_feedNumber, cX12_feedNumber, 3, none), (12, yX12_faulty, cX12_faulty, 3, (some .int)), (12, yX12_at, cX12_at, 2, (some .int)), (12, yX12_put, cX12_put, 3, none), (12, yX12_longAt, cX12_longAt, 2, (some .long))]
def dMi_12 : List dMI := [(12, yX12_putLong, cX12_putLong, 4, none), (12, yX12_byteAt, cX12_byteAt, 2, (some .int)), (12, yX12_putByte, cX12_putByte, 3, none), (12, yX12_copy, cX12_copy, 5, none), (12, yX12_below, cX12_below, 4, (some .boolean)), (13, yX13_init, cX13_init, 1, none), (13, yX13_feed, cX13_feed, 9, (some .int)), (13, yX13_end, cX13_end, 2, (some .int)), (13, yX13_fail, cX13_fail, 3, none), (13, yX13_byteAt, cX13_byteAt, 2, (some .int)), (13, yX13_isFigure, cX13_isFigure, 1, (some .boolean)), (13, yX13_isLetter, cX13_isLetter, 1, (some .boolean)), (13, yX13_isNameStart, cX13_isNameStart, 1, (some .boolean)), (13, yX13_isNameByte, cX13_isNameByte, 1, (some .boolean)), (13, yX13_hexOf, cX13_hexOf, 1, (some .int)), (13, yX13_skip, cX13_skip, 5, (some .int)), (13, yX13_blanks, cX13_blanks, 3, (some .int)), (13, yX13_scan, cX13_scan, 4, none), (13, yX13_tokenHere, cX13_tokenHere, 4, (some .int)), (13, yX13_nameHere, cX13_nameHere, 5, (some .int)), (13, yX13_uintHere, cX13_uintHere, 9, (some .int)), (13, yX13_isUnder, cX13_isUnder, 4, (some .boolean)), (13, yX13_quotient, cX13_quotient, 6, (some .long)), (13, yX13_floatHere, cX13_floatHere, 9, (some .int)), (13, yX13_numberHere, cX13_numberHere, 9, (some .int))]
def dMi_13 : List dMI := [(13, yX13_bound, cX13_bound, 2, (some .int)), (13, yX13_occurFrom, cX13_occurFrom, 7, (some .int)), (13, yX13_occurHere, cX13_occurHere, 4, (some .int)), (13, yX13_keepByte, cX13_keepByte, 2, none), (13, yX13_escaped, cX13_escaped, 1, (some .int)), (13, yX13_textHere, cX13_textHere, 7, (some .int)), (13, yX13_hexBytes, cX13_hexBytes, 8, (some .int)), (13, yX13_hashHere, cX13_hashHere, 5, (some .int)), (13, yX13_signHere, cX13_signHere, 9, (some .int)), (13, yX13_forgetEnds, cX13_forgetEnds, 3, none), (13, yX13_isAt, cX13_isAt, 3, (some .boolean)), (13, yX13_typeEnd, cX13_typeEnd, 4, (some .int)), (13, yX13_oneEnd, cX13_oneEnd, 4, (some .int)), (13, yX13_nameEnd, cX13_nameEnd, 5, (some .int)), (13, yX13_bracketsEnd, cX13_bracketsEnd, 6, (some .int)), (13, yX13_twoEnd, cX13_twoEnd, 3, (some .int)), (13, yX13_groupEnd, cX13_groupEnd, 6, (some .int)), (13, yX13_isValueToken, cX13_isValueToken, 2, (some .boolean)), (13, yX13_behindKey, cX13_behindKey, 4, (some .int)), (13, yX13_keyedEnd, cX13_keyedEnd, 5, (some .int)), (13, yX13_entryEnd, cX13_entryEnd, 5, (some .int)), (13, yX13_newNode, cX13_newNode, 4, (some .int)), (13, yX13_is, cX13_is, 2, (some .boolean)), (13, yX13_misplaced, cX13_misplaced, 1, none), (13, yX13_take, cX13_take, 2, none)]
def dMi_14 : List dMI := [(13, yX13_takeOpen, cX13_takeOpen, 2, none), (13, yX13_takeClose, cX13_takeClose, 2, none), (13, yX13_eat, cX13_eat, 2, (some .boolean)), (13, yX13_type, cX13_type, 4, (some .int)), (13, yX13_one, cX13_one, 2, (some .int)), (13, yX13_value, cX13_value, 3, (some .int)), (13, yX13_named, cX13_named, 5, (some .int)), (13, yX13_two, cX13_two, 3, (some .int)), (13, yX13_inBrackets, cX13_inBrackets, 5, (some .int)), (13, yX13_hash, cX13_hash, 5, (some .int)), (13, yX13_beginsEntry, cX13_beginsEntry, 2, (some .boolean)), (13, yX13_group, cX13_group, 4, (some .int)), (13, yX13_choice, cX13_choice, 4, (some .int)), (13, yX13_entry, cX13_entry, 6, (some .int)), (13, yX13_keyText, cX13_keyText, 3, none), (13, yX13_beginsRule, cX13_beginsRule, 4, (some .boolean)), (13, yX13_readRules, cX13_readRules, 5, none), (13, yX13_findRule, cX13_findRule, 6, (some .int)), (13, yX13_isSameName, cX13_isSameName, 5, (some .boolean)), (13, yX13_note, cX13_note, 3, none), (13, yX13_collectRules, cX13_collectRules, 7, none), (13, yX13_checkAgain, cX13_checkAgain, 7, none), (13, yX13_checkParams, cX13_checkParams, 5, none), (13, yX13_refOf, cX13_refOf, 6, (some .int)), (13, yX13_findRefs, cX13_findRefs, 6, none)]
def dMi_15 : List dMI := [(13, yX13_bareName, cX13_bareName, 3, (some .int)), (13, yX13_bareTwo, cX13_bareTwo, 3, (some .int)), (13, yX13_isGroupRef, cX13_isGroupRef, 2, (some .boolean)), (13, yX13_tellsGroup, cX13_tellsGroup, 3, (some .boolean)), (13, yX13_findKinds, cX13_findKinds, 4, none), (13, yX13_controlOf, cX13_controlOf, 5, (some .int)), (13, yX13_checkType, cX13_checkType, 5, none), (13, yX13_checkOne, cX13_checkOne, 8, none), (13, yX13_beginOf, cX13_beginOf, 2, (some .int)), (13, yX13_paramsOf, cX13_paramsOf, 2, (some .int)), (13, yX13_checkName, cX13_checkName, 5, none), (13, yX13_nameToken, cX13_nameToken, 2, (some .int)), (13, yX13_checkTwo, cX13_checkTwo, 5, none), (13, yX13_unwrapKind, cX13_unwrapKind, 9, (some .int)), (13, yX13_checkGroup, cX13_checkGroup, 4, none), (13, yX13_checkEntry, cX13_checkEntry, 4, none), (13, yX13_checkAll, cX13_checkAll, 3, none), (13, yX13_leadsFrom, cX13_leadsFrom, 4, none), (13, yX13_comesLater, cX13_comesLater, 2, none), (13, yX13_leadsBehind, cX13_leadsBehind, 4, none), (13, yX13_findRings, cX13_findRings, 5, none), (13, yX13_rowBehind, cX13_rowBehind, 4, (some .int)), (13, yX13_contentBehind, cX13_contentBehind, 4, (some .int)), (13, yX13_isInItself, cX13_isInItself, 5, (some .boolean)), (13, yX13_leadsTo, cX13_leadsTo, 5, (some .boolean))]
def dMi_16 : List dMI := [(13, yX13_nameLeadsTo, cX13_nameLeadsTo, 6, (some .boolean)), (13, yX13_hasParam, cX13_hasParam, 4, (some .boolean)), (13, yX13_hasBeside, cX13_hasBeside, 5, (some .boolean)), (13, yX13_argument, cX13_argument, 5, none), (13, yX13_instanceOf, cX13_instanceOf, 10, (some .int)), (13, yX13_use, cX13_use, 5, none), (13, yX13_useRule, cX13_useRule, 4, none), (13, yX13_findInstances, cX13_findInstances, 2, none), (13, yX13_whole, cX13_whole, 3, (some .int)), (13, yX13_ruleOfWhole, cX13_ruleOfWhole, 2, (some .int)), (13, yX13_envOfWhole, cX13_envOfWhole, 1, (some .int)), (13, yX13_capped, cX13_capped, 1, (some .int)), (13, yX13_entriesOfRule, cX13_entriesOfRule, 5, (some .int)), (13, yX13_entriesOfName, cX13_entriesOfName, 2, (some .int)), (13, yX13_entriesOfGroup, cX13_entriesOfGroup, 6, (some .int)), (13, yX13_entriesOfEntry, cX13_entriesOfEntry, 5, (some .int)), (13, yX13_unwrap, cX13_unwrap, 8, none), (13, yX13_tooMuch, cX13_tooMuch, 1, none), (13, yX13_most, cX13_most, 3, (some .int)), (13, yX13_pathOfWhole, cX13_pathOfWhole, 4, (some .int)), (13, yX13_pathOfName, cX13_pathOfName, 6, (some .int)), (13, yX13_isBegunAnew, cX13_isBegunAnew, 2, (some .boolean)), (13, yX13_measureInside, cX13_measureInside, 5, none), (13, yX13_pathBehind, cX13_pathBehind, 6, (some .int)), (13, yX13_pathOf, cX13_pathOf, 5, (some .int))]
def dMi_17 : List dMI := [(13, yX13_measure, cX13_measure, 3, none), (13, yX13_measureWhole, cX13_measureWhole, 3, none), (13, yX13_byteOf, cX13_byteOf, 2, (some .int)), (13, yX13_numberOf, cX13_numberOf, 6, (some .long)), (13, yX13_wideOf, cX13_wideOf, 1, (some .int)), (13, yX13_readItem, cX13_readItem, 12, (some .int)), (13, yX13_readBytes, cX13_readBytes, 12, none), (13, yX13_skipBytes, cX13_skipBytes, 3, none), (13, yX13_readRow, cX13_readRow, 14, none), (13, yX13_item, cX13_item, 6, (some .int)), (13, yX13_node, cX13_node, 5, (some .long)), (13, yX13_forgetKnown, cX13_forgetKnown, 2, none), (13, yX13_takenAt, cX13_takenAt, 7, (some .int)), (13, yX13_keepTaken, cX13_keepTaken, 6, none), (13, yX13_isType, cX13_isType, 6, (some .boolean)), (13, yX13_isOne, cX13_isOne, 7, (some .boolean)), (13, yX13_compareToNode, cX13_compareToNode, 9, (some .int)), (13, yX13_isSameBytes, cX13_isSameBytes, 5, (some .boolean)), (13, yX13_isTwo, cX13_isTwo, 5, (some .boolean)), (13, yX13_isSeven, cX13_isSeven, 4, (some .boolean)), (13, yX13_isName, cX13_isName, 7, (some .boolean)), (13, yX13_knownAt, cX13_knownAt, 4, (some .int)), (13, yX13_ownPlace, cX13_ownPlace, 2, (some .int)), (13, yX13_isRule, cX13_isRule, 9, (some .boolean)), (13, yX13_isPrelude, cX13_isPrelude, 5, (some .boolean))]
def dMi_18 : List dMI := [(13, yX13_isUnwrapped, cX13_isUnwrapped, 4, (some .boolean)), (13, yX13_isIn, cX13_isIn, 7, (some .boolean)), (13, yX13_isOneOf, cX13_isOneOf, 4, (some .boolean)), (13, yX13_isOneIn, cX13_isOneIn, 7, (some .boolean)), (13, yX13_isOneOfEntry, cX13_isOneOfEntry, 7, (some .boolean)), (13, yX13_isOneOfRule, cX13_isOneOfRule, 8, (some .boolean)), (13, yX13_groupSort, cX13_groupSort, 5, (some .int)), (13, yX13_numberItem, cX13_numberItem, 4, (some .int)), (13, yX13_isNumberAs, cX13_isNumberAs, 7, (some .boolean)), (13, yX13_isControlled, cX13_isControlled, 6, (some .boolean)), (13, yX13_isSmall, cX13_isSmall, 7, (some .boolean)), (13, yX13_areBits, cX13_areBits, 7, (some .boolean)), (13, yX13_isInside, cX13_isInside, 6, (some .boolean)), (13, yX13_readInside, cX13_readInside, 11, (some .boolean)), (13, yX13_isRow, cX13_isRow, 5, (some .boolean)), (13, yX13_takeGroup, cX13_takeGroup, 6, (some .int)), (13, yX13_takeChoices, cX13_takeChoices, 7, (some .int)), (13, yX13_takeEntry, cX13_takeEntry, 8, (some .int)), (13, yX13_takeOnce, cX13_takeOnce, 6, (some .int)), (13, yX13_takeRule, cX13_takeRule, 7, (some .int)), (13, yX13_takeTold, cX13_takeTold, 8, (some .int)), (13, yX13_findRow, cX13_findRow, 4, (some .int)), (13, yX13_collectGroup, cX13_collectGroup, 5, none), (13, yX13_collectEntry, cX13_collectEntry, 4, none), (13, yX13_collectName, cX13_collectName, 7, none)]
def dMi_19 : List dMI := [(13, yX13_isKey, cX13_isKey, 5, (some .boolean)), (13, yX13_isMap, cX13_isMap, 15, (some .boolean)), (13, yX13_newSet, cX13_newSet, 3, (some .int)), (13, yX13_add, cX13_add, 3, none), (13, yX13_has, cX13_has, 3, (some .boolean)), (13, yX13_isEmpty, cX13_isEmpty, 4, (some .boolean)), (13, yX13_nextState, cX13_nextState, 6, (some .int)), (13, yX13_join, cX13_join, 4, none), (13, yX13_turnOver, cX13_turnOver, 4, none), (13, yX13_forgetWays, cX13_forgetWays, 2, none), (13, yX13_wayAt, cX13_wayAt, 4, (some .int)), (13, yX13_wayKey, cX13_wayKey, 3, (some .long)), (13, yX13_joinKnown, cX13_joinKnown, 7, (some .boolean)), (13, yX13_keepWay, cX13_keepWay, 6, none), (13, yX13_canGive, cX13_canGive, 7, (some .boolean)), (13, yX13_throughGroup, cX13_throughGroup, 10, none), (13, yX13_throughList, cX13_throughList, 9, none), (13, yX13_throughName, cX13_throughName, 6, none), (13, yX13_throughRule, cX13_throughRule, 11, none), (13, yX13_throughEntry, cX13_throughEntry, 9, none), (13, yX13_throughPairs, cX13_throughPairs, 13, none), (13, yX13_throughTimes, cX13_throughTimes, 11, none), (13, yX13_part, cX13_part, 6, none), (13, yX13_throughOnce, cX13_throughOnce, 7, none), (13, yX13_layPrelude, cX13_layPrelude, 2, none)]
def dMi_20 : List dMI := [(13, yX13_mean, cX13_mean, 2, none), (13, yX13_grammar, cX13_grammar, 3, (some .int)), (13, yX13_place, cX13_place, 1, (some .int)), (13, yX13_choicesOf, cX13_choicesOf, 6, (some .int)), (13, yX13_rule, cX13_rule, 7, (some .int)), (13, yX13_judge, cX13_judge, 3, (some .int)), (13, yX13_say, cX13_say, 2, none), (13, yX13_sayAll, cX13_sayAll, 3, none), (13, yX13_sayNumber, cX13_sayNumber, 5, none), (13, yX13_sayHex, cX13_sayHex, 6, none), (13, yX13_sayBytes, cX13_sayBytes, 6, none), (13, yX13_sayParts, cX13_sayParts, 8, none), (13, yX13_sayRow, cX13_sayRow, 5, none), (13, yX13_sayItem, cX13_sayItem, 2, none), (13, yX13_saySimple, cX13_saySimple, 3, none), (13, yX13_keepDraft, cX13_keepDraft, 2, (some .int)), (13, yX13_write, cX13_write, 5, (some .int)), (13, yX13_head, cX13_head, 6, none), (13, yX13_shortItem, cX13_shortItem, 5, none), (13, yX13_shortMap, cX13_shortMap, 10, none), (13, yX13_isKeyUnder, cX13_isKeyUnder, 7, (some .boolean)), (13, yX13_shorten, cX13_shorten, 2, (some .int)), (13, yX13_out, cX13_out, 2, (some .int))]
def dMis : List dMI := dMi_0 ++ (dMi_1 ++ (dMi_2 ++ (dMi_3 ++ (dMi_4 ++ (dMi_5 ++ (dMi_6 ++ (dMi_7 ++ (dMi_8 ++ (dMi_9 ++ (dMi_10 ++ (dMi_11 ++ (dMi_12 ++ (dMi_13 ++ (dMi_14 ++ (dMi_15 ++ (dMi_16 ++ (dMi_17 ++ (dMi_18 ++ (dMi_19 ++ (dMi_20))))))))))))))))))))
def dWith : List Nat := [434, 463, 501, 516]
def dStr : List (Nat × Nat) := [(4, 1702521203), (4, 1937008994), (4, 1919902307), (7, 31918218883850851), (6, 121399003081079), (3, 6581857), (2, 29804), (2, 25964), (2, 29799), (2, 25959), (2, 29029), (2, 25966), (7, 32770348699510116), (147, 130110202724393739516834816428789902973786474211609909612728151711512925396312184483382633898976786893124352271689461121694286166632855690039271242507603711425651429620758940855518612254744041209756866806523784561101995478239197678382760586909347691151475149168362189990551097057516332713767622616410522667335253035292084717578617972980386549654913379937), (157, 155873394638210813700778571889366062544229003229404910017945120655652041132224547903361943140605303311543844164173836888185311856220754631255412118533385096394806699193861686155693242314611576279876774850575491850386756099427621721305932350111855176293293714601653787884010633402800834510847915069062366434204421483713290696878624986744277146091024253053666172268128452626311522), (147, 128936735167455545300771345504117093494780910744504100004350696220848441876513840744921543973525227598055518682599049506557222787360623550857838797636443744720563514933990674765068522889808867877493272556621421794733398627268205120494049626100344327308218222699328092192213840200897828921376703837349101613025949041315378633993986407238153257797265353058), (150, 2166549022276883466594829566552813808340664907470766462532839357506439278774540144248035832377527917943016568855073460168718915839938793421754674779204538581937350733349349650442236420234287581073385556069790799214670867312986295993259016320800833195314436786357347251715061017832829475811671211361750120821583199202862758709704726306613610943392848078833989218), (107, 60442935239793991739641151232773911561814244403784623961012242208935302569044712089748657240200168661459034458921893110697575288689067941580622658149775992394627690361239715679518163040066518782609749524612177030538913991183564522309969185947783392626961510), (90, 693765301058489506320748143444878457740639897155772719774454494519580051505012082466905408150370147076600905753883007865242638690711915391022120723713433954922902616506050707329763278614849601559053762179694259364198), (20, 309382958947217064449314334326832170607626696753), (10, 567572319217681664273510), (10, 567572318093980780686438), (10, 567572318660229268991078), (5, 435728179558), (4, 1702195828), (4, 1819047278), (9, 1851983302504732716661), (7, 11370515485518195), (2, 8287), (2, 8250), (2, 8236), (3, 2121512), (2, 10088), (1, 34), (2, 30812), (4, 1886352499), (13, 3049779200519975390015540373800), (60, 395764305648929153233427587322240233332490030422818327171301270170465237349819356196826804024056469514102954220509954019923761302934236943772019), (693, 1626642729036008481186216123415172771379896311815010135141573556772997054449227213870837262236798500506458748055637574206824191088049329770088996201193340853806120624010204175609687490673473989364952530436765537416167259083900270984565798686684748555223739727094907582098323149151749996141334263687455391206727990378784049246929599363048867505347403570036281583521834225380222806681267277438966049985116901841517794195056668810264659543357946591880050700258643926773121507007011360988086086978075845280219320200024016865245049824365442770953989258672311323171813013202420342006778377033741705402972199100189468325550002591433178565319291088052294710451364442439111506492139710087757917774965074464484309214597232604931632753652258640043822202866134311549380068870089780789511528329269277077168071950780131903361156195304550083090130224066609240295863731682080554372310672521133453102963197633173399738829311068741975793925149005898384342672674855886539731417709094966327416584028207618615494052048526837114412406310001915828240139517051449910266594810636910682717898385530137573722591973374432559155785620131249036183440706872685123576252542424402142302912311288783431452880562636704268612084452133593606500132833103588376843641753227098917832595812032409638196803392928728529113145138745746624595843604872141200766835262967472084411562945769160109838735059363656547631229122043831513778018596536954623463342521740410634979383582635674380885895583214140874113093097611612294618387950026680321292477053057899398566037493404210372741448607939377801715597684975620043673180081110068283969732793942741994357353419976451482649342614151453243931382003992965920584040812473953)]
end
section
/-! ===== the JDK methods that texts of constants reach (names and decode rows: the printed ones of this claim) ===== -/
def RJ0 : String := "java/lang/String"
def RJ1 : String := "java/lang/StringLatin1"
def RJ3 : String := "jdk/internal/util/Preconditions"
abbrev cJ0_coder_7d493 : ByteArray := prog_22_method_152_code
def yJ0_coder_7d493 : MethodName := ⟨RJ0, "coder", "()B"⟩
abbrev cJ0_length_8abf5 : ByteArray := prog_22_method_54_code
def yJ0_length_8abf5 : MethodName := ⟨RJ0, "length", "()I"⟩
abbrev cJ0_isLatin1_aae02 : ByteArray := prog_22_method_154_code
def yJ0_isLatin1_aae02 : MethodName := ⟨RJ0, "isLatin1", "()Z"⟩
abbrev cJ0_checkIndex_df160 : ByteArray := prog_22_method_155_code
def yJ0_checkIndex_df160 : MethodName := ⟨RJ0, "checkIndex", "(II)V"⟩
abbrev cJ0_charAt_5068e : ByteArray := prog_22_method_56_code
def yJ0_charAt_5068e : MethodName := ⟨RJ0, "charAt", "(I)C"⟩
abbrev cJ1_charAt_3b067 : ByteArray := prog_23_method_2_code
def yJ1_charAt_3b067 : MethodName := ⟨RJ1, "charAt", "([BI)C"⟩
abbrev cJ3_checkIndex_8e157 : ByteArray := prog_27_method_11_code
def yJ3_checkIndex_8e157 : MethodName := ⟨RJ3, "checkIndex", "(IILjava/util/function/BiFunction;)I"⟩
theorem dJ0_coder_7d493_0 : decode cJ0_coder_7d493 0 = .ok (.getstatic 38, 3) := by decide +kernel
theorem dJ0_coder_7d493_3 : decode cJ0_coder_7d493 3 = .ok (.ifCond .eq 10, 3) := by decide +kernel
theorem dJ0_coder_7d493_6 : decode cJ0_coder_7d493 6 = .ok (.aload_n 0, 1) := by decide +kernel
theorem dJ0_coder_7d493_7 : decode cJ0_coder_7d493 7 = .ok (.getfield 15, 3) := by decide +kernel
theorem dJ0_coder_7d493_10 : decode cJ0_coder_7d493 10 = .ok (.goto 4, 3) := by decide +kernel
theorem dJ0_coder_7d493_13 : decode cJ0_coder_7d493 13 = .ok (.iconst 1, 1) := by decide +kernel
theorem dJ0_coder_7d493_14 : decode cJ0_coder_7d493 14 = .ok (.ireturn, 1) := by decide +kernel
theorem dJ0_length_8abf5_0 : decode cJ0_length_8abf5 0 = .ok (.aload_n 0, 1) := by decide +kernel
theorem dJ0_length_8abf5_1 : decode cJ0_length_8abf5 1 = .ok (.getfield 9, 3) := by decide +kernel
theorem dJ0_length_8abf5_4 : decode cJ0_length_8abf5 4 = .ok (.arraylength, 1) := by decide +kernel
theorem dJ0_length_8abf5_5 : decode cJ0_length_8abf5 5 = .ok (.aload_n 0, 1) := by decide +kernel
theorem dJ0_length_8abf5_6 : decode cJ0_length_8abf5 6 = .ok (.invokevirtual 335, 3) := by decide +kernel
theorem dJ0_length_8abf5_9 : decode cJ0_length_8abf5 9 = .ok (.ishr, 1) := by decide +kernel
theorem dJ0_length_8abf5_10 : decode cJ0_length_8abf5 10 = .ok (.ireturn, 1) := by decide +kernel
theorem dJ0_isLatin1_aae02_0 : decode cJ0_isLatin1_aae02 0 = .ok (.getstatic 38, 3) := by decide +kernel
theorem dJ0_isLatin1_aae02_3 : decode cJ0_isLatin1_aae02 3 = .ok (.ifCond .eq 14, 3) := by decide +kernel
theorem dJ0_isLatin1_aae02_6 : decode cJ0_isLatin1_aae02 6 = .ok (.aload_n 0, 1) := by decide +kernel
theorem dJ0_isLatin1_aae02_7 : decode cJ0_isLatin1_aae02 7 = .ok (.getfield 15, 3) := by decide +kernel
theorem dJ0_isLatin1_aae02_10 : decode cJ0_isLatin1_aae02 10 = .ok (.ifCond .ne 7, 3) := by decide +kernel
theorem dJ0_isLatin1_aae02_13 : decode cJ0_isLatin1_aae02 13 = .ok (.iconst 1, 1) := by decide +kernel
theorem dJ0_isLatin1_aae02_14 : decode cJ0_isLatin1_aae02 14 = .ok (.goto 4, 3) := by decide +kernel
theorem dJ0_isLatin1_aae02_17 : decode cJ0_isLatin1_aae02 17 = .ok (.iconst 0, 1) := by decide +kernel
theorem dJ0_isLatin1_aae02_18 : decode cJ0_isLatin1_aae02 18 = .ok (.ireturn, 1) := by decide +kernel
theorem dJ0_checkIndex_df160_0 : decode cJ0_checkIndex_df160 0 = .ok (.iload_n 0, 1) := by decide +kernel
theorem dJ0_checkIndex_df160_1 : decode cJ0_checkIndex_df160 1 = .ok (.iload_n 1, 1) := by decide +kernel
theorem dJ0_checkIndex_df160_2 : decode cJ0_checkIndex_df160 2 = .ok (.getstatic 1053, 3) := by decide +kernel
theorem dJ0_checkIndex_df160_5 : decode cJ0_checkIndex_df160 5 = .ok (.invokestatic 1059, 3) := by decide +kernel
theorem dJ0_checkIndex_df160_8 : decode cJ0_checkIndex_df160 8 = .ok (.pop, 1) := by decide +kernel
theorem dJ0_checkIndex_df160_9 : decode cJ0_checkIndex_df160 9 = .ok (.return_, 1) := by decide +kernel
theorem dJ0_charAt_5068e_0 : decode cJ0_charAt_5068e 0 = .ok (.aload_n 0, 1) := by decide +kernel
theorem dJ0_charAt_5068e_1 : decode cJ0_charAt_5068e 1 = .ok (.invokevirtual 492, 3) := by decide +kernel
theorem dJ0_charAt_5068e_4 : decode cJ0_charAt_5068e 4 = .ok (.ifCond .eq 12, 3) := by decide +kernel
theorem dJ0_charAt_5068e_7 : decode cJ0_charAt_5068e 7 = .ok (.aload_n 0, 1) := by decide +kernel
theorem dJ0_charAt_5068e_8 : decode cJ0_charAt_5068e 8 = .ok (.getfield 9, 3) := by decide +kernel
theorem dJ0_charAt_5068e_11 : decode cJ0_charAt_5068e 11 = .ok (.iload_n 1, 1) := by decide +kernel
theorem dJ0_charAt_5068e_12 : decode cJ0_charAt_5068e 12 = .ok (.invokestatic 495, 3) := by decide +kernel
theorem dJ0_charAt_5068e_15 : decode cJ0_charAt_5068e 15 = .ok (.ireturn, 1) := by decide +kernel
theorem dJ0_charAt_5068e_16 : decode cJ0_charAt_5068e 16 = .ok (.aload_n 0, 1) := by decide +kernel
theorem dJ0_charAt_5068e_17 : decode cJ0_charAt_5068e 17 = .ok (.getfield 9, 3) := by decide +kernel
theorem dJ0_charAt_5068e_20 : decode cJ0_charAt_5068e 20 = .ok (.iload_n 1, 1) := by decide +kernel
theorem dJ0_charAt_5068e_21 : decode cJ0_charAt_5068e 21 = .ok (.invokestatic 498, 3) := by decide +kernel
theorem dJ0_charAt_5068e_24 : decode cJ0_charAt_5068e 24 = .ok (.ireturn, 1) := by decide +kernel
theorem dJ1_charAt_3b067_0 : decode cJ1_charAt_3b067 0 = .ok (.iload_n 1, 1) := by decide +kernel
theorem dJ1_charAt_3b067_1 : decode cJ1_charAt_3b067 1 = .ok (.aload_n 0, 1) := by decide +kernel
theorem dJ1_charAt_3b067_2 : decode cJ1_charAt_3b067 2 = .ok (.arraylength, 1) := by decide +kernel
theorem dJ1_charAt_3b067_3 : decode cJ1_charAt_3b067 3 = .ok (.invokestatic 9, 3) := by decide +kernel
theorem dJ1_charAt_3b067_6 : decode cJ1_charAt_3b067 6 = .ok (.aload_n 0, 1) := by decide +kernel
theorem dJ1_charAt_3b067_7 : decode cJ1_charAt_3b067 7 = .ok (.iload_n 1, 1) := by decide +kernel
theorem dJ1_charAt_3b067_8 : decode cJ1_charAt_3b067 8 = .ok (.baload, 1) := by decide +kernel
theorem dJ1_charAt_3b067_9 : decode cJ1_charAt_3b067 9 = .ok (.sipush 255, 3) := by decide +kernel
theorem dJ1_charAt_3b067_12 : decode cJ1_charAt_3b067 12 = .ok (.iand, 1) := by decide +kernel
theorem dJ1_charAt_3b067_13 : decode cJ1_charAt_3b067 13 = .ok (.i2c, 1) := by decide +kernel
theorem dJ1_charAt_3b067_14 : decode cJ1_charAt_3b067 14 = .ok (.ireturn, 1) := by decide +kernel
theorem dJ3_checkIndex_8e157_0 : decode cJ3_checkIndex_8e157 0 = .ok (.iload_n 0, 1) := by decide +kernel
theorem dJ3_checkIndex_8e157_1 : decode cJ3_checkIndex_8e157 1 = .ok (.ifCond .lt 8, 3) := by decide +kernel
theorem dJ3_checkIndex_8e157_4 : decode cJ3_checkIndex_8e157 4 = .ok (.iload_n 0, 1) := by decide +kernel
theorem dJ3_checkIndex_8e157_5 : decode cJ3_checkIndex_8e157 5 = .ok (.iload_n 1, 1) := by decide +kernel
theorem dJ3_checkIndex_8e157_6 : decode cJ3_checkIndex_8e157 6 = .ok (.if_icmp .lt 10, 3) := by decide +kernel
theorem dJ3_checkIndex_8e157_9 : decode cJ3_checkIndex_8e157 9 = .ok (.aload_n 2, 1) := by decide +kernel
theorem dJ3_checkIndex_8e157_10 : decode cJ3_checkIndex_8e157 10 = .ok (.iload_n 0, 1) := by decide +kernel
theorem dJ3_checkIndex_8e157_11 : decode cJ3_checkIndex_8e157 11 = .ok (.iload_n 1, 1) := by decide +kernel
theorem dJ3_checkIndex_8e157_12 : decode cJ3_checkIndex_8e157 12 = .ok (.invokestatic 95, 3) := by decide +kernel
theorem dJ3_checkIndex_8e157_15 : decode cJ3_checkIndex_8e157 15 = .ok (.athrow, 1) := by decide +kernel
theorem dJ3_checkIndex_8e157_16 : decode cJ3_checkIndex_8e157 16 = .ok (.iload_n 0, 1) := by decide +kernel
theorem dJ3_checkIndex_8e157_17 : decode cJ3_checkIndex_8e157 17 = .ok (.ireturn, 1) := by decide +kernel
end
section
/-! ===== texts of constants: the JDK's length() and charAt() on them ===== -/
def dTJ : List Cond := [.code yJ0_coder_7d493 cJ0_coder_7d493 1 (some .byte), .code yJ0_length_8abf5 cJ0_length_8abf5 1 (some .int), .code yJ0_isLatin1_aae02 cJ0_isLatin1_aae02 1 (some .boolean), .code yJ0_checkIndex_df160 cJ0_checkIndex_df160 2 none, .code yJ0_charAt_5068e cJ0_charAt_5068e 2 (some .char), .code yJ1_charAt_3b067 cJ1_charAt_3b067 2 (some .char), .code yJ3_checkIndex_8e157 cJ3_checkIndex_8e157 3 (some .int),
  .fieldLink RJ0 38 "java/lang/String" "COMPACT_STRINGS" "Z", .fieldLink RJ0 15 "java/lang/String" "coder" "B", .fieldLink RJ0 9 "java/lang/String" "value" "[B", .fieldLink RJ0 1053 "jdk/internal/util/Preconditions" "SIOOBE_FORMATTER" "Ljava/util/function/BiFunction;",
  .methodLink RJ0 335 yJ0_coder_7d493, .instanceMethod yJ0_coder_7d493, .selects RJ0 yJ0_coder_7d493 yJ0_coder_7d493, .methodLink RJ0 492 yJ0_isLatin1_aae02, .instanceMethod yJ0_isLatin1_aae02, .selects RJ0 yJ0_isLatin1_aae02 yJ0_isLatin1_aae02, .initialized RJ0, .initialized RJ1, .initialized RJ3,
  .methodLink RJ0 495 yJ1_charAt_3b067, .static yJ1_charAt_3b067, .methodLink RJ1 9 yJ0_checkIndex_df160, .static yJ0_checkIndex_df160, .methodLink RJ0 1059 yJ3_checkIndex_8e157, .static yJ3_checkIndex_8e157,
  .instanceMethod yJ0_length_8abf5, .selects RJ0 yJ0_length_8abf5 yJ0_length_8abf5, .instanceMethod yJ0_charAt_5068e, .selects RJ0 yJ0_charAt_5068e yJ0_charAt_5068e]
theorem dTJ_good : dTJ.all goodWord = true := by decide +kernel
theorem dGJ {Ts : List Cond} {k : Cond} (hT : ∀ w ∈ dTJ, w ∈ Ts) (hk : k ∈ dTJ) : GoodIn Ts (k :: dTJ) := by
  intro w hw
  have h : w ∈ dTJ := by
    rcases List.mem_cons.mp hw with rfl | h
    · exact hk
    · exact h
  exact ⟨hT w h, good_of_word (List.all_eq_true.mp dTJ_good w h)⟩
/-- what the JDK's statics and the texts hold -/
def dTxt (A : Nat → Prop) (N : Nat) (len : List Nat) (byt : List (List Int32)) (adK adV : Nat → Nat) (U : State) (H : Heap) : Prop :=
  va_Z "java/lang/String" "COMPACT_STRINGS" "Z" (.int 1) A U H ∧ va_Zq "jdk/internal/util/Preconditions" "SIOOBE_FORMATTER" "Ljava/util/function/BiFunction;" A U H ∧ vk_S N len byt adK adV A U H
theorem dTxt.moved {A : Nat → Prop} {N : Nat} {len : List Nat} {byt : List (List Int32)} {adK adV : Nat → Nat} {u U : State} {H : Heap} (hvm : u.vm.Alike U.vm) (h : dTxt A N len byt adK adV u H) : dTxt A N len byt adK adV U H := ⟨h.1.moved hvm, h.2.1.moved hvm, h.2.2.moved hvm⟩
theorem dTxt.kept {A : Nat → Prop} {N : Nat} {len : List Nat} {byt : List (List Int32)} {adK adV : Nat → Nat} {U : State} {H H1 : Heap} (h : dTxt A N len byt adK adV U H) (hq : ∀ a : Nat, a < H.size → ¬ A a → H1[a]? = H[a]?) : dTxt A N len byt adK adV U H1 := ⟨h.1.kept hq, h.2.1.kept hq, h.2.2.kept hq⟩
def dQp (v : Option Value) : Array Value → State → Outcome → State → Prop := fun _ st o t => o = .returned v ∧ t.heap = st.heap
section JT
variable {p : Program} {l : Launch} {e : Env} {R : Room} {s : State} {m : MethodId} {args : Array Value} {below : List Frame} {meth : Method} {c : Code} {H : Heap} {locs : List Loc} {cells slots : Nat} {Q : State → Prop}
variable {pc : Nat} {ls : Array Slot} {rest st0 : List Value} {a : Array Value}
/-- behind a call that changes nothing -/
theorem dt_after {v : Option Value} (hr : va_Run p l e R s m args below meth c H locs cells slots 0 0 (F0 m pc ls st0) rest (dQp v a) (fun _ => False)) (kk : W p l e R s m args below meth c H locs cells slots Q (F0 m (pc + 3) ls (v.toList ++ rest))) : W p l e R s m args below meth c H locs cells slots Q (F0 m pc ls st0) := by
  intro T hT X
  obtain ⟨v9, st₀, t, T', L, h0, X', hL, x1, x2, ⟨hv, hh⟩, st⟩ := hr T hT X
  cases hv
  have hLn : L = [] := by
    cases L with
    | nil => rfl
    | cons q L => exact (hL q List.mem_cons_self).elim
  subst hLn
  rw [List.append_nil] at X'
  obtain ⟨t2, a1, b1⟩ := kk T' (by rw [x1, hh, h0]) X'
  exact ⟨t2, st t2 a1, b1⟩
end JT
section JM
variable (l : Launch) {A : Nat → Prop} {N : Nat} {len : List Nat} {byt : List (List Int32)} {adK adV : Nat → Nat}
theorem dTblind {as : List Value} : FrameBlind (va_Pc as (fun U => dTxt A N len byt adK adV U U.heap)) := fun a U g mk x => ⟨x.1, dTxt.moved (u := U) (U := U.calling g mk a) (Vm.Alike.refl U.vm) x.2⟩
theorem jt_coder {z : Nat} (hz : z < N) : Met l yJ0_coder_7d493 (Cond.code yJ0_coder_7d493 cJ0_coder_7d493 1 (some .byte) :: dTJ) (k2_rm 0 0) (va_Pc [.ref (adK z)] (fun U => dTxt A N len byt adK adV U U.heap)) (dQp (some (.int 0))) 0 0 (fun _ => False) := by
  refine Met.ofW (cc := cJ0_coder_7d493) (maxL := 1) (ret := some .byte) (by decide) rfl ?_
  intro p e s m args below meth c s₁ B hml hv
  obtain ⟨rfl, hZ, hQ, hE⟩ := hv
  have hx := B.exec
  have hb := B.bytes
  have hr := B.returns
  have hts := atoms_spec (ws := Cond.code yJ0_coder_7d493 cJ0_coder_7d493 1 (some .byte) :: dTJ) B.pre
  have hown : s.vm.findClass RJ0 = some m.cls := findClass_of_methodNamed B.named
  have hlocks := B.notSynchronized
  have hS : va_S A s.heap s.heap [] := va_S.rf
  have hl := lv_entry ([.ref (adK z)]) (n := 1) (Nat.le_of_ble_eq_true rfl)
  rw [lg_entry_eq]
  generalize (lg_sl ([.ref (adK z)]) ++ List.replicate (1 - (lg_sl ([.ref (adK z)])).length) Slot.unset).toArray = ls at hl ⊢
  have hl : lv_has ls 1 [(0, .ref (adK z))] := hl
  refine va_gets hx hb hZ hS hown (hts (.fieldLink RJ0 38 "java/lang/String" "COMPACT_STRINGS" "Z") (by decide +kernel)) (fun _ h => h) dJ0_coder_7d493_0 ?_
  refine lv_if_eq (tgt := 13) hx hb dJ0_coder_7d493_3 (by decide) (fun h => absurd h (by decide)) (fun _ => ?_)
  refine lv_aload_n hx hb dJ0_coder_7d493_6 rfl (lv_at hl 0 rfl) ?_
  refine vk_getf hx hb (hE.1 z hz).2.1 hS hown (hts (.fieldLink RJ0 15 "java/lang/String" "coder" "B") (by decide +kernel)) (fun _ h => h) dJ0_coder_7d493_7 ?_
  refine lv_goto (tgt := 14) hx hb dJ0_coder_7d493_10 (by decide) ?_
  exact W.zret hx hb hr (by decide) (fun t ht hW => ⟨rfl, ht⟩) (fun _ h => by cases h) dJ0_coder_7d493_14 hlocks
theorem jt_isLatin1 {z : Nat} (hz : z < N) : Met l yJ0_isLatin1_aae02 (Cond.code yJ0_isLatin1_aae02 cJ0_isLatin1_aae02 1 (some .boolean) :: dTJ) (k2_rm 0 0) (va_Pc [.ref (adK z)] (fun U => dTxt A N len byt adK adV U U.heap)) (dQp (some (.int 1))) 0 0 (fun _ => False) := by
  refine Met.ofW (cc := cJ0_isLatin1_aae02) (maxL := 1) (ret := some .boolean) (by decide) rfl ?_
  intro p e s m args below meth c s₁ B hml hv
  obtain ⟨rfl, hZ, hQ, hE⟩ := hv
  have hx := B.exec
  have hb := B.bytes
  have hr := B.returns
  have hts := atoms_spec (ws := Cond.code yJ0_isLatin1_aae02 cJ0_isLatin1_aae02 1 (some .boolean) :: dTJ) B.pre
  have hown : s.vm.findClass RJ0 = some m.cls := findClass_of_methodNamed B.named
  have hlocks := B.notSynchronized
  have hS : va_S A s.heap s.heap [] := va_S.rf
  have hl := lv_entry ([.ref (adK z)]) (n := 1) (Nat.le_of_ble_eq_true rfl)
  rw [lg_entry_eq]
  generalize (lg_sl ([.ref (adK z)]) ++ List.replicate (1 - (lg_sl ([.ref (adK z)])).length) Slot.unset).toArray = ls at hl ⊢
  have hl : lv_has ls 1 [(0, .ref (adK z))] := hl
  refine va_gets hx hb hZ hS hown (hts (.fieldLink RJ0 38 "java/lang/String" "COMPACT_STRINGS" "Z") (by decide +kernel)) (fun _ h => h) dJ0_isLatin1_aae02_0 ?_
  refine lv_if_eq (tgt := 17) hx hb dJ0_isLatin1_aae02_3 (by decide) (fun h => absurd h (by decide)) (fun _ => ?_)
  refine lv_aload_n hx hb dJ0_isLatin1_aae02_6 rfl (lv_at hl 0 rfl) ?_
  refine vk_getf hx hb (hE.1 z hz).2.1 hS hown (hts (.fieldLink RJ0 15 "java/lang/String" "coder" "B") (by decide +kernel)) (fun _ h => h) dJ0_isLatin1_aae02_7 ?_
  refine lv_if_ne (tgt := 17) hx hb dJ0_isLatin1_aae02_10 (by decide) (fun h => absurd rfl h) (fun _ => ?_)
  refine lv_iconst (v := 1) hx hb dJ0_isLatin1_aae02_13 (by decide) ?_
  refine lv_goto (tgt := 18) hx hb dJ0_isLatin1_aae02_14 (by decide) ?_
  exact W.zret hx hb hr (by decide) (fun t ht hW => ⟨rfl, ht⟩) (fun _ h => by cases h) dJ0_isLatin1_aae02_18 hlocks
theorem jt_length {z : Nat} (hz : z < N) : Met l yJ0_length_8abf5 (Cond.code yJ0_length_8abf5 cJ0_length_8abf5 1 (some .int) :: dTJ) (k2_rm 1 22) (va_Pc [.ref (adK z)] (fun U => dTxt A N len byt adK adV U U.heap)) (dQp (some (.int (Int32.ofNat (len.getD z 0))))) 0 0 (fun _ => False) := by
  refine Met.ofW (cc := cJ0_length_8abf5) (maxL := 1) (ret := some .int) (by decide) rfl ?_
  intro p e s m args below meth c s₁ B hml hv
  obtain ⟨rfl, hT⟩ := hv
  obtain ⟨hZ, hQ, hE⟩ := id hT
  have hx := B.exec
  have hb := B.bytes
  have hr := B.returns
  have hts := atoms_spec (ws := Cond.code yJ0_length_8abf5 cJ0_length_8abf5 1 (some .int) :: dTJ) B.pre
  have hown : s.vm.findClass RJ0 = some m.cls := findClass_of_methodNamed B.named
  have hlocks := B.notSynchronized
  have hS : va_S A s.heap s.heap [] := va_S.rf
  have hl := lv_entry ([.ref (adK z)]) (n := 1) (Nat.le_of_ble_eq_true rfl)
  rw [lg_entry_eq]
  generalize (lg_sl ([.ref (adK z)]) ++ List.replicate (1 - (lg_sl ([.ref (adK z)])).length) Slot.unset).toArray = ls at hl ⊢
  have hl : lv_has ls 1 [(0, .ref (adK z))] := hl
  refine lv_aload_n hx hb dJ0_length_8abf5_0 rfl (lv_at hl 0 rfl) ?_
  refine vk_getf hx hb (hE.1 z hz).2.2.1 hS hown (hts (.fieldLink RJ0 9 "java/lang/String" "value" "[B") (by decide +kernel)) (fun _ h => h) dJ0_length_8abf5_1 ?_
  refine va_tlen hx hb (hE.1 z hz).2.2.2 hS rfl dJ0_length_8abf5_4 ?_
  refine lv_aload_n hx hb dJ0_length_8abf5_5 rfl (lv_at hl 0 rfl) ?_
  have cb := callB_of (R := k2_rm 1 22) (own := RJ0) (index := 335) (y := yJ0_coder_7d493) (rm := k2_rm 0 0) 0 hts (dGJ (k := Cond.code yJ0_coder_7d493 cJ0_coder_7d493 1 (some .byte)) (fun w h => List.mem_cons_of_mem _ h) (by decide +kernel)) rfl rfl rfl (hts (.initialized RJ0) (by decide +kernel)) (hts (.methodLink RJ0 335 yJ0_coder_7d493) (by decide +kernel)) ⟨by decide, by decide, by decide +kernel⟩ ⟨by decide, by decide⟩
  refine dt_after (va_runV (C := RJ0) (b := adK z) (As := []) (rest := [.int (Int32.ofNat (len.getD z 0))]) ⟨hx, hb, hml, hown, hts⟩ (jt_coder l (A := A) (N := N) (len := len) (byt := byt) (adK := adK) (adV := adV) hz) ⟨cb, hts (.instanceMethod yJ0_coder_7d493) (by decide +kernel), hts (.selects RJ0 yJ0_coder_7d493 yJ0_coder_7d493) (by decide +kernel)⟩ ⟨dTblind, vk_recv hE hz hS, fun U hU hW => ⟨rfl, by show dTxt A N len byt adK adV U U.heap; rw [hU]; exact hT.moved hW.alike⟩⟩ rfl rfl hl.1 rfl (lv_room (Nat.le_of_ble_eq_true rfl)) dJ0_length_8abf5_6 ⟨Nat.le_refl _, Nat.le_refl _⟩) ?_
  refine lv_ishr (x := Int32.ofNat (len.getD z 0)) (y := 0) (rest := []) hx hb dJ0_length_8abf5_9 ?_
  have he : Int32.ofNat (len.getD z 0) >>> ((0 : Int32) &&& 31) = Int32.ofNat (len.getD z 0) := by
    rw [show (0 : Int32) &&& 31 = 0 from by decide]; exact Int32.shiftRight_zero
  rw [he]
  exact W.iret hx hb hr (fun t ht hW => ⟨rfl, ht⟩) (fun _ h => by cases h) dJ0_length_8abf5_10 hlocks
/-- checkIndex of a place that is one -/
theorem jt_pre {i n : Int32} {f : Value} (hf : f = .null ∨ ∃ q, f = .ref q) (h0 : ¬ i < 0) (h1 : i < n) : Met l yJ3_checkIndex_8e157 (Cond.code yJ3_checkIndex_8e157 cJ3_checkIndex_8e157 3 (some .int) :: dTJ) (k2_rm 0 0) (va_Pc [.int i, .int n, f] (fun U => dTxt A N len byt adK adV U U.heap)) (dQp (some (.int i))) 0 0 (fun _ => False) := by
  refine Met.ofW (cc := cJ3_checkIndex_8e157) (maxL := 3) (ret := some .int) (by decide) rfl ?_
  intro p e s m args below meth c s₁ B hml hv
  obtain ⟨rfl, hT⟩ := hv
  have hx := B.exec
  have hb := B.bytes
  have hr := B.returns
  have hlocks := B.notSynchronized
  have hcat : f.category = 1 := by rcases hf with rfl | ⟨q, rfl⟩ <;> rfl
  have hlen : (lg_sl ([.int i, .int n, f])).length = 3 := by
    simp only [lg_sl, List.flatMap_cons, List.flatMap_nil, hcat]; rfl
  have hl := lv_entry ([.int i, .int n, f]) (n := 3) (by rw [hlen]; exact Nat.le_refl 3)
  rw [lg_entry_eq]
  generalize (lg_sl ([.int i, .int n, f]) ++ List.replicate (3 - (lg_sl ([.int i, .int n, f])).length) Slot.unset).toArray = ls at hl ⊢
  have hl : lv_has ls 3 [(0, .int i), (1, .int n), (2, f)] := hl
  refine lv_iload_n hx hb dJ3_checkIndex_8e157_0 rfl (lv_at hl 0 rfl) ?_
  refine lv_if_lt (tgt := 9) hx hb dJ3_checkIndex_8e157_1 (by decide) (fun h => absurd h h0) (fun _ => ?_)
  refine lv_iload_n hx hb dJ3_checkIndex_8e157_4 rfl (lv_at hl 0 rfl) ?_
  refine lv_iload_n hx hb dJ3_checkIndex_8e157_5 rfl (lv_at hl 1 rfl) ?_
  refine lv_icmp_lt (tgt := 16) hx hb dJ3_checkIndex_8e157_6 (by decide) (fun _ => ?_) (fun h => absurd h1 h)
  refine lv_iload_n hx hb dJ3_checkIndex_8e157_16 rfl (lv_at hl 0 rfl) ?_
  exact W.iret hx hb hr (fun t ht hW => ⟨rfl, ht⟩) (fun _ h => by cases h) dJ3_checkIndex_8e157_17 hlocks
theorem jt_check {i n : Int32} (h0 : ¬ i < 0) (h1 : i < n) : Met l yJ0_checkIndex_df160 (Cond.code yJ0_checkIndex_df160 cJ0_checkIndex_df160 2 none :: dTJ) (k2_rm 1 22) (va_Pc [.int i, .int n] (fun U => dTxt A N len byt adK adV U U.heap)) (dQp none) 0 0 (fun _ => False) := by
  refine Met.ofW (cc := cJ0_checkIndex_df160) (maxL := 2) (ret := none) (by decide) rfl ?_
  intro p e s m args below meth c s₁ B hml hv
  obtain ⟨rfl, hT⟩ := hv
  obtain ⟨hZ, hQ, hE⟩ := id hT
  have hx := B.exec
  have hb := B.bytes
  have hr := B.returns
  have hts := atoms_spec (ws := Cond.code yJ0_checkIndex_df160 cJ0_checkIndex_df160 2 none :: dTJ) B.pre
  have hown : s.vm.findClass RJ0 = some m.cls := findClass_of_methodNamed B.named
  have hlocks := B.notSynchronized
  have hS : va_S A s.heap s.heap [] := va_S.rf
  have hl := lv_entry ([.int i, .int n]) (n := 2) (Nat.le_of_ble_eq_true rfl)
  rw [lg_entry_eq]
  generalize (lg_sl ([.int i, .int n]) ++ List.replicate (2 - (lg_sl ([.int i, .int n])).length) Slot.unset).toArray = ls at hl ⊢
  have hl : lv_has ls 2 [(0, .int i), (1, .int n)] := hl
  have key : ∀ f : Value, (f = .null ∨ ∃ q, f = .ref q) → va_Z "jdk/internal/util/Preconditions" "SIOOBE_FORMATTER" "Ljava/util/function/BiFunction;" f A s s.heap → W p l e (headSpec (Cond.code yJ0_checkIndex_df160 cJ0_checkIndex_df160 2 none :: dTJ) (k2_rm 1 22)).room s m ([Value.int i, Value.int n]).toArray below meth c s.heap [] 0 0 (MQ below (dQp none) ([Value.int i, Value.int n]).toArray s 0 0 (fun _ => False)) (F0 m 0 ls []) := by
    intro f hf hZf
    refine lv_iload_n hx hb dJ0_checkIndex_df160_0 rfl (lv_at hl 0 rfl) ?_
    refine lv_iload_n hx hb dJ0_checkIndex_df160_1 rfl (lv_at hl 1 rfl) ?_
    refine va_gets hx hb hZf hS hown (hts (.fieldLink RJ0 1053 "jdk/internal/util/Preconditions" "SIOOBE_FORMATTER" "Ljava/util/function/BiFunction;") (by decide +kernel)) (fun _ h => h) dJ0_checkIndex_df160_2 ?_
    have cb := callB_of (R := k2_rm 1 22) (own := RJ0) (index := 1059) (y := yJ3_checkIndex_8e157) (rm := k2_rm 0 0) 3 hts (dGJ (k := Cond.code yJ3_checkIndex_8e157 cJ3_checkIndex_8e157 3 (some .int)) (fun w h => List.mem_cons_of_mem _ h) (by decide +kernel)) rfl rfl rfl (hts (.initialized RJ3) (by decide +kernel)) (hts (.methodLink RJ0 1059 yJ3_checkIndex_8e157) (by decide +kernel)) ⟨by decide, by decide, by decide +kernel⟩ ⟨by decide, by decide⟩
    refine dt_after (va_runS (As := [.int i, .int n, f]) (rest := []) ⟨hx, hb, hml, hown, hts⟩ (jt_pre l (A := A) (N := N) (len := len) (byt := byt) (adK := adK) (adV := adV) hf h0 h1) ⟨cb, hts (.static yJ3_checkIndex_8e157) (by decide +kernel)⟩ ⟨dTblind, fun U hU hW => ⟨rfl, by show dTxt A N len byt adK adV U U.heap; rw [hU]; exact hT.moved hW.alike⟩⟩ rfl rfl hl.1 rfl (lv_room (Nat.le_of_ble_eq_true rfl)) dJ0_checkIndex_df160_5 ⟨Nat.le_refl _, Nat.le_refl _⟩) ?_
    refine lv_pop (va := .int i) (rest := []) hx hb dJ0_checkIndex_df160_8 rfl ?_
    exact W.vret hx hb hr (fun t ht hW => ⟨rfl, ht⟩) (fun _ h => by cases h) dJ0_checkIndex_df160_9 hlocks
  rcases hQ with hq | ⟨t, hq⟩
  · exact key _ (Or.inl rfl) hq
  · exact key _ (Or.inr ⟨t, rfl⟩) hq
end JM
section JC
variable (l : Launch) {A : Nat → Prop} {N : Nat} {len : List Nat} {byt : List (List Int32)} {adK adV : Nat → Nat}
theorem jt_latin {z : Nat} (hz : z < N) {i : Int32} {v : Nat} (h0 : ¬ i < 0) (h1 : i < Int32.ofNat (len.getD z 0)) (hin : vp_in i (len.getD z 0)) (hv : (byt.getD z []).getD i.toNatClampNeg 0 = Int32.ofNat v) (hlt : v < 256) : Met l yJ1_charAt_3b067 (Cond.code yJ1_charAt_3b067 cJ1_charAt_3b067 2 (some .char) :: dTJ) (k2_rm 2 43) (va_Pc [.ref (adV z), .int i] (fun U => dTxt A N len byt adK adV U U.heap)) (dQp (some (.int (Int32.ofNat v)))) 0 0 (fun _ => False) := by
  refine Met.ofW (cc := cJ1_charAt_3b067) (maxL := 2) (ret := some .char) (by decide) rfl ?_
  intro p e s m args below meth c s₁ B hml hw
  obtain ⟨rfl, hT⟩ := hw
  obtain ⟨hZ, hQ, hE⟩ := id hT
  have hx := B.exec
  have hb := B.bytes
  have hr := B.returns
  have hts := atoms_spec (ws := Cond.code yJ1_charAt_3b067 cJ1_charAt_3b067 2 (some .char) :: dTJ) B.pre
  have hown : s.vm.findClass RJ1 = some m.cls := findClass_of_methodNamed B.named
  have hlocks := B.notSynchronized
  have hS : va_S A s.heap s.heap [] := va_S.rf
  have hl := lv_entry ([.ref (adV z), .int i]) (n := 2) (Nat.le_of_ble_eq_true rfl)
  rw [lg_entry_eq]
  generalize (lg_sl ([.ref (adV z), .int i]) ++ List.replicate (2 - (lg_sl ([.ref (adV z), .int i])).length) Slot.unset).toArray = ls at hl ⊢
  have hl : lv_has ls 2 [(0, .ref (adV z)), (1, .int i)] := hl
  refine lv_iload_n hx hb dJ1_charAt_3b067_0 rfl (lv_at hl 1 rfl) ?_
  refine lv_aload_n hx hb dJ1_charAt_3b067_1 rfl (lv_at hl 0 rfl) ?_
  refine va_tlen hx hb (hE.1 z hz).2.2.2 hS rfl dJ1_charAt_3b067_2 ?_
  have cb := callB_of (R := k2_rm 2 43) (own := RJ1) (index := 9) (y := yJ0_checkIndex_df160) (rm := k2_rm 1 22) 2 hts (dGJ (k := Cond.code yJ0_checkIndex_df160 cJ0_checkIndex_df160 2 none) (fun w h => List.mem_cons_of_mem _ h) (by decide +kernel)) rfl rfl rfl (hts (.initialized RJ0) (by decide +kernel)) (hts (.methodLink RJ1 9 yJ0_checkIndex_df160) (by decide +kernel)) ⟨by decide, by decide, by decide +kernel⟩ ⟨by decide, by decide⟩
  refine dt_after (va_runS (As := [.int i, .int (Int32.ofNat (len.getD z 0))]) (rest := []) ⟨hx, hb, hml, hown, hts⟩ (jt_check l (A := A) (N := N) (len := len) (byt := byt) (adK := adK) (adV := adV) h0 h1) ⟨cb, hts (.static yJ0_checkIndex_df160) (by decide +kernel)⟩ ⟨dTblind, fun U hU hW => ⟨rfl, by show dTxt A N len byt adK adV U U.heap; rw [hU]; exact hT.moved hW.alike⟩⟩ rfl rfl hl.1 rfl (lv_room (Nat.le_of_ble_eq_true rfl)) dJ1_charAt_3b067_3 ⟨Nat.le_refl _, Nat.le_refl _⟩) ?_
  refine lv_aload_n hx hb dJ1_charAt_3b067_6 rfl (lv_at hl 0 rfl) ?_
  refine lv_iload_n hx hb dJ1_charAt_3b067_7 rfl (lv_at hl 1 rfl) ?_
  refine va_tb (v := .int (Int32.ofNat v)) hx hb (hE.1 z hz).2.2.2 hS hin (by rw [hv]) dJ1_charAt_3b067_8 ?_
  refine lv_sipush (v := 255) hx hb dJ1_charAt_3b067_9 (by decide) ?_
  refine lv_iand hx hb dJ1_charAt_3b067_12 ?_
  have ha : Int32.ofNat v &&& 255 = nI v := by
    rw [show (255 : Int32) = Int32.ofNat 255 from rfl, di_and0, show v &&& 255 = v % 256 from Nat.and_two_pow_sub_one_eq_mod v 8, Nat.mod_eq_of_lt hlt]; rfl
  rw [ha]
  refine lv_i2c (v := nI v) hx hb dJ1_charAt_3b067_13 (by
    rw [pk_char]
    have : (nI v).toBitVec.toNat = v := by
      show (BitVec.ofNat 32 v).toNat = v
      rw [BitVec.toNat_ofNat]; omega
    rw [this, Nat.mod_eq_of_lt (by omega)]) ?_
  exact W.zret hx hb hr (pk_charN (by omega)).1 (fun t ht hW => ⟨rfl, ht⟩) (fun _ h => by cases h) dJ1_charAt_3b067_14 hlocks
theorem jt_charAt {z : Nat} (hz : z < N) {i : Int32} {v : Nat} (h0 : ¬ i < 0) (h1 : i < Int32.ofNat (len.getD z 0)) (hin : vp_in i (len.getD z 0)) (hv : (byt.getD z []).getD i.toNatClampNeg 0 = Int32.ofNat v) (hlt : v < 256) : Met l yJ0_charAt_5068e (Cond.code yJ0_charAt_5068e cJ0_charAt_5068e 2 (some .char) :: dTJ) (k2_rm 3 64) (va_Pc [.ref (adK z), .int i] (fun U => dTxt A N len byt adK adV U U.heap)) (dQp (some (.int (Int32.ofNat v)))) 0 0 (fun _ => False) := by
  refine Met.ofW (cc := cJ0_charAt_5068e) (maxL := 2) (ret := some .char) (by decide) rfl ?_
  intro p e s m args below meth c s₁ B hml hw
  obtain ⟨rfl, hT⟩ := hw
  obtain ⟨hZ, hQ, hE⟩ := id hT
  have hx := B.exec
  have hb := B.bytes
  have hr := B.returns
  have hts := atoms_spec (ws := Cond.code yJ0_charAt_5068e cJ0_charAt_5068e 2 (some .char) :: dTJ) B.pre
  have hown : s.vm.findClass RJ0 = some m.cls := findClass_of_methodNamed B.named
  have hlocks := B.notSynchronized
  have hS : va_S A s.heap s.heap [] := va_S.rf
  have hl := lv_entry ([.ref (adK z), .int i]) (n := 2) (Nat.le_of_ble_eq_true rfl)
  rw [lg_entry_eq]
  generalize (lg_sl ([.ref (adK z), .int i]) ++ List.replicate (2 - (lg_sl ([.ref (adK z), .int i])).length) Slot.unset).toArray = ls at hl ⊢
  have hl : lv_has ls 2 [(0, .ref (adK z)), (1, .int i)] := hl
  refine lv_aload_n hx hb dJ0_charAt_5068e_0 rfl (lv_at hl 0 rfl) ?_
  have cb := callB_of (R := k2_rm 3 64) (own := RJ0) (index := 492) (y := yJ0_isLatin1_aae02) (rm := k2_rm 0 0) 0 hts (dGJ (k := Cond.code yJ0_isLatin1_aae02 cJ0_isLatin1_aae02 1 (some .boolean)) (fun w h => List.mem_cons_of_mem _ h) (by decide +kernel)) rfl rfl rfl (hts (.initialized RJ0) (by decide +kernel)) (hts (.methodLink RJ0 492 yJ0_isLatin1_aae02) (by decide +kernel)) ⟨by decide, by decide, by decide +kernel⟩ ⟨by decide, by decide⟩
  refine dt_after (va_runV (C := RJ0) (b := adK z) (As := []) (rest := []) ⟨hx, hb, hml, hown, hts⟩ (jt_isLatin1 l (A := A) (N := N) (len := len) (byt := byt) (adK := adK) (adV := adV) hz) ⟨cb, hts (.instanceMethod yJ0_isLatin1_aae02) (by decide +kernel), hts (.selects RJ0 yJ0_isLatin1_aae02 yJ0_isLatin1_aae02) (by decide +kernel)⟩ ⟨dTblind, vk_recv hE hz hS, fun U hU hW => ⟨rfl, by show dTxt A N len byt adK adV U U.heap; rw [hU]; exact hT.moved hW.alike⟩⟩ rfl rfl hl.1 rfl (lv_room (Nat.le_of_ble_eq_true rfl)) dJ0_charAt_5068e_1 ⟨Nat.le_refl _, Nat.le_refl _⟩) ?_
  refine lv_if_eq (tgt := 16) (rest := []) hx hb dJ0_charAt_5068e_4 (by decide) (fun h => absurd h (by decide)) (fun _ => ?_)
  refine lv_aload_n hx hb dJ0_charAt_5068e_7 rfl (lv_at hl 0 rfl) ?_
  refine vk_getf hx hb (hE.1 z hz).2.2.1 hS hown (hts (.fieldLink RJ0 9 "java/lang/String" "value" "[B") (by decide +kernel)) (fun _ h => h) dJ0_charAt_5068e_8 ?_
  refine lv_iload_n hx hb dJ0_charAt_5068e_11 rfl (lv_at hl 1 rfl) ?_
  have cb2 := callB_of (R := k2_rm 3 64) (own := RJ0) (index := 495) (y := yJ1_charAt_3b067) (rm := k2_rm 2 43) 2 hts (dGJ (k := Cond.code yJ1_charAt_3b067 cJ1_charAt_3b067 2 (some .char)) (fun w h => List.mem_cons_of_mem _ h) (by decide +kernel)) rfl rfl rfl (hts (.initialized RJ1) (by decide +kernel)) (hts (.methodLink RJ0 495 yJ1_charAt_3b067) (by decide +kernel)) ⟨by decide, by decide, by decide +kernel⟩ ⟨by decide, by decide⟩
  refine dt_after (va_runS (As := [.ref (adV z), .int i]) (rest := []) ⟨hx, hb, hml, hown, hts⟩ (jt_latin l (A := A) (N := N) (len := len) (byt := byt) (adK := adK) (adV := adV) hz h0 h1 hin hv hlt) ⟨cb2, hts (.static yJ1_charAt_3b067) (by decide +kernel)⟩ ⟨dTblind, fun U hU hW => ⟨rfl, by show dTxt A N len byt adK adV U U.heap; rw [hU]; exact hT.moved hW.alike⟩⟩ rfl rfl hl.1 rfl (lv_room (Nat.le_of_ble_eq_true rfl)) dJ0_charAt_5068e_12 ⟨Nat.le_refl _, Nat.le_refl _⟩) ?_
  exact W.zret hx hb hr (pk_charN (show v < 65536 by omega)).1 (fun t ht hW => ⟨rfl, ht⟩) (fun _ h => by cases h) dJ0_charAt_5068e_15 hlocks
end JC
end
section
/-! ===== a program of words: what each instruction does, and the run of a method ===== -/
def dT0 : Nat := 281474976710656
def dT1 : Nat := 562949953421312
abbrev dI : Type := Instr × Nat × Nat
abbrev dL : Type := List (Nat × dV)
abbrev dR : Type := Option (Option dV × dH)
/-- on to a block: how deep, the method, the place, locals, stack, heap -/
abbrev dRec : Type := Nat → Nat → Nat → dL → List dV → dH → dR
abbrev dCode : Type := dRec → Nat → dL → List dV → dH → dR
/-- the method, what is resolved of the instruction, what comes behind -/
abbrev dOp : Type := Nat → Nat → dCode → dCode
noncomputable def disl (v : dV) : Bool := Sum.rec (motive := fun _ => Bool) (fun _ => false) (fun w => Sum.rec (motive := fun _ => Bool) (fun _ => true) (fun _ => false) w) v
noncomputable def dlk (L : dL) (i : Nat) : Option dV := List.rec (motive := fun _ => Option dV) none (fun a _ ih => cond (Nat.beq a.1 i) (some a.2) ih) L
noncomputable def fltc {α β : Type} (p : α → Bool) (L : List α) : (List α → β) → β := List.rec (motive := fun _ => (List α → β) → β) (fun k => k []) (fun a _ ih k => cond (p a) (ih (fun u => k (a :: u))) (ih k)) L
noncomputable def dp1 (i : Nat) (q : Nat × dV) : Bool := cond (Nat.beq q.1 i) false (cond (Nat.beq (Nat.succ q.1) i) (cond (disl q.2) false true) true)
noncomputable def dp2 (i : Nat) (q : Nat × dV) : Bool := cond (Nat.beq q.1 i) false (cond (Nat.beq q.1 (Nat.succ i)) false (cond (Nat.beq (Nat.succ q.1) i) (cond (disl q.2) false true) true))
def dcd (c : ClassFile.Cond) (a b : Nat) : Bool := match c with
  | .eq => dEq a b
  | .ne => cond (dEq a b) false true
  | .lt => dLt a b
  | .ge => cond (dLt a b) false true
  | .gt => dLt b a
  | .le => cond (dLt b a) false true
/-- a field's word, as its type has it -/
def fv (tc w : Nat) : dV := match tc with
  | 0 => .inl w
  | 1 => .inr (.inl w)
  | 2 => .inl w
  | _ => .inr (.inr w)
-- what a value must be to go on
noncomputable def vI (v : dV) (k : Nat → dR) : dR := Sum.rec (motive := fun _ => dR) k (fun _ => none) v
noncomputable def vL (v : dV) (k : Nat → dR) : dR := Sum.rec (motive := fun _ => dR) (fun _ => none) (fun w => Sum.rec (motive := fun _ => dR) k (fun _ => none) w) v
noncomputable def vR (v : dV) (k : Nat → dR) : dR := Sum.rec (motive := fun _ => dR) (fun _ => none) (fun w => Sum.rec (motive := fun _ => dR) (fun _ => none) k w) v
noncomputable def vA (v : dV) (k : Nat → dR) : dR := vR v fun n => Nat.rec (motive := fun _ => dR) none (fun m _ => k m) n
noncomputable def pop (st : List dV) (k : dV → List dV → dR) : dR := List.rec (motive := fun _ => dR) none (fun v r _ => k v r) st
noncomputable def emp (st : List dV) (x : dR) : dR := List.rec (motive := fun _ => dR) x (fun _ _ _ => none) st
noncomputable def opt {α : Type} (o : Option α) (k : α → dR) : dR := Option.rec (motive := fun _ => dR) none k o
noncomputable def cel (o : Option dC) (k : Nat → Nat → Nat → dR) : dR := Option.rec (motive := fun _ => dR) none (fun c => Prod.rec (motive := fun _ => dR) (fun kd p => Prod.rec (motive := fun _ => dR) (fun n ct => k kd n ct) p) c) o
noncomputable def trip (h : dH) (k : Nat → Nat → List (List dC) → dR) : dR := Prod.rec (motive := fun _ => dR) (fun n p => Prod.rec (motive := fun _ => dR) (fun s cs => k n s cs) p) h
noncomputable def d1 (st : List dV) (k : Nat → List dV → dR) : dR := pop st fun v r => vI v fun a => k a r
noncomputable def d2 (st : List dV) (k : Nat → Nat → List dV → dR) : dR := pop st fun v r => vI v fun b => pop r fun w r => vI w fun a => k a b r
noncomputable def d1l (st : List dV) (k : Nat → List dV → dR) : dR := pop st fun v r => vL v fun a => k a r
noncomputable def d2l (st : List dV) (k : Nat → Nat → List dV → dR) : dR := pop st fun v r => vL v fun b => pop r fun w r => vL w fun a => k a b r
noncomputable def dil (st : List dV) (k : Nat → Nat → List dV → dR) : dR := pop st fun v r => vI v fun b => pop r fun w r => vL w fun a => k a b r
noncomputable def d1a (st : List dV) (k : Nat → List dV → dR) : dR := pop st fun v r => vA v fun a => k a r
noncomputable def dia (st : List dV) (k : Nat → Nat → List dV → dR) : dR := pop st fun v r => vI v fun i => pop r fun w r => vA w fun a => fo (Nat.mod i 4294967296) fun j => k a j r
noncomputable def diia (st : List dV) (k : Nat → Nat → Nat → List dV → dR) : dR := pop st fun v r => vI v fun x => dia r fun a i r => k a i x r
noncomputable def dlia (st : List dV) (k : Nat → Nat → Nat → List dV → dR) : dR := pop st fun v r => vL v fun x => dia r fun a i r => k a i x r
/-- the word of a value, if the type may hold it -/
noncomputable def fe (tc : Nat) (v : dV) (k : Nat → dR) : dR := match tc with
  | 0 => vI v fun n => fo (Nat.mod n 4294967296) k
  | 1 => vL v fun n => fo (Nat.mod n 18446744073709551616) k
  | 2 => vI v fun n => cond (Nat.ble (Nat.mod n 4294967296) 1) (fo (Nat.mod n 4294967296) k) none
  | 3 => vR v fun n => cond (Nat.blt n 18446744073709551616) (k n) none
  | _ => none
/-- arguments, from the last on the stack -/
noncomputable def dpop (n : Nat) : List dV → List dV → (List dV → List dV → dR) → dR := Nat.rec (motive := fun _ => List dV → List dV → (List dV → List dV → dR) → dR) (fun st acc k => k acc st) (fun _ ih st acc k => pop st fun v r => ih r (v :: acc) k) n
/-- locals of arguments -/
noncomputable def dargs {β : Type} (as : List dV) : Nat → (dL → Nat → β) → β := List.rec (motive := fun _ => Nat → (dL → Nat → β) → β) (fun i k => k [] i) (fun v _ ih i k => cond (disl v) (ih (Nat.succ (Nat.succ i)) (fun u n => k ((i, v) :: u) n)) (ih (Nat.succ i) (fun u n => k ((i, v) :: u) n))) as
noncomputable def dcat (st : List dV) : Nat := List.rec (motive := fun _ => Nat) 0 (fun v _ ih => Nat.add (cond (disl v) 2 1) ih) st
/-- a place in a row -/
def din (i n : Nat) (x : dR) : dR := cond (Nat.blt i n) (cond (Nat.blt i 2147483648) x none) none
/-- a call: x has the method, its locals, how many arguments, its class -/
noncomputable def dcall (rec : dRec) (d : Nat) (x : Nat) (as : List dV) (h : dH) (k : Option dV → dH → dR) : dR := Nat.rec (motive := fun _ => dR) none (fun d' _ => dargs as 0 fun L n => cond (Nat.ble n (Nat.mod (Nat.div x 256) 64)) (opt (rec d' (Nat.div x 16384) 0 L [] h) fun z => Prod.rec (motive := fun _ => dR) (fun r h' => k r h') z) none) d
noncomputable def dgo (nxt : dCode) (rec : dRec) (d : Nat) (L : dL) (r : List dV) (v : Option dV) (h : dH) : dR := Option.rec (motive := fun _ => dR) (nxt rec d L r h) (fun w => nxt rec d L (w :: r) h) v
/-- the text of a constant: how long, and its bytes -/
noncomputable def dstr (a : Nat) (k : Nat → Nat → dR) : dR := cond (Nat.beq (dT0 + a % 1048576) a) (opt (nth dStr (a % 1048576)) fun z => Prod.rec (motive := fun _ => dR) (fun n ct => k n ct) z) none
-- the instructions
noncomputable def o_int (y x : Nat) (nxt : dCode) : dCode := fun rec d L st h => nxt rec d L (.inl x :: st) h
noncomputable def o_long (y x : Nat) (nxt : dCode) : dCode := fun rec d L st h => nxt rec d L (.inr (.inl x) :: st) h
noncomputable def o_ldc (y x : Nat) (nxt : dCode) : dCode := fun rec d L st h => cond (Nat.blt x 4294967296) (nxt rec d L (.inl x :: st) h) none
/-- a text -/
noncomputable def o_ldt (y x : Nat) (nxt : dCode) : dCode := fun rec d L st h => cond (Nat.blt x 4294967296) none (nxt rec d L (.inr (.inr (Nat.succ (dT0 + x % 1048576))) :: st) h)
noncomputable def o_iload (y x : Nat) (nxt : dCode) : dCode := fun rec d L st h => opt (dlk L x) fun v => vI v fun n => nxt rec d L (.inl n :: st) h
noncomputable def o_lload (y x : Nat) (nxt : dCode) : dCode := fun rec d L st h => opt (dlk L x) fun v => vL v fun n => nxt rec d L (.inr (.inl n) :: st) h
noncomputable def o_aload (y x : Nat) (nxt : dCode) : dCode := fun rec d L st h => opt (dlk L x) fun v => vA v fun n => nxt rec d L (.inr (.inr (Nat.succ n)) :: st) h
noncomputable def o_istore (y x : Nat) (nxt : dCode) : dCode := fun rec d L st h => d1 st fun v r => fltc (dp1 x) L fun u => nxt rec d ((x, .inl v) :: u) r h
noncomputable def o_lstore (y x : Nat) (nxt : dCode) : dCode := fun rec d L st h => d1l st fun v r => fltc (dp2 x) L fun u => nxt rec d ((x, .inr (.inl v)) :: u) r h
noncomputable def o_astore (y x : Nat) (nxt : dCode) : dCode := fun rec d L st h => d1a st fun v r => fltc (dp1 x) L fun u => nxt rec d ((x, .inr (.inr (Nat.succ v))) :: u) r h
noncomputable def o_iinc (y x : Nat) (nxt : dCode) : dCode := fun rec d L st h => opt (dlk L (Nat.div x 4294967296)) fun v => vI v fun n => fo (dAdd n (Nat.mod x 4294967296)) fun w => fltc (dp1 (Nat.div x 4294967296)) L fun u => nxt rec d ((Nat.div x 4294967296, .inl w) :: u) st h
noncomputable def o_bin (f : Nat → Nat → Nat) (y x : Nat) (nxt : dCode) : dCode := fun rec d L st h => d2 st fun a b r => fo (f a b) fun v => nxt rec d L (.inl v :: r) h
noncomputable def o_binl (f : Nat → Nat → Nat) (y x : Nat) (nxt : dCode) : dCode := fun rec d L st h => d2l st fun a b r => fo (f a b) fun v => nxt rec d L (.inr (.inl v) :: r) h
noncomputable def o_shl (f : Nat → Nat → Nat) (y x : Nat) (nxt : dCode) : dCode := fun rec d L st h => dil st fun a b r => fo (f a b) fun v => nxt rec d L (.inr (.inl v) :: r) h
noncomputable def o_lcmp (y x : Nat) (nxt : dCode) : dCode := fun rec d L st h => d2l st fun a b r => fo (dCmp a b) fun v => nxt rec d L (.inl v :: r) h
noncomputable def o_un (f : Nat → Nat) (y x : Nat) (nxt : dCode) : dCode := fun rec d L st h => d1 st fun a r => fo (f a) fun v => nxt rec d L (.inl v :: r) h
noncomputable def o_i2l (y x : Nat) (nxt : dCode) : dCode := fun rec d L st h => d1 st fun a r => fo (dI2l a) fun v => nxt rec d L (.inr (.inl v) :: r) h
noncomputable def o_l2i (y x : Nat) (nxt : dCode) : dCode := fun rec d L st h => d1l st fun a r => fo (dL2i a) fun v => nxt rec d L (.inl v :: r) h
noncomputable def o_if (c : ClassFile.Cond) (y x : Nat) (nxt : dCode) : dCode := fun rec d L st h => d1 st fun a r => cond (dcd c a 0) (rec d y x L r h) (nxt rec d L r h)
noncomputable def o_icmp (c : ClassFile.Cond) (y x : Nat) (nxt : dCode) : dCode := fun rec d L st h => d2 st fun a b r => cond (dcd c a b) (rec d y x L r h) (nxt rec d L r h)
noncomputable def o_goto (y x : Nat) (nxt : dCode) : dCode := fun rec d L st h => rec d y x L st h
noncomputable def o_tsw (y x : Nat) (nxt : dCode) : dCode := fun rec d L st h => d1 st fun a r => fo (dSub a (Nat.mod x 4294967296)) fun j => fo (Nat.shiftRight x 32) fun w => cond (Nat.blt j (wd 16 w 0)) (fo (wd 16 w (Nat.succ (Nat.succ j))) fun t => rec d y t L r h) (fo (wd 16 w 1) fun t => rec d y t L r h)
noncomputable def o_dup (y x : Nat) (nxt : dCode) : dCode := fun rec d L st h => pop st fun v r => cond (disl v) none (nxt rec d L (v :: v :: r) h)
noncomputable def o_pop (y x : Nat) (nxt : dCode) : dCode := fun rec d L st h => pop st fun v r => cond (disl v) none (nxt rec d L r h)
noncomputable def o_dup2 (y x : Nat) (nxt : dCode) : dCode := fun rec d L st h => pop st fun v r => cond (disl v) (nxt rec d L (v :: v :: r) h) (pop r fun w r2 => cond (disl w) none (nxt rec d L (v :: w :: v :: w :: r2) h))
noncomputable def o_getfield (y x : Nat) (nxt : dCode) : dCode := fun rec d L st h => d1a st fun a r => cel (hat h a) fun kd n ct => cond (Nat.beq kd (Nat.add (Nat.div x 1024) 4)) (fo (wd 64 ct (Nat.mod (Nat.div x 4) 256)) fun w => nxt rec d L (fv (Nat.mod x 4) w :: r) h) none
noncomputable def o_putfield (y x : Nat) (nxt : dCode) : dCode := fun rec d L st h => pop st fun v st1 => d1a st1 fun a r => cel (hat h a) fun kd n ct => cond (Nat.beq kd (Nat.add (Nat.div x 1024) 4)) (fe (Nat.mod x 4) v fun w => fo (wst 64 ct (Nat.mod (Nat.div x 4) 256) w) fun c' => hset h a (kd, n, c') (fun h' => nxt rec d L r h') none) none
noncomputable def o_new (y x : Nat) (nxt : dCode) : dCode := fun rec d L st h => trip h fun n s cs => cond (Nat.blt n 1073741824) (fo (Nat.add (Nat.div x 256) 4) fun kd => hpush (n, s, cs) (kd, Nat.mod x 256, 0) (Nat.mod x 256) (fun h' => nxt rec d L (.inr (.inr (Nat.succ n)) :: st) h') none) none
noncomputable def o_newarray (y x : Nat) (nxt : dCode) : dCode := fun rec d L st h => d1 st fun a r => trip h fun n s cs => cond (Nat.blt n 1073741824) (fo (Nat.mod a 4294967296) fun k => cond (Nat.ble k 67108864) (hpush (n, s, cs) (x, k, 0) k (fun h' => nxt rec d L (.inr (.inr (Nat.succ n)) :: r) h') none) none) none
noncomputable def o_alen (y x : Nat) (nxt : dCode) : dCode := fun rec d L st h => d1a st fun a r => cel (hat h a) fun kd n _ => cond (Nat.blt kd 4) (nxt rec d L (.inl n :: r) h) none
noncomputable def o_iaload (y x : Nat) (nxt : dCode) : dCode := fun rec d L st h => dia st fun a i r => cel (hat h a) fun kd n ct => cond (Nat.beq kd 0) (din i n (fo (wd 32 ct i) fun w => nxt rec d L (.inl w :: r) h)) none
noncomputable def o_laload (y x : Nat) (nxt : dCode) : dCode := fun rec d L st h => dia st fun a i r => cel (hat h a) fun kd n ct => cond (Nat.beq kd 1) (din i n (fo (wd 64 ct i) fun w => nxt rec d L (.inr (.inl w) :: r) h)) none
noncomputable def o_baload (y x : Nat) (nxt : dCode) : dCode := fun rec d L st h => dia st fun a i r => cel (hat h a) fun kd n ct => cond (Nat.beq kd 2) (din i n (fo (dI2b (wd 8 ct i)) fun w => nxt rec d L (.inl w :: r) h)) (cond (Nat.beq kd 3) (din i n (fo (wd 8 ct i) fun w => nxt rec d L (.inl w :: r) h)) none)
noncomputable def o_iastore (y x : Nat) (nxt : dCode) : dCode := fun rec d L st h => diia st fun a i v r => cel (hat h a) fun kd n ct => cond (Nat.beq kd 0) (din i n (fo (wst 32 ct i (Nat.mod v 4294967296)) fun c' => hset h a (0, n, c') (fun h' => nxt rec d L r h') none)) none
noncomputable def o_lastore (y x : Nat) (nxt : dCode) : dCode := fun rec d L st h => dlia st fun a i v r => cel (hat h a) fun kd n ct => cond (Nat.beq kd 1) (din i n (fo (wst 64 ct i (Nat.mod v 18446744073709551616)) fun c' => hset h a (1, n, c') (fun h' => nxt rec d L r h') none)) none
noncomputable def o_bastore (y x : Nat) (nxt : dCode) : dCode := fun rec d L st h => diia st fun a i v r => cel (hat h a) fun kd n ct => cond (Nat.beq kd 2) (din i n (fo (wst 8 ct i (Nat.mod v 256)) fun c' => hset h a (2, n, c') (fun h' => nxt rec d L r h') none)) (cond (Nat.beq kd 3) (din i n (fo (wst 8 ct i (Nat.mod v 2)) fun c' => hset h a (3, n, c') (fun h' => nxt rec d L r h') none)) none)
noncomputable def o_static (y x : Nat) (nxt : dCode) : dCode := fun rec d L st h => dpop (Nat.mod (Nat.div x 16) 16) st [] fun as r => cond (Nat.ble (dcat r) 8) (dcall rec d x as h fun v h' => dgo nxt rec d L r v h') none
noncomputable def o_virtual (y x : Nat) (nxt : dCode) : dCode := fun rec d L st h => dpop (Nat.mod (Nat.div x 16) 16) st [] fun as r1 => d1a r1 fun a r => cel (hat h a) fun kd _ _ => cond (Nat.beq kd (Nat.add (Nat.mod x 16) 4)) (cond (Nat.ble (dcat r) 8) (dcall rec d x (.inr (.inr (Nat.succ a)) :: as) h fun v h' => dgo nxt rec d L r v h') none) none
noncomputable def o_special (y x : Nat) (nxt : dCode) : dCode := fun rec d L st h => dpop (Nat.mod (Nat.div x 16) 16) st [] fun as r1 => d1a r1 fun a r => cond (Nat.ble (dcat r) 8) (dcall rec d x (.inr (.inr (Nat.succ a)) :: as) h fun v h' => dgo nxt rec d L r v h') none
noncomputable def o_objinit (y x : Nat) (nxt : dCode) : dCode := fun rec d L st h => Nat.rec (motive := fun _ => dR) none (fun _ _ => d1a st fun _ r => cond (Nat.ble (dcat r) 8) (nxt rec d L r h) none) d
noncomputable def o_return (y x : Nat) (nxt : dCode) : dCode := fun rec d L st h => emp st (some (none, h))
noncomputable def o_ireturn (y x : Nat) (nxt : dCode) : dCode := fun rec d L st h => d1 st fun v r => emp r (cond (Nat.beq x 1) (some (some (.inl v), h)) (cond (Nat.ble (Nat.mod v 4294967296) 1) (some (some (.inl v), h)) none))
noncomputable def o_lreturn (y x : Nat) (nxt : dCode) : dCode := fun rec d L st h => d1l st fun v r => emp r (some (some (.inr (.inl v)), h))
noncomputable def o_strlen (y x : Nat) (nxt : dCode) : dCode := fun rec d L st h => d1a st fun a r => dstr a fun n _ => cond (Nat.ble 4 d) (cond (Nat.ble (dcat r) 8) (nxt rec d L (.inl n :: r) h) none) none
noncomputable def o_charAt (y x : Nat) (nxt : dCode) : dCode := fun rec d L st h => dia st fun a i r => dstr a fun n ct => cond (Nat.blt i n) (cond (Nat.ble 4 d) (cond (Nat.ble (dcat r) 8) (fo (wd 8 ct i) fun w => nxt rec d L (.inl w :: r) h) none) none) none
/-- what an instruction does; none: no instruction of this program of words -/
noncomputable def dop (ins : Instr) (x : Nat) : Option dOp := match ins with
  | .iconst _ => some o_int
  | .bipush _ => some o_int
  | .sipush _ => some o_int
  | .lconst _ => some o_long
  | .ldc _ => cond (Nat.blt x 4294967296) (some o_ldc) (some o_ldt)
  | .ldc_w _ => some o_ldc
  | .ldc2_w _ => some o_long
  | .iload_n _ => some o_iload
  | .iload _ => some o_iload
  | .lload_n _ => some o_lload
  | .lload _ => some o_lload
  | .aload_n _ => some o_aload
  | .aload _ => some o_aload
  | .istore_n _ => some o_istore
  | .istore _ => some o_istore
  | .lstore_n _ => some o_lstore
  | .lstore _ => some o_lstore
  | .astore_n _ => some o_astore
  | .astore _ => some o_astore
  | .iinc _ _ => some o_iinc
  | .iadd => some (o_bin dAdd)
  | .isub => some (o_bin dSub)
  | .imul => some (o_bin dMul)
  | .iand => some (o_bin dAnd)
  | .ior => some (o_bin dOr)
  | .ixor => some (o_bin dXor)
  | .ishl => some (o_bin dShl)
  | .ineg => some (o_un dNeg)
  | .i2b => some (o_un dI2b)
  | .i2l => some o_i2l
  | .l2i => some o_l2i
  | .ladd => some (o_binl dLAdd)
  | .lsub => some (o_binl dLSub)
  | .lmul => some (o_binl dLMul)
  | .land => some (o_binl dLAnd)
  | .lor => some (o_binl dLOr)
  | .lxor => some (o_binl dLXor)
  | .lcmp => some o_lcmp
  | .lshl => some (o_shl dLShl)
  | .lushr => some (o_shl dLUshr)
  | .ifCond c _ => some (o_if c)
  | .if_icmp c _ => some (o_icmp c)
  | .goto _ => some o_goto
  | .tableswitch _ _ _ _ => some o_tsw
  | .dup => some o_dup
  | .pop => some o_pop
  | .dup2 => some o_dup2
  | .getfield _ => some o_getfield
  | .putfield _ => some o_putfield
  | .new _ => cond (Nat.beq x 0) none (some o_new)
  | .newarray _ => some o_newarray
  | .arraylength => some o_alen
  | .iaload => some o_iaload
  | .laload => some o_laload
  | .baload => some o_baload
  | .iastore => some o_iastore
  | .lastore => some o_lastore
  | .bastore => some o_bastore
  | .invokestatic _ => cond (Nat.ble 1099511627776 x) none (some o_static)
  | .invokevirtual _ => cond (Nat.ble 1099511627776 x) (cond (Nat.beq x 1099511627777) (some o_strlen) (cond (Nat.beq x 1099511627778) (some o_charAt) none)) (some o_virtual)
  | .invokespecial _ => cond (Nat.ble 1099511627776 x) (cond (Nat.beq x 1099511627776) (some o_objinit) none) (some o_special)
  | .return_ => some o_return
  | .ireturn => some o_ireturn
  | .lreturn => some o_lreturn
  | _ => none
/-- a block: what it does, and on to the block behind it -/
noncomputable def djmp (y pc : Nat) : dCode := fun rec d L st h => rec d y pc L st h
noncomputable def dnone : dCode := fun _ _ _ _ _ => none
noncomputable def dcomp (y : Nat) (is : List dI) : Nat → dCode := List.rec (motive := fun _ => Nat → dCode) (fun pc => djmp y pc) (fun i _ ih pc => match dop i.1 i.2.2 with
  | none => dnone
  | some o => o y i.2.2 (ih (pc + i.2.1))) is
noncomputable def drun (P : Nat → Nat → Option dCode) (f : Nat) : dRec := Nat.rec (motive := fun _ => dRec) (fun _ _ _ _ _ _ => none) (fun _ ih d y pc L st h => opt (P y pc) fun c => c ih d L st h) f
end
section
/-! ===== the words of the tables that the program's links stand on; what is checked of each instruction ===== -/
def dWC (q : dMI) : Cond := .code q.2.1 q.2.2.1 q.2.2.2.1 q.2.2.2.2
def dWF (o : Nat) (e : Nat × Nat × Nat) : Cond := .fieldLink (cR o) e.1 (cT e.2.1 e.2.2).1 (cT e.2.1 e.2.2).2.1 (cT e.2.1 e.2.2).2.2.1
def dWM (o : Nat) (e : Nat × Nat × Nat) : List Cond := match dMis[e.2.1]? with
  | none => []
  | some q => match e.2.2 with
    | 0 => [.methodLink (cR o) e.1 q.2.1, .static q.2.1, .initialized q.2.1.cls]
    | 1 => [.methodLink (cR o) e.1 q.2.1, .instanceMethod q.2.1, .selects q.2.1.cls q.2.1 q.2.1, .initialized q.2.1.cls]
    | 2 => [.methodLink (cR o) e.1 q.2.1, .instanceMethod q.2.1, .initialized q.2.1.cls]
    | _ => [.static q.2.1, .initialized q.2.1.cls]
def dWL (o : Nat) : List Cond := (dCT o).map (fun e => .classLink (cR o) e.1 (cR e.2)) ++ ((dKT o).map (fun e => .constant (cR o) e.1 (Int32.ofNat e.2)) ++ (dJT o).map (fun e => .constantLong (cR o) e.1 (Int64.ofNat e.2)))
def dWo (o : Nat) : List Cond := u_ws (cR o) (cT o) (cN o) ++ ([.initialized (cR o), .instantiable (cR o) (cN o)] ++ ((dFT o).map (dWF o) ++ ((dMT o).flatMap (dWM o) ++ ((dOT o).map (fun i => .methodLink (cR o) i objectInit) ++ dWL o))))
/-- where texts are loaded: class, place, number of the text -/
def dSR : List (Nat × Nat × Nat) := [(7, 161, 0), (7, 167, 1), (7, 169, 2), (7, 171, 3), (7, 173, 4), (7, 175, 5), (7, 177, 6), (7, 179, 7), (7, 181, 8), (7, 183, 9), (7, 185, 10), (7, 187, 11), (7, 189, 12), (9, 35, 13), (9, 41, 14), (9, 43, 15), (9, 45, 16), (9, 47, 17), (9, 49, 18), (11, 126, 19), (11, 132, 20), (11, 134, 21), (11, 136, 22), (11, 143, 23), (11, 147, 24), (11, 151, 25), (11, 155, 26), (11, 157, 27), (11, 159, 28), (11, 164, 29), (11, 166, 30), (11, 181, 31), (11, 186, 32), (11, 188, 33), (11, 196, 34), (13, 15, 35), (13, 444, 36), (13, 603, 37), (13, 1055, 38), (13, 1107, 32), (13, 1109, 33), (13, 1117, 34), (13, 1119, 31), (13, 1121, 30), (13, 1126, 28), (13, 1128, 29), (13, 1133, 19), (13, 1144, 20), (13, 1146, 21), (13, 1148, 22), (13, 1150, 23), (13, 1152, 24), (13, 1154, 25), (13, 1156, 26), (13, 1158, 27)]
def dTn : List String := ["size", "bits", "cbor", "cborseq", "within", "and", "lt", "le", "gt", "ge", "eq", "ne", "default", "any = # uint = #0 nint = #1 int = uint / nint bstr = #2 bytes = #2 tstr = #3 text = #3 tdate = #6.0(tstr) time = #6.1(number) number = int / float ", "biguint = #6.2(bstr) bignint = #6.3(bstr) bigint = biguint / bignint integer = int / bigint unsigned = uint / biguint decfrac = #6.4([e10: int, m: integer]) ", "bigfloat = #6.5([e2: int, m: integer]) eb64url = #6.21(any) eb64legacy = #6.22(any) eb16 = #6.23(any) encoded-cbor = #6.24(bstr) uri = #6.32(tstr) ", "b64url = #6.33(tstr) b64legacy = #6.34(tstr) regexp = #6.35(tstr) mime-message = #6.36(tstr) cbor-any = #6.55799(any) float16 = #7.25 float32 = #7.26 ", "float64 = #7.27 float16-32 = float16 / float32 float32-64 = float32 / float64 float = float16-32 / float64 ", "false = #7.20 true = #7.21 bool = false / true nil = #7.22 null = #7.22 undefined = #7.23 ", "18446744073709551616", "float16(0x", "float32(0x", "float64(0x", "false", "true", "null", "undefined", "simple(", "_ ", ": ", ", ", "(_ ", "h'", "\"", "\\x", "stop", "(){}[]<>,:^~&", "size bits cbor cborseq within and lt le gt ge eq ne default ", "any=# uint=#0 nint=#1 int=uint/nint bstr=#2 bytes=#2 tstr=#3 text=#3 tdate=#6.0(tstr) time=#6.1(number) number=int/float biguint=#6.2(bstr) bignint=#6.3(bstr) bigint=biguint/bignint integer=int/bigint unsigned=uint/biguint decfrac=#6.4([e10:int,m:integer]) bigfloat=#6.5([e2:int,m:integer]) eb64url=#6.21(any) eb64legacy=#6.22(any) eb16=#6.23(any) encoded-cbor=#6.24(bstr) uri=#6.32(tstr) b64url=#6.33(tstr) b64legacy=#6.34(tstr) regexp=#6.35(tstr) mime-message=#6.36(tstr) cbor-any=#6.55799(any) float16=#7.25 float32=#7.26 float64=#7.27 float16-32=float16/float32 float32-64=float32/float64 float=float16-32/float64 false=#7.20 true=#7.21 bool=false/true nil=#7.22 null=#7.22 undefined=#7.23"]
/-- where length() and charAt() are called -/
def dSM : List (Nat × Nat × Nat) := [(9, 74, 1), (9, 80, 2), (11, 64, 1), (11, 69, 2), (13, 605, 1), (13, 608, 2)]
def dWS (e : Nat × Nat × Nat) : Cond := .methodLink (cR e.1) e.2.1 (match e.2.2 with | 1 => yJ0_length_8abf5 | _ => yJ0_charAt_5068e)
/-- methods that no handler stands in -/
def dMs : List dMI := (dMis.zipIdx.filter fun q => !(dWith.contains q.2)).map (·.1)
def dTB : List Cond := [.instanceMethod objectInit, .code objectInit ⟨#[0xb1]⟩ 1 none, .arrayClass .int, .arrayClass .long, .arrayClass .byte, .arrayClass .boolean] ++ ((List.range 14).flatMap dWo ++ (dMs.map dWC ++ (dTJ ++ dSM.map dWS)))
theorem dMs_mem {y : Nat} {t : dMI} (h : dMis[y]? = some t) (hn : dWith.contains y = false) : t ∈ dMs :=
  List.mem_map.mpr ⟨(t, y), List.mem_filter.mpr ⟨List.mem_zipIdx_iff_getElem?.mpr h, by show (!(dWith.contains y)) = true; rw [hn]; rfl⟩, rfl⟩
set_option maxRecDepth 100000 in
theorem dTB_good : dTB.all goodWord = true := by decide +kernel
abbrev dTs (q : dMI) : List Cond := dWC q :: dTB
theorem dTB_o {o : Nat} (ho : o < 14) {w : Cond} (h : w ∈ dWo o) : w ∈ dTB :=
  List.mem_append.mpr (Or.inr (List.mem_append.mpr (Or.inl (List.mem_flatMap.mpr ⟨o, List.mem_range.mpr ho, h⟩))))
theorem dTB_f {o : Nat} (ho : o < 14) {e : Nat × Nat × Nat} (h : e ∈ dFT o) : dWF o e ∈ dTB := dTB_o ho (by
  unfold dWo; simp only [List.mem_append]; exact Or.inr (Or.inr (Or.inl (List.mem_map.mpr ⟨e, h, rfl⟩))))
theorem dTB_m {o : Nat} (ho : o < 14) {e : Nat × Nat × Nat} (h : e ∈ dMT o) {w : Cond} (hw : w ∈ dWM o e) : w ∈ dTB := dTB_o ho (by
  unfold dWo; simp only [List.mem_append]; exact Or.inr (Or.inr (Or.inr (Or.inl (List.mem_flatMap.mpr ⟨e, h, hw⟩)))))
theorem dTB_i {o i : Nat} (ho : o < 14) (h : i ∈ dOT o) : Cond.methodLink (cR o) i objectInit ∈ dTB := dTB_o ho (by
  unfold dWo; simp only [List.mem_append]; exact Or.inr (Or.inr (Or.inr (Or.inr (Or.inl (List.mem_map.mpr ⟨i, h, rfl⟩))))))
theorem dTB_l {o : Nat} (ho : o < 14) {w : Cond} (h : w ∈ dWL o) : w ∈ dTB := dTB_o ho (by
  unfold dWo; simp only [List.mem_append]; exact Or.inr (Or.inr (Or.inr (Or.inr (Or.inr h)))))
theorem dTB_u {o : Nat} (ho : o < 14) {w : Cond} (h : w ∈ u_ws (cR o) (cT o) (cN o)) : w ∈ dTB := dTB_o ho (by
  unfold dWo; simp only [List.mem_append]; exact Or.inl h)
theorem dTB_n {o : Nat} (ho : o < 14) {w : Cond} (h : w ∈ ([.initialized (cR o), .instantiable (cR o) (cN o)] : List Cond)) : w ∈ dTB := dTB_o ho (by
  unfold dWo; simp only [List.mem_append]; exact Or.inr (Or.inl h))
theorem dTB_c {q : dMI} (h : q ∈ dMs) : dWC q ∈ dTB := List.mem_append.mpr (Or.inr (List.mem_append.mpr (Or.inr (List.mem_append.mpr (Or.inl (List.mem_map.mpr ⟨q, h, rfl⟩))))))
theorem dTB_j {w : Cond} (h : w ∈ dTJ) : w ∈ dTB := List.mem_append.mpr (Or.inr (List.mem_append.mpr (Or.inr (List.mem_append.mpr (Or.inr (List.mem_append.mpr (Or.inl h)))))))
theorem dTB_s {e : Nat × Nat × Nat} (h : e ∈ dSM) : dWS e ∈ dTB := List.mem_append.mpr (Or.inr (List.mem_append.mpr (Or.inr (List.mem_append.mpr (Or.inr (List.mem_append.mpr (Or.inr (List.mem_map.mpr ⟨e, h, rfl⟩))))))))
theorem dTB_gd {w : Cond} (h : w ∈ dTB) : (w.onTables && w.keeps) = true ∨ ∃ ty, w = .arrayClass ty := good_of_word (List.all_eq_true.mp dTB_good w h)
theorem dGI {Ts ws : List Cond} (h1 : ∀ w ∈ dTB, w ∈ Ts) (h : ∀ w ∈ ws, w ∈ dTB) : GoodIn Ts ws := fun w hw => ⟨h1 w (h w hw), dTB_gd (h w hw)⟩
-- what is checked of an instruction
def dcallB (q : dMI) (i x : Nat) (ks : List Nat) : Bool := (dMT q.1).any (fun e => Nat.beq e.1 i && (Nat.beq e.2.1 (x / 16384) && ks.contains e.2.2)) && (match dMis[x / 16384]? with
  | none => false
  | some t => Nat.blt (x % 16) 14 && (!(dWith.contains (x / 16384)) && (decide (t.2.1.cls = cR (x % 16)) && (decide ((parseMethodDescriptor t.2.1.desc).map (fun d => d.parameters.length) = some (x / 16 % 16)) && Nat.beq (x / 256 % 64) t.2.2.2.1))))
def dtsB (pc x : Nat) : List Int → Nat → Bool
  | [], _ => true
  | o :: t, j => decide ((pc : Int) + o = ((wd 16 (x >>> 32) (j + 2) : Nat) : Int)) && dtsB pc x t (j + 1)
def dxB (q : dMI) (pc : Nat) (ins : Instr) (len x : Nat) : Bool := match ins with
  | .iconst n => decide (Int32.ofInt n = Int32.ofNat x) && Nat.beq len 1
  | .bipush n => decide ((Int8.ofInt n).toInt32 = Int32.ofNat x) && Nat.beq len 2
  | .sipush n => decide ((Int16.ofInt n).toInt32 = Int32.ofNat x) && Nat.beq len 3
  | .lconst n => decide (Int64.ofNat (n : Nat) = Int64.ofNat x) && Nat.beq len 1
  | .ldc i => Nat.beq len 2 && ((Nat.ble 4294967296 x && decide ((q.1, i, x % 1048576) ∈ dSR)) || decide ((i, x) ∈ dKT q.1))
  | .ldc_w i => Nat.beq len 3 && (Nat.ble 4294967296 x || decide ((i, x) ∈ dKT q.1))
  | .ldc2_w i => Nat.beq len 3 && decide ((i, x) ∈ dJT q.1)
  | .iload_n n => Nat.beq len 1 && Nat.beq n.val x
  | .lload_n n => Nat.beq len 1 && Nat.beq n.val x
  | .aload_n n => Nat.beq len 1 && Nat.beq n.val x
  | .iload n => Nat.beq len 2 && Nat.beq n x
  | .lload n => Nat.beq len 2 && Nat.beq n x
  | .aload n => Nat.beq len 2 && Nat.beq n x
  | .istore_n n => Nat.beq len 1 && (Nat.beq n.val x && Nat.blt x q.2.2.2.1)
  | .astore_n n => Nat.beq len 1 && (Nat.beq n.val x && Nat.blt x q.2.2.2.1)
  | .lstore_n n => Nat.beq len 1 && (Nat.beq n.val x && Nat.blt (x + 1) q.2.2.2.1)
  | .istore n => Nat.beq len 2 && (Nat.beq n x && Nat.blt x q.2.2.2.1)
  | .astore n => Nat.beq len 2 && (Nat.beq n x && Nat.blt x q.2.2.2.1)
  | .lstore n => Nat.beq len 2 && (Nat.beq n x && Nat.blt (x + 1) q.2.2.2.1)
  | .iinc i n => Nat.beq len 3 && (Nat.beq (x / 4294967296) i && (decide (Int32.ofInt n = Int32.ofNat (x % 4294967296)) && Nat.blt i q.2.2.2.1))
  | .ifCond _ o => Nat.beq len 3 && decide ((pc : Int) + o = (x : Int))
  | .if_icmp _ o => Nat.beq len 3 && decide ((pc : Int) + o = (x : Int))
  | .goto o => Nat.beq len 3 && decide ((pc : Int) + o = (x : Int))
  | .tableswitch d lo hi os => decide ((Int32.ofNat (x % 4294967296)).toInt = lo) && (decide (-2147483648 ≤ lo ∧ lo ≤ hi ∧ hi < 2147483648) && (decide (((os.toList.length : Nat) : Int) = hi - lo + 1) && (Nat.beq (wd 16 (x >>> 32) 0) os.toList.length && (decide ((pc : Int) + d = ((wd 16 (x >>> 32) 1 : Nat) : Int)) && dtsB pc x os.toList 0))))
  | .getfield i => Nat.beq len 3 && (decide ((i, x / 1024, x / 4 % 256) ∈ dFT q.1) && (Nat.blt (x / 1024) 14 && (Nat.blt (x / 4 % 256) (cN (x / 1024)) && Nat.beq (tcode (cY (x / 1024) (x / 4 % 256))) (x % 4))))
  | .putfield i => Nat.beq len 3 && (decide ((i, x / 1024, x / 4 % 256) ∈ dFT q.1) && (Nat.blt (x / 1024) 14 && (Nat.blt (x / 4 % 256) (cN (x / 1024)) && (Nat.beq (tcode (cY (x / 1024) (x / 4 % 256))) (x % 4) && (!(cT (x / 1024) (x / 4 % 256)).2.2.2 || (decide (q.2.1.name = "<init>") && decide ((cT (x / 1024) (x / 4 % 256)).1 = cR q.1)))))))
  | .new i => Nat.beq len 3 && (Nat.beq x 0 || (decide ((i, x / 256) ∈ dCT q.1) && (Nat.blt (x / 256) 14 && Nat.beq (x % 256) (cN (x / 256)))))
  | .newarray t => Nat.beq len 2 && (match t with
    | .int => Nat.beq x 0
    | .long => Nat.beq x 1
    | .byte => Nat.beq x 2
    | .boolean => Nat.beq x 3
    | _ => false)
  | .invokestatic i => Nat.beq len 3 && (Nat.ble 1099511627776 x || (dcallB q i x [0] || (dcallB q i x [3] && decide ((q.1, i, x / 16384) ∈ dNT))))
  | .invokevirtual i => Nat.beq len 3 && ((Nat.beq x 1099511627777 && decide ((q.1, i, 1) ∈ dSM)) || ((Nat.beq x 1099511627778 && decide ((q.1, i, 2) ∈ dSM)) || (Nat.ble 1099511627779 x || dcallB q i x [1])))
  | .invokespecial i => Nat.beq len 3 && ((Nat.beq x 1099511627776 && decide (i ∈ dOT q.1)) || (!(Nat.beq x 1099511627776) && (Nat.ble 1099511627776 x || (dcallB q i x [2] && (match dMis[x / 16384]? with
    | none => false
    | some t => decide (t.2.1.name = "<init>") && t.2.2.2.2.isNone)))))
  | .athrow => true
  | .lookupswitch _ _ => true
  | .return_ => Nat.beq len 1 && q.2.2.2.2.isNone
  | .ireturn => Nat.beq len 1 && (match q.2.2.2.2 with
    | some .int => Nat.beq x 1
    | some .boolean => !(Nat.beq x 1)
    | _ => false)
  | .lreturn => Nat.beq len 1 && (match q.2.2.2.2 with
    | some .long => true
    | _ => false)
  | _ => Nat.beq len 1
def diB (q : dMI) (pc : Nat) (i : dI) : Bool := decide (decode q.2.2.1 pc = .ok (i.1, i.2.1)) && dxB q pc i.1 i.2.1 i.2.2
/-- a block from a place on -/
def ckb (q : dMI) : List dI → Nat → Bool
  | [], _ => true
  | i :: t, pc => diB q pc i && ckb q t (pc + i.2.1)
def dmB (q : dMI) : Bool := Nat.blt q.1 14 && (Nat.ble q.2.2.2.1 40 && (decide (q.2.1.cls = cR q.1) && plainName q.2.1.cls))
set_option maxRecDepth 100000 in
theorem dMs_all : dMis.all dmB = true := by decide +kernel
theorem dM_f {y : Nat} {q : dMI} (h : dMis[y]? = some q) : q.1 < 14 ∧ q.2.2.2.1 ≤ 40 ∧ q.2.1.cls = cR q.1 ∧ plainName q.2.1.cls = true := by
  have h1 := List.all_eq_true.mp dMs_all q (List.mem_of_getElem? h)
  simp only [dmB, Bool.and_eq_true, decide_eq_true_eq, Nat.blt_eq, Nat.ble_eq] at h1
  exact h1
end
section
/-! ===== what the words mean on the machine: the heap behind b, and a lemma for each instruction ===== -/
abbrev dD : Type := va_G × (Nat → ClassId)
def dTy (kd : Nat) : FieldType := match kd with
  | 0 => .int
  | 1 => .long
  | 2 => .byte
  | _ => .boolean
def dEl (kd ct j : Nat) : Value := match kd with
  | 0 => .int (Int32.ofNat (wd 32 ct j))
  | 1 => .long (Int64.ofNat (wd 64 ct j))
  | 2 => .int (Int32.ofNat (dI2b (wd 8 ct j)))
  | _ => .int (Int32.ofNat (wd 8 ct j))
def dFld (b : Nat → Nat) (ci ct k : Nat) : Value := dv b (fv (tcode (cY ci k)) (wd 64 ct k))
def dCR (D : dD) (b : Nat → Nat) (a : Nat) (c : dC) (H : Heap) : Prop := (c.1 < 4 ∧ H[a]? = some (arrV (D.2 c.1) c.2.1 (dEl c.1 c.2.2))) ∨ ∃ ci, ci < 14 ∧ c.1 = ci + 4 ∧ t_OB a (D.1.1 ci) (cN ci) (D.1.2 ci) H (dFld b ci c.2.2)
theorem dCR.kept {D : dD} {b : Nat → Nat} {a : Nat} {c : dC} {H H1 : Heap} (h : dCR D b a c H) (e : H1[a]? = H[a]?) : dCR D b a c H1 := by
  rcases h with ⟨h1, h2⟩ | ⟨ci, h1, h2, h3⟩
  · exact Or.inl ⟨h1, e.trans h2⟩
  · exact Or.inr ⟨ci, h1, h2, h3.kept e⟩
/-- where cells lie: those of this heap one behind the other, behind all that was there -/
def dLn (b : Nat → Nat) : Prop := ∀ k, k < 1099511627776 → b k = b 0 + k
def dRl (D : dD) (b : Nat → Nat) (h : dH) (H : Heap) : Prop := (H.size = b 0 + h.1 ∧ h.1 < 1099511627776 ∧ dLn b) ∧ hwf h ∧ ∀ (k : Nat) (c : dC), hat h k = some c → dCR D b (b k) c H
def dS (b : Nat → Nat) (H0 H : Heap) (locs : List Loc) : Prop := b 0 ≤ H0.size ∧ (∀ q : Nat, q < b 0 → H[q]? = H0[q]?) ∧ ∀ l ∈ locs, b 0 ≤ l.base
theorem dRl.at {D : dD} {b : Nat → Nat} {h : dH} {H : Heap} (hR : dRl D b h H) {k : Nat} (hk : k ≤ h.1) : b k = b 0 + k := hR.1.2.2 k (by have := hR.1.2.1; omega)
theorem dRl.set {D : dD} {b : Nat → Nat} {h h' : dH} {H H1 : Heap} {k : Nat} {c c0 : dC} (hR : dRl D b h H) (hc0 : hat h k = some c0) (z : H1.size = H.size) (o : ∀ q, q ≠ b k → H1[q]? = H[q]?) (hc : dCR D b (b k) c H1) (e1 : h'.1 = h.1) (hw : hwf h') (e : ∀ j, hat h' j = if j = k then some c else hat h j) : dRl D b h' H1 := by
  refine ⟨⟨by rw [z, e1]; exact hR.1.1, by rw [e1]; exact hR.1.2.1, hR.1.2.2⟩, hw, fun j d hj => ?_⟩
  rw [e] at hj
  split at hj
  · rename_i hk
    subst hk
    cases hj
    exact hc
  · rename_i hk
    refine (hR.2.2 j d hj).kept (o _ ?_)
    have h1 := hR.at (Nat.le_of_lt (hat_lt hR.2.1 hj))
    have h2 := hR.at (Nat.le_of_lt (hat_lt hR.2.1 hc0))
    omega
theorem dRl.push {D : dD} {b : Nat → Nat} {h h' : dH} {H H1 : Heap} {c : dC} (hR : dRl D b h H) (hn : h.1 < 1073741824) (z : H1.size = H.size + 1) (o : ∀ q, q < H.size → H1[q]? = H[q]?) (hc : dCR D b H.size c H1) (e1 : h'.1 = h.1 + 1) (hw : hwf h') (e : ∀ j, hat h' j = if j = h.1 then some c else hat h j) : dRl D b h' H1 := by
  refine ⟨⟨by rw [z, e1, hR.1.1]; omega, by rw [e1]; omega, hR.1.2.2⟩, hw, fun j d hj => ?_⟩
  rw [e] at hj
  split at hj
  · rename_i hk
    subst hk
    cases hj
    rw [hR.at (Nat.le_refl _), ← hR.1.1]
    exact hc
  · have h1 := hat_lt hR.2.1 hj
    have h2 := hR.at (Nat.le_of_lt h1)
    exact (hR.2.2 j d hj).kept (o _ (by rw [hR.1.1]; omega))
theorem dS.put {b : Nat → Nat} {H0 H H1 : Heap} {locs : List Loc} {a k : Nat} (h : dS b H0 H locs) (o : ∀ q : Nat, q ≠ a → H1[q]? = H[q]?) (ha : b 0 ≤ a) : dS b H0 H1 (locs ++ [⟨a, k⟩]) := by
  refine ⟨h.1, fun q hq => (o q (by omega)).trans (h.2.1 q hq), fun x hx => ?_⟩
  rcases List.mem_append.mp hx with hx | hx
  · exact h.2.2 x hx
  · rw [List.mem_singleton.mp hx]; exact ha
theorem dS.push {b : Nat → Nat} {H0 H H1 : Heap} {locs : List Loc} {n : Nat} (h : dS b H0 H locs) (z : H.size = b 0 + n) (o : ∀ q : Nat, q < H.size → H1[q]? = H[q]?) : dS b H0 H1 locs :=
  ⟨h.1, fun q hq => (o q (by omega)).trans (h.2.1 q hq), h.2.2⟩
def dNm (y : Nat) : MethodName := match dMis[y]? with
  | some q => q.2.1
  | none => objectInit
def dLen : List Nat := dStr.map (·.1)
def dByt : List (List Int32) := dStr.map fun e => (List.range e.1).map fun j => Int32.ofNat (wd 8 e.2 j)
/-- the texts: where they lie, what they hold -/
def dKT2 (b : Nat → Nat) (U : State) (H : Heap) : Prop := dTxt (fun q => b 0 ≤ q) dStr.length dLen dByt (fun z => b (dT0 + z)) (fun z => b (dT1 + z)) U H
/-- what the machine's tables say, and the texts -/
def dKK (D : dD) (b : Nat → Nat) (U : State) (H : Heap) : Prop := va_K D.1 diCl [] U ∧ (∀ kd, kd < 4 → ArrOfT U (D.2 kd) (dTy kd) ∧ U.vm.findClass ("[" ++ (dTy kd).toString) = some (D.2 kd)) ∧ (∀ e ∈ dNT, va_Nw (.methodLinkNest (cR e.1) e.2.1 (dNm e.2.2) "ItemJudge") U) ∧ (∀ e ∈ dSR, vk_R (cR e.1) e.2.1 (dTn.getD e.2.2 "") (b (dT0 + e.2.2)) U) ∧ dKT2 b U H
theorem dKK.same {D : dD} {b : Nat → Nat} {u U : State} {H : Heap} (h : u.vm = U.vm) (hK : dKK D b u H) : dKK D b U H := by
  have ha : u.vm.Alike U.vm := by rw [h]; exact Vm.Alike.refl _
  exact ⟨hK.1.moved ha, fun kd hk => ⟨arrOfT_moved ha (hK.2.1 kd hk).1, by rw [← h]; exact (hK.2.1 kd hk).2⟩, fun e he => va_Nw.same rfl h (hK.2.2.1 e he), fun e he => vk_R.same h.symm (hK.2.2.2.1 e he), dTxt.moved ha hK.2.2.2.2⟩
theorem dKK.warm {D : dD} {b : Nat → Nat} {s U : State} {H : Heap} (h : s.WarmedH U.vm) (hK : dKK D b s H) : dKK D b U H :=
  ⟨hK.1.moved h.alike, fun kd hk => ⟨arrOfT_moved h.alike (hK.2.1 kd hk).1, by rw [h.alike.findClass]; exact (hK.2.1 kd hk).2⟩, fun e he => va_Nw.warmM h (hK.2.2.1 e he), fun e he => vk_R.warm h (hK.2.2.2.1 e he), dTxt.moved h.alike hK.2.2.2.2⟩
theorem dKK.kept {D : dD} {b : Nat → Nat} {U : State} {H H1 : Heap} (h : ∀ q : Nat, q < b 0 → H1[q]? = H[q]?) (hK : dKK D b U H) : dKK D b U H1 :=
  ⟨hK.1, hK.2.1, hK.2.2.1, hK.2.2.2.1, dTxt.kept hK.2.2.2.2 fun a _ ha => h a (Nat.not_le.mp ha)⟩
def dQ (D : dD) (b : Nat → Nat) (r : Option dV) (h' : dH) : Array Value → State → Outcome → State → Prop := fun _ st oc t => oc = .returned (r.map (dv b)) ∧ dRl D b h' t.heap ∧ ∀ q : Nat, q < b 0 → t.heap[q]? = st.heap[q]?
def dLv (b : Nat → Nat) (L : dL) : List (Nat × Value) := L.map fun e => (e.1, dv b e.2)
def dCx (p : Program) (s : State) (m : MethodId) (args : Array Value) (meth : Method) (c : Code) (q : dMI) (D : dD) (b : Nat → Nat) : Prop :=
  p.tables.exec = Jvm.exec ∧ c.code = q.2.2.1 ∧ c.maxLocals = q.2.2.2.1 ∧ s.vm.findClass (cR q.1) = some m.cls ∧ (∀ w ∈ dTs q, w.before args s = true) ∧ meth.sig.returnType = q.2.2.2.2 ∧ meth.locks = false ∧ meth.name = q.2.1.name ∧ dKK D b s s.heap
def dRm (R : Room) (d mc ms : Nat) : Prop := d ≤ R.frames ∧ d * 64 ≤ R.locals ∧ mc ≤ R.cells ∧ ms ≤ R.slots
def dWp (l : Launch) (D : dD) (b : Nat → Nat) (q : dMI) (d pc : Nat) (L : dL) (st : List dV) (h : dH) (r : Option dV) (h' : dH) : Prop :=
  ∀ (p : Program) (e : Env) (R : Room) (s : State) (m : MethodId) (args : Array Value) (below : List Frame) (meth : Method) (c : Code) (H : Heap) (locs : List Loc) (cells slots mc ms : Nat) (ls : Array Slot),
    dCx p s m args meth c q D b → dRl D b h H → dS b s.heap H locs → lv_has ls q.2.2.2.1 (dLv b L) → dRm R d mc ms → mc + h.1 = cells + h'.1 → ms + h.2.1 = slots + h'.2.1 →
    W p l e R s m args below meth c H locs cells slots (MQ below (dQ D b r h') args s mc ms (fun x => b 0 ≤ x)) (F0 m pc ls (st.map (dv b)))
theorem dlk_mem {L : dL} {i : Nat} {v : dV} (h : dlk L i = some v) : (i, v) ∈ L := by
  induction L with
  | nil => cases h
  | cons a t ih =>
    have h2 : cond (Nat.beq a.1 i) (some a.2) (dlk t i) = some v := h
    cases e : Nat.beq a.1 i
    · rw [e] at h2
      exact List.mem_cons_of_mem _ (ih h2)
    · rw [e] at h2
      cases h2
      have := Nat.eq_of_beq_eq_true e
      subst this
      exact List.mem_cons_self
theorem dlk_at {b : Nat → Nat} {nL : Nat} {ls : Array Slot} {L : dL} {i : Nat} {v : dV} (hl : lv_has ls nL (dLv b L)) (h : dlk L i = some v) : ls[i]? = some (.val (dv b v)) :=
  hl.2.2 (i, dv b v) (List.mem_map.mpr ⟨(i, v), dlk_mem h, rfl⟩)
theorem fltc_eq {α β : Type} (p : α → Bool) (L : List α) (k : List α → β) : fltc p L k = k (L.filter p) := by
  induction L generalizing k with
  | nil => rfl
  | cons a t ih =>
    show cond (p a) (fltc p t (fun u => k (a :: u))) (fltc p t k) = _
    cases e : p a
    · rw [List.filter_cons_of_neg (by simp [e])]; exact ih k
    · rw [List.filter_cons_of_pos e]; exact ih _
theorem dcat1 (b : Nat → Nat) (v : dV) : (dv b v).category = if disl v = true then 2 else 1 := by
  match v with
  | .inl n => rfl
  | .inr (.inl n) => rfl
  | .inr (.inr 0) => rfl
  | .inr (.inr (k + 1)) => rfl
theorem dbeq (a b : Nat) : Nat.beq a b = (a == b) := by
  rw [Bool.eq_iff_iff]; simp [Nat.beq_eq]
theorem dflt1 (b : Nat → Nat) (x : Nat) (v : dV) (L : dL) : (x, dv b v) :: (dLv b L).filter (fun q => !(q.1 == x) && !(q.1 + 1 == x && q.2.category == 2)) = dLv b ((x, v) :: L.filter (dp1 x)) := by
  simp only [dLv, List.map_cons, List.filter_map]
  congr 2
  congr 1
  funext e
  have hc := dcat1 b e.2
  simp only [Function.comp, dp1, hc]
  have e1 : Nat.beq e.1 x = (e.1 == x) := dbeq _ _
  have e2 : Nat.beq (Nat.succ e.1) x = (e.1 + 1 == x) := dbeq _ _
  rw [e1, e2]
  cases (e.1 == x) <;> cases (e.1 + 1 == x) <;> cases disl e.2 <;> rfl
theorem dflt2 (b : Nat → Nat) (x : Nat) (v : dV) (L : dL) : (x, dv b v) :: (dLv b L).filter (fun q => !(q.1 == x) && (!(q.1 == x + 1) && !(q.1 + 1 == x && q.2.category == 2))) = dLv b ((x, v) :: L.filter (dp2 x)) := by
  simp only [dLv, List.map_cons, List.filter_map]
  congr 2
  congr 1
  funext e
  have hc := dcat1 b e.2
  simp only [Function.comp, dp2, hc]
  have e1 : Nat.beq e.1 x = (e.1 == x) := dbeq _ _
  have e3 : Nat.beq e.1 (Nat.succ x) = (e.1 == x + 1) := dbeq _ _
  have e2 : Nat.beq (Nat.succ e.1) x = (e.1 + 1 == x) := dbeq _ _
  rw [e1, e2, e3]
  cases (e.1 == x) <;> cases (e.1 == x + 1) <;> cases (e.1 + 1 == x) <;> cases disl e.2 <;> rfl
theorem di_le (a b : Nat) : dLt a b = false ↔ Int32.ofNat b ≤ Int32.ofNat a := by
  rw [← Int32.not_lt, ← di_lt]
  cases dLt a b <;> simp
theorem dcond_f {x : Bool} : cond x false true = false ↔ x = true := by cases x <;> simp
theorem dcond_t {x : Bool} : cond x false true = true ↔ x = false := by cases x <;> simp
theorem dcd_ge_t {a k : Nat} (z : Int32.ofNat k ≤ Int32.ofNat a) : dcd .ge a k = true := by
  unfold dcd
  dsimp only
  rw [(di_le a k).mpr z]; rfl
theorem dcd_ge_f {a k : Nat} (z : ¬ Int32.ofNat k ≤ Int32.ofNat a) : dcd .ge a k = false := by
  unfold dcd
  dsimp only
  cases w : dLt a k
  · exact absurd ((di_le a k).mp w) z
  · rfl
theorem dcd_le_t {a k : Nat} (z : Int32.ofNat a ≤ Int32.ofNat k) : dcd .le a k = true := by
  unfold dcd
  dsimp only
  rw [(di_le k a).mpr z]; rfl
theorem dcd_le_f {a k : Nat} (z : ¬ Int32.ofNat a ≤ Int32.ofNat k) : dcd .le a k = false := by
  unfold dcd
  dsimp only
  cases w : dLt k a
  · exact absurd ((di_le k a).mp w) z
  · rfl
theorem dcd_lt_t {a k : Nat} (z : Int32.ofNat a < Int32.ofNat k) : dcd .lt a k = true := (di_lt a k).mpr z
theorem dcd_lt_f {a k : Nat} (z : ¬ Int32.ofNat a < Int32.ofNat k) : dcd .lt a k = false := Bool.eq_false_iff.mpr fun w => z ((di_lt a k).mp w)
theorem dcd_gt_t {a k : Nat} (z : Int32.ofNat k < Int32.ofNat a) : dcd .gt a k = true := (di_lt k a).mpr z
theorem dcd_gt_f {a k : Nat} (z : ¬ Int32.ofNat k < Int32.ofNat a) : dcd .gt a k = false := Bool.eq_false_iff.mpr fun w => z ((di_lt k a).mp w)
theorem dcd_eq_t {a k : Nat} (z : Int32.ofNat a = Int32.ofNat k) : dcd .eq a k = true := (di_eq a k).mpr z
theorem dcd_eq_f {a k : Nat} (z : ¬ Int32.ofNat a = Int32.ofNat k) : dcd .eq a k = false := Bool.eq_false_iff.mpr fun w => z ((di_eq a k).mp w)
theorem dcd_ne_t {a k : Nat} (z : ¬ Int32.ofNat a = Int32.ofNat k) : dcd .ne a k = true := by
  unfold dcd
  dsimp only
  rw [show dEq a k = false from Bool.eq_false_iff.mpr fun w => z ((di_eq a k).mp w)]; rfl
theorem dcd_ne_f {a k : Nat} (z : Int32.ofNat a = Int32.ofNat k) : dcd .ne a k = false := by
  unfold dcd
  dsimp only
  rw [(di_eq a k).mpr z]; rfl
section DS
variable {l : Launch} {D : dD} {b : Nat → Nat} {q : dMI} {d pc : Nat} {L : dL} {st : List dV} {h : dH} {r : Option dV} {h' : dH}

theorem ds_iconst {n : Int} {x : Nat} (hdg : decode q.2.2.1 pc = .ok (.iconst n, 1)) (hv : Int32.ofInt n = Int32.ofNat x) (G : dWp l D b q d (pc + 1) L (.inl x :: st) h r h') : dWp l D b q d pc L st h r h' := by
  intro p e R s m args below meth c H locs cells slots mc ms ls C hR hS hl hm e1 e2
  refine lv_iconst C.1 C.2.1 hdg hv ?_
  exact G p e R s m args below meth c H locs cells slots mc ms ls C hR hS hl hm e1 e2

theorem ds_bipush {n : Int} {x : Nat} (hdg : decode q.2.2.1 pc = .ok (.bipush n, 2)) (hv : (Int8.ofInt n).toInt32 = Int32.ofNat x) (G : dWp l D b q d (pc + 2) L (.inl x :: st) h r h') : dWp l D b q d pc L st h r h' := by
  intro p e R s m args below meth c H locs cells slots mc ms ls C hR hS hl hm e1 e2
  refine lv_bipush C.1 C.2.1 hdg hv ?_
  exact G p e R s m args below meth c H locs cells slots mc ms ls C hR hS hl hm e1 e2

theorem ds_sipush {n : Int} {x : Nat} (hdg : decode q.2.2.1 pc = .ok (.sipush n, 3)) (hv : (Int16.ofInt n).toInt32 = Int32.ofNat x) (G : dWp l D b q d (pc + 3) L (.inl x :: st) h r h') : dWp l D b q d pc L st h r h' := by
  intro p e R s m args below meth c H locs cells slots mc ms ls C hR hS hl hm e1 e2
  refine lv_sipush C.1 C.2.1 hdg hv ?_
  exact G p e R s m args below meth c H locs cells slots mc ms ls C hR hS hl hm e1 e2

theorem ds_lconst {n : Fin 2} {x : Nat} (hdg : decode q.2.2.1 pc = .ok (.lconst n, 1)) (hv : Int64.ofNat (n : Nat) = Int64.ofNat x) (G : dWp l D b q d (pc + 1) L (.inr (.inl x) :: st) h r h') : dWp l D b q d pc L st h r h' := by
  intro p e R s m args below meth c H locs cells slots mc ms ls C hR hS hl hm e1 e2
  refine lv_lconst C.1 C.2.1 hdg hv ?_
  exact G p e R s m args below meth c H locs cells slots mc ms ls C hR hS hl hm e1 e2

theorem ds_ldc {i x : Nat} (hdg : decode q.2.2.1 pc = .ok (.ldc i, 2)) (ho : q.1 < 14) (hx : (i, x) ∈ dKT q.1) (G : dWp l D b q d (pc + 2) L (.inl x :: st) h r h') : dWp l D b q d pc L st h r h' := by
  intro p e R s m args below meth c H locs cells slots mc ms ls C hR hS hl hm e1 e2
  have hw : Cond.constant (cR q.1) i (Int32.ofNat x) ∈ dTs q := List.mem_cons_of_mem _ (dTB_l ho (by unfold dWL; simp only [List.mem_append]; exact Or.inr (Or.inl (List.mem_map.mpr ⟨(i, x), hx, rfl⟩))))
  refine lv_ldc C.1 C.2.1 C.2.2.2.1 (C.2.2.2.2.1 _ hw) hdg ?_
  exact G p e R s m args below meth c H locs cells slots mc ms ls C hR hS hl hm e1 e2

theorem ds_ldcw {i x : Nat} (hdg : decode q.2.2.1 pc = .ok (.ldc_w i, 3)) (ho : q.1 < 14) (hx : (i, x) ∈ dKT q.1) (G : dWp l D b q d (pc + 3) L (.inl x :: st) h r h') : dWp l D b q d pc L st h r h' := by
  intro p e R s m args below meth c H locs cells slots mc ms ls C hR hS hl hm e1 e2
  have hw : Cond.constant (cR q.1) i (Int32.ofNat x) ∈ dTs q := List.mem_cons_of_mem _ (dTB_l ho (by unfold dWL; simp only [List.mem_append]; exact Or.inr (Or.inl (List.mem_map.mpr ⟨(i, x), hx, rfl⟩))))
  refine lv_ldcw C.1 C.2.1 C.2.2.2.1 (C.2.2.2.2.1 _ hw) hdg ?_
  exact G p e R s m args below meth c H locs cells slots mc ms ls C hR hS hl hm e1 e2

theorem ds_ldc2 {i x : Nat} (hdg : decode q.2.2.1 pc = .ok (.ldc2_w i, 3)) (ho : q.1 < 14) (hx : (i, x) ∈ dJT q.1) (G : dWp l D b q d (pc + 3) L (.inr (.inl x) :: st) h r h') : dWp l D b q d pc L st h r h' := by
  intro p e R s m args below meth c H locs cells slots mc ms ls C hR hS hl hm e1 e2
  have hw : Cond.constantLong (cR q.1) i (Int64.ofNat x) ∈ dTs q := List.mem_cons_of_mem _ (dTB_l ho (by unfold dWL; simp only [List.mem_append]; exact Or.inr (Or.inr (List.mem_map.mpr ⟨(i, x), hx, rfl⟩))))
  refine lv_ldc2 C.1 C.2.1 C.2.2.2.1 (C.2.2.2.2.1 _ hw) hdg ?_
  exact G p e R s m args below meth c H locs cells slots mc ms ls C hR hS hl hm e1 e2

theorem ds_iload_n {n : Fin 4} {x v : Nat} (hdg : decode q.2.2.1 pc = .ok (.iload_n n, 1)) (hi : (n : Nat) = x) (hv : dlk L x = some (.inl v)) (G : dWp l D b q d (pc + 1) L (.inl v :: st) h r h') : dWp l D b q d pc L st h r h' := by
  intro p e R s m args below meth c H locs cells slots mc ms ls C hR hS hl hm e1 e2
  refine lv_iload_n C.1 C.2.1 hdg hi (dlk_at hl hv) ?_
  exact G p e R s m args below meth c H locs cells slots mc ms ls C hR hS hl hm e1 e2

theorem ds_iload {x v : Nat} (hdg : decode q.2.2.1 pc = .ok (.iload x, 2)) (hv : dlk L x = some (.inl v)) (G : dWp l D b q d (pc + 2) L (.inl v :: st) h r h') : dWp l D b q d pc L st h r h' := by
  intro p e R s m args below meth c H locs cells slots mc ms ls C hR hS hl hm e1 e2
  refine lv_iload C.1 C.2.1 hdg (dlk_at hl hv) ?_
  exact G p e R s m args below meth c H locs cells slots mc ms ls C hR hS hl hm e1 e2

theorem ds_lload_n {n : Fin 4} {x v : Nat} (hdg : decode q.2.2.1 pc = .ok (.lload_n n, 1)) (hi : (n : Nat) = x) (hv : dlk L x = some (.inr (.inl v))) (G : dWp l D b q d (pc + 1) L (.inr (.inl v) :: st) h r h') : dWp l D b q d pc L st h r h' := by
  intro p e R s m args below meth c H locs cells slots mc ms ls C hR hS hl hm e1 e2
  refine lv_lload_n C.1 C.2.1 hdg hi (dlk_at hl hv) ?_
  exact G p e R s m args below meth c H locs cells slots mc ms ls C hR hS hl hm e1 e2

theorem ds_lload {x v : Nat} (hdg : decode q.2.2.1 pc = .ok (.lload x, 2)) (hv : dlk L x = some (.inr (.inl v))) (G : dWp l D b q d (pc + 2) L (.inr (.inl v) :: st) h r h') : dWp l D b q d pc L st h r h' := by
  intro p e R s m args below meth c H locs cells slots mc ms ls C hR hS hl hm e1 e2
  refine lv_lload C.1 C.2.1 hdg (dlk_at hl hv) ?_
  exact G p e R s m args below meth c H locs cells slots mc ms ls C hR hS hl hm e1 e2

theorem ds_aload_n {n : Fin 4} {x v : Nat} (hdg : decode q.2.2.1 pc = .ok (.aload_n n, 1)) (hi : (n : Nat) = x) (hv : dlk L x = some (.inr (.inr (Nat.succ v)))) (G : dWp l D b q d (pc + 1) L (.inr (.inr (Nat.succ v)) :: st) h r h') : dWp l D b q d pc L st h r h' := by
  intro p e R s m args below meth c H locs cells slots mc ms ls C hR hS hl hm e1 e2
  refine lv_aload_n C.1 C.2.1 hdg hi (dlk_at hl hv) ?_
  exact G p e R s m args below meth c H locs cells slots mc ms ls C hR hS hl hm e1 e2

theorem ds_aload {x v : Nat} (hdg : decode q.2.2.1 pc = .ok (.aload x, 2)) (hv : dlk L x = some (.inr (.inr (Nat.succ v)))) (G : dWp l D b q d (pc + 2) L (.inr (.inr (Nat.succ v)) :: st) h r h') : dWp l D b q d pc L st h r h' := by
  intro p e R s m args below meth c H locs cells slots mc ms ls C hR hS hl hm e1 e2
  refine lv_aload C.1 C.2.1 hdg (dlk_at hl hv) ?_
  exact G p e R s m args below meth c H locs cells slots mc ms ls C hR hS hl hm e1 e2

theorem ds_istore_n {n : Fin 4} {x v : Nat} (hdg : decode q.2.2.1 pc = .ok (.istore_n n, 1)) (hi : (n : Nat) = x) (hn : x < q.2.2.2.1) (G : dWp l D b q d (pc + 1) ((x, .inl v) :: L.filter (dp1 x)) st h r h') : dWp l D b q d pc L (.inl v :: st) h r h' := by
  intro p e R s m args below meth c H locs cells slots mc ms ls C hR hS hl hm e1 e2
  refine lv_istore_n C.1 C.2.1 hdg hi hl hn (dflt1 b x (.inl v) L) (fun ls2 hl2 => ?_)
  exact G p e R s m args below meth c H locs cells slots mc ms ls2 C hR hS hl2 hm e1 e2

theorem ds_istore {x v : Nat} (hdg : decode q.2.2.1 pc = .ok (.istore x, 2)) (hn : x < q.2.2.2.1) (G : dWp l D b q d (pc + 2) ((x, .inl v) :: L.filter (dp1 x)) st h r h') : dWp l D b q d pc L (.inl v :: st) h r h' := by
  intro p e R s m args below meth c H locs cells slots mc ms ls C hR hS hl hm e1 e2
  refine lv_istore C.1 C.2.1 hdg hl hn (dflt1 b x (.inl v) L) (fun ls2 hl2 => ?_)
  exact G p e R s m args below meth c H locs cells slots mc ms ls2 C hR hS hl2 hm e1 e2

theorem ds_lstore_n {n : Fin 4} {x v : Nat} (hdg : decode q.2.2.1 pc = .ok (.lstore_n n, 1)) (hi : (n : Nat) = x) (hn : x + 1 < q.2.2.2.1) (G : dWp l D b q d (pc + 1) ((x, .inr (.inl v)) :: L.filter (dp2 x)) st h r h') : dWp l D b q d pc L (.inr (.inl v) :: st) h r h' := by
  intro p e R s m args below meth c H locs cells slots mc ms ls C hR hS hl hm e1 e2
  refine lv_lstore_n C.1 C.2.1 hdg hi hl hn (dflt2 b x (.inr (.inl v)) L) (fun ls2 hl2 => ?_)
  exact G p e R s m args below meth c H locs cells slots mc ms ls2 C hR hS hl2 hm e1 e2

theorem ds_lstore {x v : Nat} (hdg : decode q.2.2.1 pc = .ok (.lstore x, 2)) (hn : x + 1 < q.2.2.2.1) (G : dWp l D b q d (pc + 2) ((x, .inr (.inl v)) :: L.filter (dp2 x)) st h r h') : dWp l D b q d pc L (.inr (.inl v) :: st) h r h' := by
  intro p e R s m args below meth c H locs cells slots mc ms ls C hR hS hl hm e1 e2
  refine lv_lstore C.1 C.2.1 hdg hl hn (dflt2 b x (.inr (.inl v)) L) (fun ls2 hl2 => ?_)
  exact G p e R s m args below meth c H locs cells slots mc ms ls2 C hR hS hl2 hm e1 e2

theorem ds_astore_n {n : Fin 4} {x v : Nat} (hdg : decode q.2.2.1 pc = .ok (.astore_n n, 1)) (hi : (n : Nat) = x) (hn : x < q.2.2.2.1) (G : dWp l D b q d (pc + 1) ((x, .inr (.inr (Nat.succ v))) :: L.filter (dp1 x)) st h r h') : dWp l D b q d pc L (.inr (.inr (Nat.succ v)) :: st) h r h' := by
  intro p e R s m args below meth c H locs cells slots mc ms ls C hR hS hl hm e1 e2
  refine lv_astore_n C.1 C.2.1 hdg hi hl hn (dflt1 b x (.inr (.inr (Nat.succ v))) L) (fun ls2 hl2 => ?_)
  exact G p e R s m args below meth c H locs cells slots mc ms ls2 C hR hS hl2 hm e1 e2

theorem ds_astore {x v : Nat} (hdg : decode q.2.2.1 pc = .ok (.astore x, 2)) (hn : x < q.2.2.2.1) (G : dWp l D b q d (pc + 2) ((x, .inr (.inr (Nat.succ v))) :: L.filter (dp1 x)) st h r h') : dWp l D b q d pc L (.inr (.inr (Nat.succ v)) :: st) h r h' := by
  intro p e R s m args below meth c H locs cells slots mc ms ls C hR hS hl hm e1 e2
  refine lv_astore C.1 C.2.1 hdg hl hn (dflt1 b x (.inr (.inr (Nat.succ v))) L) (fun ls2 hl2 => ?_)
  exact G p e R s m args below meth c H locs cells slots mc ms ls2 C hR hS hl2 hm e1 e2

theorem ds_iinc {i v w : Nat} {n : Int} (hdg : decode q.2.2.1 pc = .ok (.iinc i n, 3)) (hw : Int32.ofInt n = Int32.ofNat w) (hv : dlk L i = some (.inl v)) (hn : i < q.2.2.2.1) (G : dWp l D b q d (pc + 3) ((i, .inl (dAdd v w)) :: L.filter (dp1 i)) st h r h') : dWp l D b q d pc L st h r h' := by
  intro p e R s m args below meth c H locs cells slots mc ms ls C hR hS hl hm e1 e2
  obtain ⟨k, hk, hk2⟩ := List.getElem_of_mem (List.mem_map.mpr ⟨(i, (.inl v : dV)), dlk_mem hv, rfl⟩ : (i, dv b (.inl v)) ∈ dLv b L)
  refine lv_iinc (k := k) (x := Int32.ofNat v) (v := Int32.ofNat (dAdd v w)) C.1 C.2.1 hdg hl (show (List.map (fun e => (e.1, dv b e.2)) L)[k]? = _ from by rw [List.getElem?_eq_getElem hk, hk2]; rfl) (by rw [hw, di_add]) hn (dflt1 b i (.inl (dAdd v w)) L) (fun ls2 hl2 => ?_)
  exact G p e R s m args below meth c H locs cells slots mc ms ls2 C hR hS hl2 hm e1 e2

theorem ds_iadd {x y : Nat} (hdg : decode q.2.2.1 pc = .ok (.iadd, 1)) (G : dWp l D b q d (pc + 1) L (.inl (dAdd x y) :: st) h r h') : dWp l D b q d pc L (.inl y :: .inl x :: st) h r h' := by
  intro p e R s m args below meth c H locs cells slots mc ms ls C hR hS hl hm e1 e2
  refine lv_iadd C.1 C.2.1 hdg ?_
  rw [di_add]
  exact G p e R s m args below meth c H locs cells slots mc ms ls C hR hS hl hm e1 e2

theorem ds_isub {x y : Nat} (hdg : decode q.2.2.1 pc = .ok (.isub, 1)) (G : dWp l D b q d (pc + 1) L (.inl (dSub x y) :: st) h r h') : dWp l D b q d pc L (.inl y :: .inl x :: st) h r h' := by
  intro p e R s m args below meth c H locs cells slots mc ms ls C hR hS hl hm e1 e2
  refine lv_isub C.1 C.2.1 hdg ?_
  rw [di_sub]
  exact G p e R s m args below meth c H locs cells slots mc ms ls C hR hS hl hm e1 e2

theorem ds_imul {x y : Nat} (hdg : decode q.2.2.1 pc = .ok (.imul, 1)) (G : dWp l D b q d (pc + 1) L (.inl (dMul x y) :: st) h r h') : dWp l D b q d pc L (.inl y :: .inl x :: st) h r h' := by
  intro p e R s m args below meth c H locs cells slots mc ms ls C hR hS hl hm e1 e2
  refine lv_imul C.1 C.2.1 hdg ?_
  rw [di_mul]
  exact G p e R s m args below meth c H locs cells slots mc ms ls C hR hS hl hm e1 e2

theorem ds_iand {x y : Nat} (hdg : decode q.2.2.1 pc = .ok (.iand, 1)) (G : dWp l D b q d (pc + 1) L (.inl (dAnd x y) :: st) h r h') : dWp l D b q d pc L (.inl y :: .inl x :: st) h r h' := by
  intro p e R s m args below meth c H locs cells slots mc ms ls C hR hS hl hm e1 e2
  refine lv_iand C.1 C.2.1 hdg ?_
  rw [di_and]
  exact G p e R s m args below meth c H locs cells slots mc ms ls C hR hS hl hm e1 e2

theorem ds_ior {x y : Nat} (hdg : decode q.2.2.1 pc = .ok (.ior, 1)) (G : dWp l D b q d (pc + 1) L (.inl (dOr x y) :: st) h r h') : dWp l D b q d pc L (.inl y :: .inl x :: st) h r h' := by
  intro p e R s m args below meth c H locs cells slots mc ms ls C hR hS hl hm e1 e2
  refine lv_ior C.1 C.2.1 hdg ?_
  rw [di_or]
  exact G p e R s m args below meth c H locs cells slots mc ms ls C hR hS hl hm e1 e2

theorem ds_ixor {x y : Nat} (hdg : decode q.2.2.1 pc = .ok (.ixor, 1)) (G : dWp l D b q d (pc + 1) L (.inl (dXor x y) :: st) h r h') : dWp l D b q d pc L (.inl y :: .inl x :: st) h r h' := by
  intro p e R s m args below meth c H locs cells slots mc ms ls C hR hS hl hm e1 e2
  refine lv_ixor C.1 C.2.1 hdg ?_
  rw [di_xor]
  exact G p e R s m args below meth c H locs cells slots mc ms ls C hR hS hl hm e1 e2

theorem ds_ishl {x y : Nat} (hdg : decode q.2.2.1 pc = .ok (.ishl, 1)) (G : dWp l D b q d (pc + 1) L (.inl (dShl x y) :: st) h r h') : dWp l D b q d pc L (.inl y :: .inl x :: st) h r h' := by
  intro p e R s m args below meth c H locs cells slots mc ms ls C hR hS hl hm e1 e2
  refine lv_ishl C.1 C.2.1 hdg ?_
  rw [di_shl]
  exact G p e R s m args below meth c H locs cells slots mc ms ls C hR hS hl hm e1 e2

theorem ds_ladd {x y : Nat} (hdg : decode q.2.2.1 pc = .ok (.ladd, 1)) (G : dWp l D b q d (pc + 1) L (.inr (.inl (dLAdd x y)) :: st) h r h') : dWp l D b q d pc L (.inr (.inl y) :: .inr (.inl x) :: st) h r h' := by
  intro p e R s m args below meth c H locs cells slots mc ms ls C hR hS hl hm e1 e2
  refine lv_ladd C.1 C.2.1 hdg ?_
  rw [di_ladd]
  exact G p e R s m args below meth c H locs cells slots mc ms ls C hR hS hl hm e1 e2

theorem ds_lsub {x y : Nat} (hdg : decode q.2.2.1 pc = .ok (.lsub, 1)) (G : dWp l D b q d (pc + 1) L (.inr (.inl (dLSub x y)) :: st) h r h') : dWp l D b q d pc L (.inr (.inl y) :: .inr (.inl x) :: st) h r h' := by
  intro p e R s m args below meth c H locs cells slots mc ms ls C hR hS hl hm e1 e2
  refine lv_lsub C.1 C.2.1 hdg ?_
  rw [di_lsub]
  exact G p e R s m args below meth c H locs cells slots mc ms ls C hR hS hl hm e1 e2

theorem ds_lmul {x y : Nat} (hdg : decode q.2.2.1 pc = .ok (.lmul, 1)) (G : dWp l D b q d (pc + 1) L (.inr (.inl (dLMul x y)) :: st) h r h') : dWp l D b q d pc L (.inr (.inl y) :: .inr (.inl x) :: st) h r h' := by
  intro p e R s m args below meth c H locs cells slots mc ms ls C hR hS hl hm e1 e2
  refine lv_lmul C.1 C.2.1 hdg ?_
  rw [di_lmul]
  exact G p e R s m args below meth c H locs cells slots mc ms ls C hR hS hl hm e1 e2

theorem ds_land {x y : Nat} (hdg : decode q.2.2.1 pc = .ok (.land, 1)) (G : dWp l D b q d (pc + 1) L (.inr (.inl (dLAnd x y)) :: st) h r h') : dWp l D b q d pc L (.inr (.inl y) :: .inr (.inl x) :: st) h r h' := by
  intro p e R s m args below meth c H locs cells slots mc ms ls C hR hS hl hm e1 e2
  refine lv_land C.1 C.2.1 hdg ?_
  rw [di_land]
  exact G p e R s m args below meth c H locs cells slots mc ms ls C hR hS hl hm e1 e2

theorem ds_lor {x y : Nat} (hdg : decode q.2.2.1 pc = .ok (.lor, 1)) (G : dWp l D b q d (pc + 1) L (.inr (.inl (dLOr x y)) :: st) h r h') : dWp l D b q d pc L (.inr (.inl y) :: .inr (.inl x) :: st) h r h' := by
  intro p e R s m args below meth c H locs cells slots mc ms ls C hR hS hl hm e1 e2
  refine lv_lor C.1 C.2.1 hdg ?_
  rw [di_lor]
  exact G p e R s m args below meth c H locs cells slots mc ms ls C hR hS hl hm e1 e2

theorem ds_lxor {x y : Nat} (hdg : decode q.2.2.1 pc = .ok (.lxor, 1)) (G : dWp l D b q d (pc + 1) L (.inr (.inl (dLXor x y)) :: st) h r h') : dWp l D b q d pc L (.inr (.inl y) :: .inr (.inl x) :: st) h r h' := by
  intro p e R s m args below meth c H locs cells slots mc ms ls C hR hS hl hm e1 e2
  refine lv_lxor C.1 C.2.1 hdg ?_
  rw [di_lxor]
  exact G p e R s m args below meth c H locs cells slots mc ms ls C hR hS hl hm e1 e2

theorem ds_lcmp {x y : Nat} (hdg : decode q.2.2.1 pc = .ok (.lcmp, 1)) (G : dWp l D b q d (pc + 1) L (.inl (dCmp x y) :: st) h r h') : dWp l D b q d pc L (.inr (.inl y) :: .inr (.inl x) :: st) h r h' := by
  intro p e R s m args below meth c H locs cells slots mc ms ls C hR hS hl hm e1 e2
  refine W.lcmp C.1 C.2.1 hdg ?_
  rw [di_cmp]
  exact G p e R s m args below meth c H locs cells slots mc ms ls C hR hS hl hm e1 e2

theorem ds_lshl {x y : Nat} (hdg : decode q.2.2.1 pc = .ok (.lshl, 1)) (G : dWp l D b q d (pc + 1) L (.inr (.inl (dLShl x y)) :: st) h r h') : dWp l D b q d pc L (.inl y :: .inr (.inl x) :: st) h r h' := by
  intro p e R s m args below meth c H locs cells slots mc ms ls C hR hS hl hm e1 e2
  refine lv_lshl C.1 C.2.1 hdg (di_lshl x y) ?_
  exact G p e R s m args below meth c H locs cells slots mc ms ls C hR hS hl hm e1 e2

theorem ds_lushr {x y : Nat} (hdg : decode q.2.2.1 pc = .ok (.lushr, 1)) (G : dWp l D b q d (pc + 1) L (.inr (.inl (dLUshr x y)) :: st) h r h') : dWp l D b q d pc L (.inl y :: .inr (.inl x) :: st) h r h' := by
  intro p e R s m args below meth c H locs cells slots mc ms ls C hR hS hl hm e1 e2
  refine lv_lushr C.1 C.2.1 hdg (di_lushr x y) ?_
  exact G p e R s m args below meth c H locs cells slots mc ms ls C hR hS hl hm e1 e2

theorem ds_ineg {x : Nat} (hdg : decode q.2.2.1 pc = .ok (.ineg, 1)) (G : dWp l D b q d (pc + 1) L (.inl (dNeg x) :: st) h r h') : dWp l D b q d pc L (.inl x :: st) h r h' := by
  intro p e R s m args below meth c H locs cells slots mc ms ls C hR hS hl hm e1 e2
  refine lv_ineg C.1 C.2.1 hdg ?_
  rw [di_neg]
  exact G p e R s m args below meth c H locs cells slots mc ms ls C hR hS hl hm e1 e2

theorem ds_i2b {x : Nat} (hdg : decode q.2.2.1 pc = .ok (.i2b, 1)) (G : dWp l D b q d (pc + 1) L (.inl (dI2b x) :: st) h r h') : dWp l D b q d pc L (.inl x :: st) h r h' := by
  intro p e R s m args below meth c H locs cells slots mc ms ls C hR hS hl hm e1 e2
  refine lv_i2b C.1 C.2.1 hdg (di_i2b x) ?_
  exact G p e R s m args below meth c H locs cells slots mc ms ls C hR hS hl hm e1 e2

theorem ds_i2l {x : Nat} (hdg : decode q.2.2.1 pc = .ok (.i2l, 1)) (G : dWp l D b q d (pc + 1) L (.inr (.inl (dI2l x)) :: st) h r h') : dWp l D b q d pc L (.inl x :: st) h r h' := by
  intro p e R s m args below meth c H locs cells slots mc ms ls C hR hS hl hm e1 e2
  refine lv_i2l C.1 C.2.1 hdg (di_i2l x) ?_
  exact G p e R s m args below meth c H locs cells slots mc ms ls C hR hS hl hm e1 e2

theorem ds_l2i {x : Nat} (hdg : decode q.2.2.1 pc = .ok (.l2i, 1)) (G : dWp l D b q d (pc + 1) L (.inl (dL2i x) :: st) h r h') : dWp l D b q d pc L (.inr (.inl x) :: st) h r h' := by
  intro p e R s m args below meth c H locs cells slots mc ms ls C hR hS hl hm e1 e2
  refine lv_l2i C.1 C.2.1 hdg (di_l2i x) ?_
  exact G p e R s m args below meth c H locs cells slots mc ms ls C hR hS hl hm e1 e2

theorem ds_if {cn : ClassFile.Cond} {off : Int} {x a : Nat} (hdg : decode q.2.2.1 pc = .ok (.ifCond cn off, 3)) (ht : (pc : Int) + off = (x : Int)) (G1 : dcd cn a 0 = true → dWp l D b q d x L st h r h') (G2 : dcd cn a 0 = false → dWp l D b q d (pc + 3) L st h r h') : dWp l D b q d pc L (.inl a :: st) h r h' := by
  intro p e R s m args below meth c H locs cells slots mc ms ls C hR hS hl hm e1 e2
  cases cn
  · exact lv_if_eq C.1 C.2.1 hdg ht (fun z => G1 (dcd_eq_t (k := 0) z) p e R s m args below meth c H locs cells slots mc ms ls C hR hS hl hm e1 e2) (fun z => G2 (dcd_eq_f (k := 0) z) p e R s m args below meth c H locs cells slots mc ms ls C hR hS hl hm e1 e2)
  · exact lv_if_ne C.1 C.2.1 hdg ht (fun z => G1 (dcd_ne_t (k := 0) z) p e R s m args below meth c H locs cells slots mc ms ls C hR hS hl hm e1 e2) (fun z => G2 (dcd_ne_f (k := 0) z) p e R s m args below meth c H locs cells slots mc ms ls C hR hS hl hm e1 e2)
  · exact lv_if_lt C.1 C.2.1 hdg ht (fun z => G1 (dcd_lt_t (k := 0) z) p e R s m args below meth c H locs cells slots mc ms ls C hR hS hl hm e1 e2) (fun z => G2 (dcd_lt_f (k := 0) z) p e R s m args below meth c H locs cells slots mc ms ls C hR hS hl hm e1 e2)
  · exact lv_if_ge C.1 C.2.1 hdg ht (fun z => G1 (dcd_ge_t (k := 0) z) p e R s m args below meth c H locs cells slots mc ms ls C hR hS hl hm e1 e2) (fun z => G2 (dcd_ge_f (k := 0) z) p e R s m args below meth c H locs cells slots mc ms ls C hR hS hl hm e1 e2)
  · exact lv_if_gt C.1 C.2.1 hdg ht (fun z => G1 (dcd_gt_t (k := 0) z) p e R s m args below meth c H locs cells slots mc ms ls C hR hS hl hm e1 e2) (fun z => G2 (dcd_gt_f (k := 0) z) p e R s m args below meth c H locs cells slots mc ms ls C hR hS hl hm e1 e2)
  · exact lv_if_le C.1 C.2.1 hdg ht (fun z => G1 (dcd_le_t (k := 0) z) p e R s m args below meth c H locs cells slots mc ms ls C hR hS hl hm e1 e2) (fun z => G2 (dcd_le_f (k := 0) z) p e R s m args below meth c H locs cells slots mc ms ls C hR hS hl hm e1 e2)

theorem ds_icmp {cn : ClassFile.Cond} {off : Int} {x a k : Nat} (hdg : decode q.2.2.1 pc = .ok (.if_icmp cn off, 3)) (ht : (pc : Int) + off = (x : Int)) (G1 : dcd cn a k = true → dWp l D b q d x L st h r h') (G2 : dcd cn a k = false → dWp l D b q d (pc + 3) L st h r h') : dWp l D b q d pc L (.inl k :: .inl a :: st) h r h' := by
  intro p e R s m args below meth c H locs cells slots mc ms ls C hR hS hl hm e1 e2
  cases cn
  · exact lv_icmp_eq C.1 C.2.1 hdg ht (fun z => G1 (dcd_eq_t z) p e R s m args below meth c H locs cells slots mc ms ls C hR hS hl hm e1 e2) (fun z => G2 (dcd_eq_f z) p e R s m args below meth c H locs cells slots mc ms ls C hR hS hl hm e1 e2)
  · exact lv_icmp_ne C.1 C.2.1 hdg ht (fun z => G1 (dcd_ne_t z) p e R s m args below meth c H locs cells slots mc ms ls C hR hS hl hm e1 e2) (fun z => G2 (dcd_ne_f z) p e R s m args below meth c H locs cells slots mc ms ls C hR hS hl hm e1 e2)
  · exact lv_icmp_lt C.1 C.2.1 hdg ht (fun z => G1 (dcd_lt_t z) p e R s m args below meth c H locs cells slots mc ms ls C hR hS hl hm e1 e2) (fun z => G2 (dcd_lt_f z) p e R s m args below meth c H locs cells slots mc ms ls C hR hS hl hm e1 e2)
  · exact lv_icmp_ge C.1 C.2.1 hdg ht (fun z => G1 (dcd_ge_t z) p e R s m args below meth c H locs cells slots mc ms ls C hR hS hl hm e1 e2) (fun z => G2 (dcd_ge_f z) p e R s m args below meth c H locs cells slots mc ms ls C hR hS hl hm e1 e2)
  · exact lv_icmp_gt C.1 C.2.1 hdg ht (fun z => G1 (dcd_gt_t z) p e R s m args below meth c H locs cells slots mc ms ls C hR hS hl hm e1 e2) (fun z => G2 (dcd_gt_f z) p e R s m args below meth c H locs cells slots mc ms ls C hR hS hl hm e1 e2)
  · exact lv_icmp_le C.1 C.2.1 hdg ht (fun z => G1 (dcd_le_t z) p e R s m args below meth c H locs cells slots mc ms ls C hR hS hl hm e1 e2) (fun z => G2 (dcd_le_f z) p e R s m args below meth c H locs cells slots mc ms ls C hR hS hl hm e1 e2)

theorem ds_goto {off : Int} {x : Nat} (hdg : decode q.2.2.1 pc = .ok (.goto off, 3)) (ht : (pc : Int) + off = (x : Int)) (G : dWp l D b q d x L st h r h') : dWp l D b q d pc L st h r h' := by
  intro p e R s m args below meth c H locs cells slots mc ms ls C hR hS hl hm e1 e2
  refine lv_goto C.1 C.2.1 hdg ht ?_
  exact G p e R s m args below meth c H locs cells slots mc ms ls C hR hS hl hm e1 e2

theorem ds_dup {v : dV} (hdg : decode q.2.2.1 pc = .ok (.dup, 1)) (hv : disl v = false) (G : dWp l D b q d (pc + 1) L (v :: v :: st) h r h') : dWp l D b q d pc L (v :: st) h r h' := by
  intro p e R s m args below meth c H locs cells slots mc ms ls C hR hS hl hm e1 e2
  refine lv_dup C.1 C.2.1 hdg (by rw [dcat1, hv]; rfl) ?_
  exact G p e R s m args below meth c H locs cells slots mc ms ls C hR hS hl hm e1 e2

theorem ds_pop {v : dV} (hdg : decode q.2.2.1 pc = .ok (.pop, 1)) (hv : disl v = false) (G : dWp l D b q d (pc + 1) L st h r h') : dWp l D b q d pc L (v :: st) h r h' := by
  intro p e R s m args below meth c H locs cells slots mc ms ls C hR hS hl hm e1 e2
  refine lv_pop C.1 C.2.1 hdg (by rw [dcat1, hv]; rfl) ?_
  exact G p e R s m args below meth c H locs cells slots mc ms ls C hR hS hl hm e1 e2

theorem ds_dup2_2 {v : dV} (hdg : decode q.2.2.1 pc = .ok (.dup2, 1)) (hv : disl v = true) (G : dWp l D b q d (pc + 1) L (v :: v :: st) h r h') : dWp l D b q d pc L (v :: st) h r h' := by
  intro p e R s m args below meth c H locs cells slots mc ms ls C hR hS hl hm e1 e2
  refine lv_dup2_2 C.1 C.2.1 hdg (by rw [dcat1, hv]; rfl) ?_
  exact G p e R s m args below meth c H locs cells slots mc ms ls C hR hS hl hm e1 e2

theorem ds_dup2_11 {v w : dV} (hdg : decode q.2.2.1 pc = .ok (.dup2, 1)) (hv : disl v = false) (hw : disl w = false) (G : dWp l D b q d (pc + 1) L (v :: w :: v :: w :: st) h r h') : dWp l D b q d pc L (v :: w :: st) h r h' := by
  intro p e R s m args below meth c H locs cells slots mc ms ls C hR hS hl hm e1 e2
  refine lv_dup2_11 C.1 C.2.1 hdg (by rw [dcat1, hv]; rfl) (by rw [dcat1, hw]; rfl) ?_
  exact G p e R s m args below meth c H locs cells slots mc ms ls C hR hS hl hm e1 e2

end DS
end
section
/-! ===== fields, rows, what is made, calls and answers on the machine ===== -/
theorem dCl_at : ∀ ci, ci < 14 → diCl[ci]? = some (cR ci, cT ci, cN ci) := fun ci h => match ci, h with
  | 0, _ => rfl
  | 1, _ => rfl
  | 2, _ => rfl
  | 3, _ => rfl
  | 4, _ => rfl
  | 5, _ => rfl
  | 6, _ => rfl
  | 7, _ => rfl
  | 8, _ => rfl
  | 9, _ => rfl
  | 10, _ => rfl
  | 11, _ => rfl
  | 12, _ => rfl
  | 13, _ => rfl
  | n + 14, h => absurd h (by omega)
theorem cT_ty : ∀ ci, ci < 14 → ∀ k, k < cN ci → parseFieldDescriptor (cT ci k).2.2.1 = some (cY ci k) := fun ci h => match ci, h with
  | 0, _ => tyX0_ok
  | 1, _ => tyX1_ok
  | 2, _ => tyX2_ok
  | 3, _ => tyX3_ok
  | 4, _ => tyX4_ok
  | 5, _ => tyX5_ok
  | 6, _ => tyX6_ok
  | 7, _ => tyX7_ok
  | 8, _ => tyX8_ok
  | 9, _ => tyX9_ok
  | 10, _ => tyX10_ok
  | 11, _ => tyX11_ok
  | 12, _ => tyX12_ok
  | 13, _ => tyX13_ok
  | n + 14, h => absurd h (by omega)
theorem cT_nm : ∀ ci, ci < 14 → ∀ x, x < cN ci → ∀ y, y < cN ci → x ≠ y → (cT ci x).2.1 ≠ (cT ci y).2.1 := fun ci h => match ci, h with
  | 0, _ => nmX0
  | 1, _ => nmX1
  | 2, _ => nmX2
  | 3, _ => nmX3
  | 4, _ => nmX4
  | 5, _ => nmX5
  | 6, _ => nmX6
  | 7, _ => nmX7
  | 8, _ => nmX8
  | 9, _ => nmX9
  | 10, _ => nmX10
  | 11, _ => nmX11
  | 12, _ => nmX12
  | 13, _ => nmX13
  | n + 14, h => absurd h (by omega)
theorem cY_tc : ∀ ci, ci < 14 → ∀ k, k < cN ci → tcode (cY ci k) < 4 := by decide +kernel
theorem cR_mh : ∀ ci, ci < 14 → cR ci ≠ "java/lang/invoke/MethodHandle" ∧ cR ci ≠ "java/lang/invoke/VarHandle" := by decide +kernel
theorem dCR.obj {D : dD} {b : Nat → Nat} {a ci n ct : Nat} {H : Heap} (h : dCR D b a (ci + 4, n, ct) H) : t_OB a (D.1.1 ci) (cN ci) (D.1.2 ci) H (dFld b ci ct) := by
  rcases h with ⟨h1, -⟩ | ⟨cj, -, h2, h3⟩
  · exact absurd h1 (by show ¬ ci + 4 < 4; omega)
  · have e : cj = ci := by
      have : ci + 4 = cj + 4 := h2
      omega
    subst e
    exact h3
theorem dCR.arr {D : dD} {b : Nat → Nat} {a kd n ct : Nat} {H : Heap} (hk : kd < 4) (h : dCR D b a (kd, n, ct) H) : H[a]? = some (arrV (D.2 kd) n (dEl kd ct)) := by
  rcases h with ⟨-, h2⟩ | ⟨cj, -, h2, -⟩
  · exact h2
  · exact absurd h2 (by show ¬ kd = cj + 4; omega)
theorem dV_at {b : Nat → Nat} {ci ct k : Nat} (hk : k < cN ci) : vp_V ((List.range (cN ci)).map (dFld b ci ct)) k = dFld b ci ct k := by
  simp [vp_V, hk]
theorem dP_of {D : dD} {b : Nat → Nat} {a ci ct : Nat} {H : Heap} (hci : ci < 14) (h : t_OB a (D.1.1 ci) (cN ci) (D.1.2 ci) H (dFld b ci ct)) : va_P D.1 diCl [(a, .inr (ci, (List.range (cN ci)).map (dFld b ci ct)))] H := by
  intro k x hx
  match k, hx with
  | 0, hx =>
    cases hx
    exact ⟨_, dCl_at ci hci, h.to (fun k hk => (dV_at hk).symm)⟩
  | k + 1, hx => cases hx
theorem dcast {b : Nat → Nat} {ty : FieldType} {w : Nat} (h : tcode ty < 4) : dv b (fv (tcode ty) 0) = defaultValue ty := by
  cases ty <;> first | rfl | (exact absurd h (by decide))
theorem dix {i n : Nat} (h1 : i % 4294967296 < n) (h2 : i % 4294967296 < 2147483648) : ¬ (Int32.ofNat i < 0 ∨ n ≤ (Int32.ofNat i).toNatClampNeg) ∧ (Int32.ofNat i).toNatClampNeg = i % 4294967296 := by
  rw [← di_imod i]
  have hc : (Int32.ofNat (i % 4294967296)).toNatClampNeg = i % 4294967296 := nI_clamp (show i % 4294967296 < 2 ^ 31 from h2)
  refine ⟨?_, hc⟩
  rw [hc]
  rintro (q | q)
  · rw [Int32.lt_iff_toInt_lt, di_iv] at q
    rw [if_pos (by omega)] at q
    have : (0 : Int32).toInt = 0 := rfl
    omega
  · omega
theorem ds_v0 (v : Nat) : Value.int (Int32.ofNat v) = .int (Int32.ofNat (v % 4294967296)) := by rw [di_imod]
theorem ds_v1 (v : Nat) : Value.long (Int64.ofNat v) = .long (Int64.ofNat (v % 18446744073709551616)) := by rw [di_jmod]
theorem ds_v2 (v : Nat) : narrow .byte (.int (Int32.ofNat v)) = .int (Int32.ofNat (dI2b (v % 256))) := by
  show Value.int ((Int32.ofNat v).toInt8.toInt32) = _
  rw [di_i2b, di_i2b_eq, di_i2b_eq, Nat.mod_mod]
theorem ds_v3 (v : Nat) : narrow .boolean (.int (Int32.ofNat v)) = .int (Int32.ofNat (v % 2)) := by
  show Value.int (Int32.ofNat v &&& 1) = _
  rw [show (1 : Int32) = Int32.ofNat 1 from rfl, di_and0, show v &&& 1 = v % 2 from Nat.and_two_pow_sub_one_eq_mod v 1]
section DC
variable {l : Launch} {D : dD} {b : Nat → Nat} {q : dMI} {d pc : Nat} {L : dL} {st : List dV} {h h1 : dH} {r : Option dV} {h' : dH} {a n ct ci k : Nat}
theorem ds_getfield {i tc : Nat} (hdg : decode q.2.2.1 pc = .ok (.getfield i, 3)) (ho : q.1 < 14) (hf : (i, ci, k) ∈ dFT q.1) (hci : ci < 14) (hk : k < cN ci) (htc : tcode (cY ci k) = tc) (hc : hat h a = some (ci + 4, n, ct)) (G : dWp l D b q d (pc + 3) L (fv tc (wd 64 ct k) :: st) h r h') : dWp l D b q d pc L (.inr (.inr (Nat.succ a)) :: st) h r h' := by
  intro p e R s m args below meth c H locs cells slots mc ms ls C hR hS hl hm e1 e2
  have hO := (hR.2.2 a _ hc).obj
  refine va_get (D := D.1) (ws := [(b a, .inr (ci, (List.range (cN ci)).map (dFld b ci ct)))]) (ci := ci) (v := dv b (fv tc (wd 64 ct k))) (C := cR ci) (T := cT ci) (N := cN ci) C.1 C.2.1 C.2.2.2.2.1 (fun w hw => List.mem_cons_of_mem _ (dTB_u hci hw)) C.2.2.2.1 C.2.2.2.2.2.2.2.2.1 (dP_of hci hO) 0 rfl (dCl_at ci hci) k hk (C.2.2.2.2.1 _ (List.mem_cons_of_mem _ (dTB_f ho hf))) (fun _ z => z) (by simp [hk, dFld, htc]) hdg ?_
  exact G p e R s m args below meth c H locs cells slots mc ms ls C hR hS hl hm e1 e2
theorem ds_putfield {i w : Nat} {v : dV} (hdg : decode q.2.2.1 pc = .ok (.putfield i, 3)) (ho : q.1 < 14) (hf : (i, ci, k) ∈ dFT q.1) (hci : ci < 14) (hk : k < cN ci) (hfin : (cT ci k).2.2.2 = true → q.2.1.name = "<init>" ∧ (cT ci k).1 = cR q.1) (hc : hat h a = some (ci + 4, n, ct)) (hw : w < 2 ^ 64) (hval : dv b (fv (tcode (cY ci k)) w) = dv b v) (hfit : fits (cY ci k) (dv b v) = true) (hnar : narrow (cY ci k) (dv b v) = dv b v)
    (z1 : h1.1 = h.1) (z2 : h1.2.1 = h.2.1) (hw1 : hwf h1) (eh : ∀ j, hat h1 j = if j = a then some (ci + 4, n, wst 64 ct k w) else hat h j) (G : dWp l D b q d (pc + 3) L st h1 r h') : dWp l D b q d pc L (v :: .inr (.inr (Nat.succ a)) :: st) h r h' := by
  intro p e R s m args below meth c H locs cells slots mc ms ls C hR hS hl hm e1 e2
  obtain ⟨cell, q1, q2, q3, q4⟩ := (hR.2.2 a _ hc).obj
  obtain ⟨hSl, hfc, kC, hkC, hkind⟩ := C.2.2.2.2.2.2.2.2.1.1 ci _ (dCl_at ci hci)
  obtain ⟨cf, kf, fi, f, hi, hsl⟩ := hSl k hk
  have hts := C.2.2.2.2.1
  have hin : ∀ w ∈ u_ws (cR ci) (cT ci) (cN ci), w ∈ dTs q := fun w hw => List.mem_cons_of_mem _ (dTB_u hci hw)
  have hap : ∀ x y, x < cN ci → y < cN ci → x ≠ y → (D.1.2 ci) x ≠ (D.1.2 ci) y := va_apart (D := D.1) (cl := diCl) (tys := []) (own := cR ci) hts hin (cY ci) (cT_ty ci hci) (cT_nm ci hci) C.2.2.2.2.2.2.2.2.1 (dCl_at ci hci)
  have hlink := hts _ (List.mem_cons_of_mem _ (dTB_f ho hf))
  have hlay := hts _ (hin _ (u_in_lay hk))
  have hd := cT_ty ci hci k hk
  have hst := (u_facts hfc hkC (u_lays hts hin hk) hi).1
  have hdone : ∀ (H1 : Heap), H1[b a]? = some (cell.setSlot (D.1.2 ci k) (dv b v)) → H1.size = H.size → (∀ x, x ≠ b a → H1[x]? = H[x]?) → W p l e R s m args below meth c H1 (locs ++ [⟨b a, D.1.2 ci k⟩]) cells slots (MQ below (dQ D b r h') args s mc ms (fun x => b 0 ≤ x)) (F0 m (pc + 3) ls (st.map (dv b))) := by
    intro H1 x1 x2 x3
    refine G p e R s m args below meth c H1 _ cells slots mc ms ls C (hR.set hc x2 x3 (Or.inr ⟨ci, hci, rfl, ?_⟩) z1 hw1 eh) (hS.put x3 (by have := hR.at (Nat.le_of_lt (hat_lt hR.2.1 hc)); omega)) hl hm (by omega) (by omega)
    refine t_OB.to (V := updV (dFld b ci ct) k (dv b v)) ⟨_, x1, q2, q3, t_set q4 hap hk _⟩ (fun j hj => ?_)
    show updV _ _ _ j = dv b (fv (tcode (cY ci j)) (wd 64 (wst 64 ct k w) j))
    rw [wd_wst j hw]
    by_cases hjk : j = k
    · subst hjk
      simp [updV, hval]
    · simp [updV, hjk, dFld]
  unfold u_lay at hlay
  cases hfl : (cT ci k).2.2.2
  · rw [if_neg (by rw [hfl]; decide)] at hlay
    have h6 := u_store hfc hkC hkind hlay hi hd hnar hfit
    refine W.putK C.1 C.2.1 (f := f) ⟨C.2.2.2.1, hlink, ⟨_, _, _, hi⟩, hst⟩ (by rw [q2]; exact h6) q1 q3 (by rw [hsl]; exact k2_hasslot (q4 k hk)) rfl rfl hdg fun H' x1 x2 x3 => ?_
    rw [hsl] at x1 ⊢
    exact hdone H' x1 x2 x3
  · rw [if_pos hfl] at hlay
    obtain ⟨hi1, hi2⟩ := hfin hfl
    have hcf : m.cls = cf := by
      obtain ⟨_, _, c', _, _, _, -, -, hf', -, -, -, hown2, -⟩ := Cond.laysFinal_spec hlay
      have y1 : c' = cf := by have := hi.symm.trans hf'; simp at this; exact this.1.symm
      rw [hi2] at hown2
      rw [← y1]; exact Option.some.inj (C.2.2.2.1.symm.trans hown2)
    have h6 := u_fits hfc hkC hkind (Or.inr hlay) hi hd hnar hfit
    refine W.putFinK C.1 C.2.1 C.2.2.2.1 hlink hi hst hcf (C.2.2.2.2.2.2.2.1.trans hi1) (by rw [q2]; exact h6) q1 q3 (by rw [hsl]; exact k2_hasslot (q4 k hk)) rfl rfl hdg fun H' x1 x2 x3 => ?_
    rw [hsl] at x1 ⊢
    exact hdone H' x1 x2 x3
theorem ds_new {i : Nat} (hn : h.1 < 1073741824) (hdg : decode q.2.2.1 pc = .ok (.new i, 3)) (ho : q.1 < 14) (hx : (i, ci) ∈ dCT q.1) (hci : ci < 14) (z1 : h1.1 = h.1 + 1) (z2 : h1.2.1 = h.2.1 + cN ci) (hw1 : hwf h1) (eh : ∀ j, hat h1 j = if j = h.1 then some (ci + 4, cN ci, 0) else hat h j) (y1 : h1.1 ≤ h'.1) (y2 : h1.2.1 ≤ h'.2.1) (G : dWp l D b q d (pc + 3) L (.inr (.inr (Nat.succ h.1)) :: st) h1 r h') : dWp l D b q d pc L st h r h' := by
  intro p e R s m args below meth c H locs cells slots mc ms ls C hR hS hl hm e1 e2
  have hts := C.2.2.2.2.1
  have hin : ∀ w ∈ u_ws (cR ci) (cT ci) (cN ci), w ∈ dTs q := fun w hw => List.mem_cons_of_mem _ (dTB_u hci hw)
  have hKn := C.2.2.2.2.2.2.2.2.1.1 ci _ (dCl_at ci hci)
  have w1 : Cond.classLink (cR q.1) i (cR ci) ∈ dTs q := List.mem_cons_of_mem _ (dTB_l ho (by unfold dWL; exact List.mem_append.mpr (Or.inl (List.mem_map.mpr ⟨(i, ci), hx, rfl⟩))))
  have w2 : Cond.instantiable (cR ci) (cN ci) ∈ dTs q := List.mem_cons_of_mem _ (dTB_n hci (by simp))
  have w3 : Cond.initialized (cR ci) ∈ dTs q := List.mem_cons_of_mem _ (dTB_n hci (by simp))
  refine W.newcK C.1 C.2.1 C.2.2.2.1 (hts _ w1) (hts _ w2) (hts _ w3) rfl hdg (by have := hm.2.2.1; omega) (by have := hm.2.2.2; omega) hKn.2.1 rfl fun H1 kC hkC x1 x2 x3 => ?_
  rw [show (Value.ref H.size : Value) = dv b (.inr (.inr (Nat.succ h.1))) by rw [hR.1.1, ← hR.at (Nat.le_refl _)]; rfl]
  refine G p e R s m args below meth c H1 locs (cells + 1) (slots + cN ci) mc ms ls C (hR.push hn x2 x3 (Or.inr ⟨ci, hci, rfl, ?_⟩) z1 hw1 eh) (hS.push hR.1.1 x3) hl hm (by omega) (by omega)
  refine (u_born (cY ci) hts hin hKn hkC x1 (cT_ty ci hci)).to (fun j hj => ?_)
  show _ = dv b (fv _ (wd 64 0 j))
  rw [wd_0, dcast (w := 0) (cY_tc ci hci j hj)]
theorem dEl_0 {kd j : Nat} (hk : kd < 4) : dEl kd 0 j = defaultValue (dTy kd) := by
  rcases (show kd = 0 ∨ kd = 1 ∨ kd = 2 ∨ kd = 3 by omega) with rfl | rfl | rfl | rfl <;> (simp only [dEl, dTy, wd_0]; rfl)
theorem ds_newarray {t : ArrayType} {kd x N : Nat} (hn : h.1 < 1073741824) (hdg : decode q.2.2.1 pc = .ok (.newarray t, 2)) (hk : kd < 4) (ht : newarray.typeOf t = dTy kd) (hN : x % 4294967296 = N) (hle : N ≤ 67108864) (z1 : h1.1 = h.1 + 1) (z2 : h1.2.1 = h.2.1 + N) (hw1 : hwf h1) (eh : ∀ j, hat h1 j = if j = h.1 then some (kd, N, 0) else hat h j) (y1 : h1.1 ≤ h'.1) (y2 : h1.2.1 ≤ h'.2.1) (G : dWp l D b q d (pc + 2) L (.inr (.inr (Nat.succ h.1)) :: st) h1 r h') : dWp l D b q d pc L (.inl x :: st) h r h' := by
  intro p e R s m args below meth c H locs cells slots mc ms ls C hR hS hl hm e1 e2
  have hts := C.2.2.2.2.1
  have hi := dix (i := x) (n := N + 1) (by omega) (by omega)
  have w1 : Cond.arrayClass (newarray.typeOf t) ∈ dTs q := by
    rw [ht]
    rcases (show kd = 0 ∨ kd = 1 ∨ kd = 2 ∨ kd = 3 by omega) with rfl | rfl | rfl | rfl <;> exact List.mem_cons_of_mem _ (List.mem_append.mpr (Or.inl (by simp [dTy])))
  refine va_newaK C.1 C.2.1 (hts _ w1) rfl hdg rfl (fun z => hi.1 (Or.inl z)) (hi.2.trans hN) ?_ (by have := hm.2.2.1; omega) (by have := hm.2.2.2; omega) rfl fun H1 cA x1 x2 x3 hAr hNm => ?_
  · rw [ht]
    rcases (show kd = 0 ∨ kd = 1 ∨ kd = 2 ∨ kd = 3 by omega) with rfl | rfl | rfl | rfl <;> (simp only [dTy, componentBytes]; omega)
  · have hcA : cA = D.2 kd := by
      rw [ht] at hNm
      exact Option.some.inj (hNm.symm.trans (C.2.2.2.2.2.2.2.2.2.1 kd hk).2)
    subst hcA
    rw [show (Value.ref H.size : Value) = dv b (.inr (.inr (Nat.succ h.1))) by rw [hR.1.1, ← hR.at (Nat.le_refl _)]; rfl]
    refine G p e R s m args below meth c H1 locs (cells + 1) (slots + N) mc ms ls C (hR.push hn x2 x3 (Or.inl ⟨hk, ?_⟩) z1 hw1 eh) (hS.push hR.1.1 x3) hl hm (by omega) (by omega)
    rw [x1, ht]
    congr 2
    funext j
    exact (dEl_0 hk).symm
theorem ds_alen {kd : Nat} (hdg : decode q.2.2.1 pc = .ok (.arraylength, 1)) (hk : kd < 4) (hc : hat h a = some (kd, n, ct)) (G : dWp l D b q d (pc + 1) L (.inl n :: st) h r h') : dWp l D b q d pc L (.inr (.inr (Nat.succ a)) :: st) h r h' := by
  intro p e R s m args below meth c H locs cells slots mc ms ls C hR hS hl hm e1 e2
  refine W.alen (n := Int32.ofNat n) C.1 C.2.1 ((hR.2.2 a _ hc).arr hk) ((C.2.2.2.2.2.2.2.2.2.1 kd hk).1 n (dEl kd ct)) (by rw [arrV_size]; try rfl) rfl rfl hdg ?_
  exact G p e R s m args below meth c H locs cells slots mc ms ls C hR hS hl hm e1 e2

theorem ds_iaload {i x : Nat} (hdg : decode q.2.2.1 pc = .ok (.iaload, 1)) (hc : hat h a = some (0, n, ct)) (hx : x % 4294967296 = i) (h1 : i < n) (h2 : i < 2147483648) (G : dWp l D b q d (pc + 1) L (.inl (wd 32 ct i) :: st) h r h') : dWp l D b q d pc L (.inl x :: .inr (.inr (Nat.succ a)) :: st) h r h' := by
  intro p e R s m args below meth c H locs cells slots mc ms ls C hR hS hl hm e1 e2
  subst hx
  have hi := dix h1 h2
  refine W.iald (v := dEl 0 ct (x % 4294967296)) C.1 C.2.1 ((hR.2.2 a _ hc).arr (by decide)) ((C.2.2.2.2.2.2.2.2.2.1 0 (by decide)).1 n (dEl 0 ct)) (fun z => by cases z) (by rw [arrV_size]; exact hi.1) (by rw [hi.2, arrV_read _ _ h1]) rfl rfl hdg ?_
  exact G p e R s m args below meth c H locs cells slots mc ms ls C hR hS hl hm e1 e2

theorem ds_laload {i x : Nat} (hdg : decode q.2.2.1 pc = .ok (.laload, 1)) (hc : hat h a = some (1, n, ct)) (hx : x % 4294967296 = i) (h1 : i < n) (h2 : i < 2147483648) (G : dWp l D b q d (pc + 1) L (.inr (.inl (wd 64 ct i)) :: st) h r h') : dWp l D b q d pc L (.inl x :: .inr (.inr (Nat.succ a)) :: st) h r h' := by
  intro p e R s m args below meth c H locs cells slots mc ms ls C hR hS hl hm e1 e2
  subst hx
  have hi := dix h1 h2
  refine W.lald (v := dEl 1 ct (x % 4294967296)) C.1 C.2.1 ((hR.2.2 a _ hc).arr (by decide)) ((C.2.2.2.2.2.2.2.2.2.1 1 (by decide)).1 n (dEl 1 ct)) (fun z => by cases z) (by rw [arrV_size]; exact hi.1) (by rw [hi.2, arrV_read _ _ h1]) rfl rfl hdg ?_
  exact G p e R s m args below meth c H locs cells slots mc ms ls C hR hS hl hm e1 e2

theorem ds_baload2 {i x : Nat} (hdg : decode q.2.2.1 pc = .ok (.baload, 1)) (hc : hat h a = some (2, n, ct)) (hx : x % 4294967296 = i) (h1 : i < n) (h2 : i < 2147483648) (G : dWp l D b q d (pc + 1) L (.inl (dI2b (wd 8 ct i)) :: st) h r h') : dWp l D b q d pc L (.inl x :: .inr (.inr (Nat.succ a)) :: st) h r h' := by
  intro p e R s m args below meth c H locs cells slots mc ms ls C hR hS hl hm e1 e2
  subst hx
  have hi := dix h1 h2
  refine W.bald (v := dEl 2 ct (x % 4294967296)) C.1 C.2.1 ((hR.2.2 a _ hc).arr (by decide)) ((C.2.2.2.2.2.2.2.2.2.1 2 (by decide)).1 n (dEl 2 ct)) (fun z => by cases z) (by rw [arrV_size]; exact hi.1) (by rw [hi.2, arrV_read _ _ h1]) rfl rfl hdg ?_
  exact G p e R s m args below meth c H locs cells slots mc ms ls C hR hS hl hm e1 e2

theorem ds_baload3 {i x : Nat} (hdg : decode q.2.2.1 pc = .ok (.baload, 1)) (hc : hat h a = some (3, n, ct)) (hx : x % 4294967296 = i) (h1 : i < n) (h2 : i < 2147483648) (G : dWp l D b q d (pc + 1) L (.inl (wd 8 ct i) :: st) h r h') : dWp l D b q d pc L (.inl x :: .inr (.inr (Nat.succ a)) :: st) h r h' := by
  intro p e R s m args below meth c H locs cells slots mc ms ls C hR hS hl hm e1 e2
  subst hx
  have hi := dix h1 h2
  refine W.zald (v := dEl 3 ct (x % 4294967296)) C.1 C.2.1 ((hR.2.2 a _ hc).arr (by decide)) ((C.2.2.2.2.2.2.2.2.2.1 3 (by decide)).1 n (dEl 3 ct)) (fun z => by cases z) (by rw [arrV_size]; exact hi.1) (by rw [hi.2, arrV_read _ _ h1]) rfl rfl hdg ?_
  exact G p e R s m args below meth c H locs cells slots mc ms ls C hR hS hl hm e1 e2

theorem ds_iastore {i x v : Nat} (hdg : decode q.2.2.1 pc = .ok (.iastore, 1)) (hc : hat h a = some (0, n, ct)) (hx : x % 4294967296 = i) (g1 : i < n) (g2 : i < 2147483648) (z1 : h1.1 = h.1) (z2 : h1.2.1 = h.2.1) (hw1 : hwf h1) (eh : ∀ j, hat h1 j = if j = a then some (0, n, wst 32 ct i (v % 4294967296)) else hat h j) (G : dWp l D b q d (pc + 1) L st h1 r h') : dWp l D b q d pc L (.inl v :: .inl x :: .inr (.inr (Nat.succ a)) :: st) h r h' := by
  intro p e R s m args below meth c H locs cells slots mc ms ls C hR hS hl hm e1 e2
  subst hx
  have hi := dix g1 g2
  refine W.iast C.1 C.2.1 ((hR.2.2 a _ hc).arr (by decide)) ((C.2.2.2.2.2.2.2.2.2.1 0 (by decide)).1 n (dEl 0 ct)) (fun z => by cases z) (by rw [arrV_size]; exact hi.1) rfl rfl hdg fun H1 x1 x2 x3 => ?_
  rw [hi.2] at x1 ⊢
  refine G p e R s m args below meth c H1 _ cells slots mc ms ls C (hR.set hc x2 x3 (Or.inl ⟨show 0 < 4 by decide, ?_⟩) z1 hw1 eh) (hS.put x3 (by have := hR.at (Nat.le_of_lt (hat_lt hR.2.1 hc)); omega)) hl hm (by omega) (by omega)
  rw [x1, arrV_store]
  congr 2
  funext j
  have hlt : v % 4294967296 < 2 ^ 32 := by omega
  by_cases hj : j = x % 4294967296
  · simp only [updV, if_pos hj, dEl, wd_wst j hlt]
    exact ds_v0 v
  · simp only [updV, if_neg hj, dEl, wd_wst j hlt]

theorem ds_lastore {i x v : Nat} (hdg : decode q.2.2.1 pc = .ok (.lastore, 1)) (hc : hat h a = some (1, n, ct)) (hx : x % 4294967296 = i) (g1 : i < n) (g2 : i < 2147483648) (z1 : h1.1 = h.1) (z2 : h1.2.1 = h.2.1) (hw1 : hwf h1) (eh : ∀ j, hat h1 j = if j = a then some (1, n, wst 64 ct i (v % 18446744073709551616)) else hat h j) (G : dWp l D b q d (pc + 1) L st h1 r h') : dWp l D b q d pc L (.inr (.inl v) :: .inl x :: .inr (.inr (Nat.succ a)) :: st) h r h' := by
  intro p e R s m args below meth c H locs cells slots mc ms ls C hR hS hl hm e1 e2
  subst hx
  have hi := dix g1 g2
  refine W.last C.1 C.2.1 ((hR.2.2 a _ hc).arr (by decide)) ((C.2.2.2.2.2.2.2.2.2.1 1 (by decide)).1 n (dEl 1 ct)) (fun z => by cases z) (by rw [arrV_size]; exact hi.1) rfl rfl hdg fun H1 x1 x2 x3 => ?_
  rw [hi.2] at x1 ⊢
  refine G p e R s m args below meth c H1 _ cells slots mc ms ls C (hR.set hc x2 x3 (Or.inl ⟨show 1 < 4 by decide, ?_⟩) z1 hw1 eh) (hS.put x3 (by have := hR.at (Nat.le_of_lt (hat_lt hR.2.1 hc)); omega)) hl hm (by omega) (by omega)
  rw [x1, arrV_store]
  congr 2
  funext j
  have hlt : v % 18446744073709551616 < 2 ^ 64 := by omega
  by_cases hj : j = x % 4294967296
  · simp only [updV, if_pos hj, dEl, wd_wst j hlt]
    exact ds_v1 v
  · simp only [updV, if_neg hj, dEl, wd_wst j hlt]

theorem ds_bastore2 {i x v : Nat} (hdg : decode q.2.2.1 pc = .ok (.bastore, 1)) (hc : hat h a = some (2, n, ct)) (hx : x % 4294967296 = i) (g1 : i < n) (g2 : i < 2147483648) (z1 : h1.1 = h.1) (z2 : h1.2.1 = h.2.1) (hw1 : hwf h1) (eh : ∀ j, hat h1 j = if j = a then some (2, n, wst 8 ct i (v % 256)) else hat h j) (G : dWp l D b q d (pc + 1) L st h1 r h') : dWp l D b q d pc L (.inl v :: .inl x :: .inr (.inr (Nat.succ a)) :: st) h r h' := by
  intro p e R s m args below meth c H locs cells slots mc ms ls C hR hS hl hm e1 e2
  subst hx
  have hi := dix g1 g2
  refine W.bast C.1 C.2.1 ((hR.2.2 a _ hc).arr (by decide)) ((C.2.2.2.2.2.2.2.2.2.1 2 (by decide)).1 n (dEl 2 ct)) (fun z => by cases z) (by rw [arrV_size]; exact hi.1) rfl rfl hdg fun H1 x1 x2 x3 => ?_
  rw [hi.2] at x1 ⊢
  refine G p e R s m args below meth c H1 _ cells slots mc ms ls C (hR.set hc x2 x3 (Or.inl ⟨show 2 < 4 by decide, ?_⟩) z1 hw1 eh) (hS.put x3 (by have := hR.at (Nat.le_of_lt (hat_lt hR.2.1 hc)); omega)) hl hm (by omega) (by omega)
  rw [x1, arrV_store]
  congr 2
  funext j
  have hlt : v % 256 < 2 ^ 8 := by omega
  by_cases hj : j = x % 4294967296
  · simp only [updV, if_pos hj, dEl, wd_wst j hlt]
    exact ds_v2 v
  · simp only [updV, if_neg hj, dEl, wd_wst j hlt]

theorem ds_bastore3 {i x v : Nat} (hdg : decode q.2.2.1 pc = .ok (.bastore, 1)) (hc : hat h a = some (3, n, ct)) (hx : x % 4294967296 = i) (g1 : i < n) (g2 : i < 2147483648) (z1 : h1.1 = h.1) (z2 : h1.2.1 = h.2.1) (hw1 : hwf h1) (eh : ∀ j, hat h1 j = if j = a then some (3, n, wst 8 ct i (v % 2)) else hat h j) (G : dWp l D b q d (pc + 1) L st h1 r h') : dWp l D b q d pc L (.inl v :: .inl x :: .inr (.inr (Nat.succ a)) :: st) h r h' := by
  intro p e R s m args below meth c H locs cells slots mc ms ls C hR hS hl hm e1 e2
  subst hx
  have hi := dix g1 g2
  refine W.zast C.1 C.2.1 ((hR.2.2 a _ hc).arr (by decide)) ((C.2.2.2.2.2.2.2.2.2.1 3 (by decide)).1 n (dEl 3 ct)) (fun z => by cases z) (by rw [arrV_size]; exact hi.1) rfl rfl hdg fun H1 x1 x2 x3 => ?_
  rw [hi.2] at x1 ⊢
  refine G p e R s m args below meth c H1 _ cells slots mc ms ls C (hR.set hc x2 x3 (Or.inl ⟨show 3 < 4 by decide, ?_⟩) z1 hw1 eh) (hS.put x3 (by have := hR.at (Nat.le_of_lt (hat_lt hR.2.1 hc)); omega)) hl hm (by omega) (by omega)
  rw [x1, arrV_store]
  congr 2
  funext j
  have hlt : v % 2 < 2 ^ 8 := by omega
  by_cases hj : j = x % 4294967296
  · simp only [updV, if_pos hj, dEl, wd_wst j hlt]
    exact ds_v3 v
  · simp only [updV, if_neg hj, dEl, wd_wst j hlt]

end DC
end
section
/-! ===== calls and answers on the machine ===== -/
noncomputable def dal : Nat → List dV → dL
  | _, [] => []
  | i, v :: t => (i, v) :: dal (if disl v = true then i + 2 else i + 1) t
noncomputable def dsz : List dV → Nat
  | [] => 0
  | v :: t => (if disl v = true then 2 else 1) + dsz t
theorem dargs_eq {β : Type} (as : List dV) (i : Nat) (k : dL → Nat → β) : dargs as i k = k (dal i as) (i + dsz as) := by
  induction as generalizing i k with
  | nil => rfl
  | cons v t ih =>
    show cond (disl v) (dargs t (Nat.succ (Nat.succ i)) (fun u n => k ((i, v) :: u) n)) (dargs t (Nat.succ i) (fun u n => k ((i, v) :: u) n)) = _
    cases e : disl v
    · show dargs t (Nat.succ i) _ = _
      rw [ih]
      simp only [dal, dsz, e]
      rw [show Nat.succ i + dsz t = i + (1 + dsz t) by omega]
      rfl
    · show dargs t (Nat.succ (Nat.succ i)) _ = _
      rw [ih]
      simp only [dal, dsz, e]
      rw [show Nat.succ (Nat.succ i) + dsz t = i + (2 + dsz t) by omega]
      rfl
theorem dal_lv (b : Nat → Nat) (as : List dV) (i : Nat) : lv_args i (as.map (dv b)) = dLv b (dal i as) := by
  induction as generalizing i with
  | nil => rfl
  | cons v t ih =>
    show (i, dv b v) :: lv_args (if (dv b v).category = 2 then i + 2 else i + 1) (t.map (dv b)) = (i, dv b v) :: dLv b (dal (if disl v = true then i + 2 else i + 1) t)
    rw [ih, dcat1]
    cases disl v <;> rfl
theorem dsz_lg (b : Nat → Nat) (as : List dV) : (lg_sl (as.map (dv b))).length = dsz as := by
  induction as with
  | nil => rfl
  | cons v t ih =>
    simp only [lg_sl, List.map_cons, List.flatMap_cons, List.length_append, dsz] at ih ⊢
    rw [ih, dcat1]
    cases disl v <;> rfl
theorem dcat_eq (b : Nat → Nat) (st : List dV) : ((st.map (dv b)).map fun v => v.category).sum = dcat st := by
  induction st with
  | nil => rfl
  | cons v t ih =>
    show (dv b v).category + ((t.map (dv b)).map fun v => v.category).sum = Nat.add (cond (disl v) 2 1) (dcat t)
    rw [ih, dcat1]
    cases disl v <;> rfl
theorem dpop_spec {n : Nat} {st acc : List dV} {k : List dV → List dV → dR} {w : Option dV × dH} (hz : dpop n st acc k = some w) : ∃ as rest, st = as.reverse ++ rest ∧ as.length = n ∧ k (as ++ acc) rest = some w := by
  induction n generalizing st acc with
  | zero => exact ⟨[], st, rfl, rfl, hz⟩
  | succ n ih =>
    cases st with
    | nil => cases hz
    | cons v t =>
      obtain ⟨as, rest, h1, h2, h3⟩ := ih (st := t) (acc := v :: acc) hz
      refine ⟨as ++ [v], rest, by rw [h1]; simp, by simp [h2], by simpa using h3⟩
def dpush (r : Option dV) (st : List dV) : List dV := match r with
  | none => st
  | some v => v :: st
theorem dgo_eq (nxt : dCode) (rec : dRec) (d : Nat) (L : dL) (r : List dV) (v : Option dV) (h : dH) : dgo nxt rec d L r v h = nxt rec d L (dpush v r) h := by cases v <;> rfl
/-- a method's contract: what the program of words answers, the machine answers -/
def dMet (l : Launch) (D : dD) (b : Nat → Nat) (q : dMI) (d : Nat) (as : List dV) (h : dH) (v : Option dV) (h1 : dH) : Prop :=
  Met l q.2.1 (dTs q) ({ frames := d, cells := h1.1 - h.1, slots := h1.2.1 - h.2.1, locals := d * 64 } : Room) (va_Pc (as.map (dv b)) (fun U => dRl D b h U.heap ∧ dKK D b U U.heap)) (dQ D b v h1) (h1.1 - h.1) (h1.2.1 - h.2.1) (fun x => b 0 ≤ x)
theorem dMet_of {l : Launch} {D : dD} {b : Nat → Nat} {q : dMI} {d : Nat} {as : List dV} {h : dH} {v : Option dV} {h1 : dH} (hp : plainName q.2.1.cls = true) (hc : q.2.1.cls = cR q.1) (hn : dsz as ≤ q.2.2.2.1) (g1 : h.1 ≤ h1.1) (g2 : h.2.1 ≤ h1.2.1) (G : dWp l D b q d 0 (dal 0 as) [] h v h1) : dMet l D b q d as h v h1 := by
  refine Met.ofW (cc := q.2.2.1) (maxL := q.2.2.2.1) (ret := q.2.2.2.2) hp rfl ?_
  intro p e s m args below meth c s₁ B hml hv
  obtain ⟨rfl, hR, hK⟩ := hv
  rw [lg_entry_eq]
  have hlv := lv_entry (as.map (dv b)) (n := q.2.2.2.1) (by rw [dsz_lg]; exact hn)
  rw [dal_lv] at hlv
  have hown : s.vm.findClass q.2.1.cls = some m.cls := findClass_of_methodNamed B.named
  rw [hc] at hown
  exact G p e _ s m _ below meth c s.heap [] 0 0 _ _ _ ⟨B.exec, B.bytes, hml, hown, atoms_spec (ws := dTs q) B.pre, B.returns, B.notSynchronized, (name_of_methodNamed B.named B.method).1, hK⟩ hR ⟨by rw [hR.1.1]; omega, fun _ _ => rfl, fun x hx => by cases hx⟩ hlv ⟨Nat.le_refl _, Nat.le_refl _, Nat.le_refl _, Nat.le_refl _⟩ (by omega) (by omega)
theorem dblind {D : dD} {b : Nat → Nat} {as : List Value} {h : dH} : FrameBlind (va_Pc as (fun U => dRl D b h U.heap ∧ dKK D b U U.heap)) := fun a U g mk x => ⟨x.1, x.2.1, dKK.same (u := U) (U := U.calling g mk a) rfl x.2.2⟩
theorem ds_after {p : Program} {l : Launch} {e : Env} {R : Room} {s : State} {m : MethodId} {args : Array Value} {below : List Frame} {meth : Method} {c : Code} {H : Heap} {locs : List Loc} {cells slots mc1 ms1 pc : Nat} {ls : Array Slot} {rest st0 : List Value} {Q : State → Prop} {D : dD} {b : Nat → Nat} {v : Option dV} {h1 : dH} {a : Array Value}
    (hr : va_Run p l e R s m args below meth c H locs cells slots mc1 ms1 (F0 m pc ls st0) rest (dQ D b v h1 a) (fun x => b 0 ≤ x)) (hS : dS b s.heap H locs)
    (kk : ∀ (H1 : Heap) (locs1 : List Loc), dRl D b h1 H1 → dS b s.heap H1 locs1 → W p l e R s m args below meth c H1 locs1 (cells + mc1) (slots + ms1) Q (F0 m (pc + 3) ls ((v.map (dv b)).toList ++ rest))) : W p l e R s m args below meth c H locs cells slots Q (F0 m pc ls st0) := by
  intro T hT X
  obtain ⟨v9, st₀, t, T', L, h0, X', hL, x1, x2, ⟨hv, hR, hk⟩, st⟩ := hr T hT X
  cases hv
  rw [h0] at hk
  obtain ⟨t2, a1, b1⟩ := kk T'.heap (locs ++ L) (by rw [x1]; exact hR) ⟨hS.1, fun x hx => by rw [x1, hk x hx]; exact hS.2.1 x hx, fun x hx => by
      rcases List.mem_append.mp hx with g | g
      · exact hS.2.2 x g
      · exact hL x g⟩ T' rfl X'
  exact ⟨t2, st t2 a1, b1⟩
theorem dmap_rev (b : Nat → Nat) (as rest : List dV) : (as.reverse ++ rest).map (dv b) = (as.map (dv b)).reverse ++ rest.map (dv b) := by simp
theorem dmap_rev2 (b : Nat → Nat) (a : Nat) (as rest : List dV) : (as.reverse ++ .inr (.inr (Nat.succ a)) :: rest).map (dv b) = (as.map (dv b)).reverse ++ .ref (b a) :: rest.map (dv b) := by
  rw [dmap_rev]; rfl
theorem dpush_map (b : Nat → Nat) (v : Option dV) (st : List dV) : (dpush v st).map (dv b) = (v.map (dv b)).toList ++ st.map (dv b) := by cases v <;> rfl
section DX
variable {l : Launch} {D : dD} {b : Nat → Nat} {q t : dMI} {d pc i y : Nat} {L : dL} {st as : List dV} {h h1 : dH} {r v : Option dV} {h' : dH} {a n ct ci : Nat}
/-- what is known of a method that is called -/
def dlnk (q t : dMI) (i y : Nat) (as : List dV) (ks : List Nat) : Prop := dMis[y]? = some t ∧ t ∈ dMs ∧ (∃ k, k ∈ ks ∧ (i, y, k) ∈ dMT q.1) ∧ (t.2.1.cls ≠ "java/lang/invoke/MethodHandle" ∧ t.2.1.cls ≠ "java/lang/invoke/VarHandle") ∧ (parseMethodDescriptor t.2.1.desc).map (fun d => d.parameters.length) = some as.length ∧ t.2.2.2.1 ≤ 40
theorem dTs_c (q : dMI) {t : dMI} (h : t ∈ dMs) : GoodIn (dTs q) (dTs t) := by
  intro w hw
  rcases List.mem_cons.mp hw with rfl | hw
  · exact ⟨List.mem_cons_of_mem _ (dTB_c h), dTB_gd (dTB_c h)⟩
  · exact ⟨List.mem_cons_of_mem _ hw, dTB_gd hw⟩
theorem dWM_0 {o i y : Nat} {t : dMI} (h : dMis[y]? = some t) : dWM o (i, y, 0) = [.methodLink (cR o) i t.2.1, .static t.2.1, .initialized t.2.1.cls] := by
  unfold dWM
  dsimp only
  rw [h]
  rfl
theorem dWM_1 {o i y : Nat} {t : dMI} (h : dMis[y]? = some t) : dWM o (i, y, 1) = [.methodLink (cR o) i t.2.1, .instanceMethod t.2.1, .selects t.2.1.cls t.2.1 t.2.1, .initialized t.2.1.cls] := by
  unfold dWM
  dsimp only
  rw [h]
  rfl
theorem dWM_2 {o i y : Nat} {t : dMI} (h : dMis[y]? = some t) : dWM o (i, y, 2) = [.methodLink (cR o) i t.2.1, .instanceMethod t.2.1, .initialized t.2.1.cls] := by
  unfold dWM
  dsimp only
  rw [h]
  rfl
theorem dWM_3 {o i y : Nat} {t : dMI} (h : dMis[y]? = some t) : dWM o (i, y, 3) = [.static t.2.1, .initialized t.2.1.cls] := by
  unfold dWM
  dsimp only
  rw [h]
  rfl
theorem droom {R : Room} {d mc ms : Nat} {mL : Nat} (hm : dRm R (d + 1) mc ms) (hL : mL ≤ 40) : d + 1 ≤ R.frames ∧ 8 + (mL + 11) + d * 64 ≤ R.locals := by
  have h1 := hm.1
  have h2 := hm.2.1
  exact ⟨h1, by omega⟩
theorem ds_static (hdg : decode q.2.2.1 pc = .ok (.invokestatic i, 3)) (ho : q.1 < 14) (K : dlnk q t i y as [0]) (hM : dMet l D b t d as h v h1) (g1 : h.1 ≤ h1.1) (g2 : h.2.1 ≤ h1.2.1) (y1 : h1.1 ≤ h'.1) (y2 : h1.2.1 ≤ h'.2.1) (hc : dcat st ≤ 8) (G : dWp l D b q (d + 1) (pc + 3) L (dpush v st) h1 r h') : dWp l D b q (d + 1) pc L (as.reverse ++ st) h r h' := by
  intro p e R s m args below meth c H locs cells slots mc ms ls C hR hS hl hm e1 e2
  obtain ⟨k1, k2, ⟨k, hk, hk2⟩, k4, k5, k6⟩ := K
  simp at hk; subst hk
  have hts := C.2.2.2.2.1
  have hG := dTs_c q k2
  have hw : ∀ w ∈ dWM q.1 (i, y, 0), w.before args s = true := fun w hw => hts w (List.mem_cons_of_mem _ (dTB_m ho hk2 hw))
  rw [dWM_0 k1] at hw
  have a1 := hw (.methodLink (cR q.1) i t.2.1) (by simp)
  have a2 := hw (.static t.2.1) (by simp)
  have a3 := hw (.initialized t.2.1.cls) (by simp)
  have cb := callB_of (R := R) (own := cR q.1) (index := i) (y := t.2.1) (rm := { frames := d, cells := h1.1 - h.1, slots := h1.2.1 - h.2.1, locals := d * 64 }) as.length hts hG rfl rfl rfl a3 a1 ⟨k4.1, k4.2, k5⟩ (droom hm k6)
  rw [dmap_rev]
  refine ds_after (va_runS ⟨C.1, C.2.1, C.2.2.1, C.2.2.2.1, hts⟩ hM ⟨cb, a2⟩ ⟨dblind, fun U hU hW => ⟨rfl, by rw [hU]; exact hR, by rw [hU]; exact dKK.warm hW (dKK.kept hS.2.1 C.2.2.2.2.2.2.2.2)⟩⟩ rfl (List.length_map _) hl.1 rfl (lv_room (by rw [dcat_eq]; exact hc)) hdg ⟨by have := hm.2.2.1; omega, by have := hm.2.2.2; omega⟩) hS fun H1 locs1 hR1 hS1 => ?_
  rw [← dpush_map]
  exact G p e R s m args below meth c H1 locs1 _ _ mc ms ls C hR1 hS1 hl hm (by omega) (by omega)
theorem ds_nest (hdg : decode q.2.2.1 pc = .ok (.invokestatic i, 3)) (ho : q.1 < 14) (K : dlnk q t i y as [3]) (hN : (q.1, i, y) ∈ dNT) (hM : dMet l D b t d as h v h1) (g1 : h.1 ≤ h1.1) (g2 : h.2.1 ≤ h1.2.1) (y1 : h1.1 ≤ h'.1) (y2 : h1.2.1 ≤ h'.2.1) (hc : dcat st ≤ 8) (G : dWp l D b q (d + 1) (pc + 3) L (dpush v st) h1 r h') : dWp l D b q (d + 1) pc L (as.reverse ++ st) h r h' := by
  intro p e R s m args below meth c H locs cells slots mc ms ls C hR hS hl hm e1 e2
  obtain ⟨k1, k2, ⟨k, hk, hk2⟩, k4, k5, k6⟩ := K
  simp at hk; subst hk
  have hts := C.2.2.2.2.1
  have hG := dTs_c q k2
  have hw : ∀ w ∈ dWM q.1 (i, y, 3), w.before args s = true := fun w hw => hts w (List.mem_cons_of_mem _ (dTB_m ho hk2 hw))
  rw [dWM_3 k1] at hw
  have hnw := C.2.2.2.2.2.2.2.2.2.2.1 _ hN
  have hnm : dNm y = t.2.1 := by unfold dNm; rw [k1]
  dsimp only at hnw
  rw [hnm] at hnw
  have a2 := hw (.static t.2.1) (by simp)
  have a3 := hw (.initialized t.2.1.cls) (by simp)
  have cb := va_cnB (R := R) (own := cR q.1) (index := i) (y := t.2.1) (rm := { frames := d, cells := h1.1 - h.1, slots := h1.2.1 - h.2.1, locals := d * 64 }) as.length hts hG rfl rfl rfl hnw a3 ⟨k4.1, k4.2, k5⟩ (droom hm k6)
  rw [dmap_rev]
  refine ds_after (va_runSN ⟨C.1, C.2.1, C.2.2.1, C.2.2.2.1, hts⟩ hM ⟨cb, a2, trivial⟩ ⟨dblind, fun U hU hW => ⟨rfl, by rw [hU]; exact hR, by rw [hU]; exact dKK.warm hW (dKK.kept hS.2.1 C.2.2.2.2.2.2.2.2)⟩⟩ rfl (List.length_map _) hl.1 rfl (lv_room (by rw [dcat_eq]; exact hc)) hdg ⟨by have := hm.2.2.1; omega, by have := hm.2.2.2; omega⟩) hS fun H1 locs1 hR1 hS1 => ?_
  rw [← dpush_map]
  exact G p e R s m args below meth c H1 locs1 _ _ mc ms ls C hR1 hS1 hl hm (by omega) (by omega)
theorem ds_virtual (hdg : decode q.2.2.1 pc = .ok (.invokevirtual i, 3)) (ho : q.1 < 14) (K : dlnk q t i y as [1]) (hci : ci < 14) (hcl : t.2.1.cls = cR ci) (ha : hat h a = some (ci + 4, n, ct)) (hM : dMet l D b t d (.inr (.inr (Nat.succ a)) :: as) h v h1) (g1 : h.1 ≤ h1.1) (g2 : h.2.1 ≤ h1.2.1) (y1 : h1.1 ≤ h'.1) (y2 : h1.2.1 ≤ h'.2.1) (hc : dcat st ≤ 8) (G : dWp l D b q (d + 1) (pc + 3) L (dpush v st) h1 r h') : dWp l D b q (d + 1) pc L (as.reverse ++ .inr (.inr (Nat.succ a)) :: st) h r h' := by
  intro p e R s m args below meth c H locs cells slots mc ms ls C hR hS hl hm e1 e2
  obtain ⟨k1, k2, ⟨k, hk, hk2⟩, k4, k5, k6⟩ := K
  simp at hk; subst hk
  have hts := C.2.2.2.2.1
  have hG := dTs_c q k2
  have hw : ∀ w ∈ dWM q.1 (i, y, 1), w.before args s = true := fun w hw => hts w (List.mem_cons_of_mem _ (dTB_m ho hk2 hw))
  rw [dWM_1 k1] at hw
  have a1 := hw (.methodLink (cR q.1) i t.2.1) (by simp)
  have a2 := hw (.instanceMethod t.2.1) (by simp)
  have a3 := hw (.initialized t.2.1.cls) (by simp)
  have a4 := hw (.selects t.2.1.cls t.2.1 t.2.1) (by simp)
  have cb := callB_of (R := R) (own := cR q.1) (index := i) (y := t.2.1) (rm := { frames := d, cells := h1.1 - h.1, slots := h1.2.1 - h.2.1, locals := d * 64 }) as.length hts hG rfl rfl rfl a3 a1 ⟨k4.1, k4.2, k5⟩ (droom hm k6)
  obtain ⟨cell, q1, q2, q3, -⟩ := (hR.2.2 a _ ha).obj
  have hfc := (C.2.2.2.2.2.2.2.2.1.1 ci _ (dCl_at ci hci)).2.1
  rw [dmap_rev2]
  refine ds_after (va_runV (C := t.2.1.cls) (b := b a) (As := as.map (dv b)) ⟨C.1, C.2.1, C.2.2.1, C.2.2.2.1, hts⟩ hM ⟨cb, a2, a4⟩ ⟨dblind, ⟨cell, q1, by rw [q3]; rfl, by rw [q2, hcl]; exact hfc⟩, fun U hU hW => ⟨rfl, by rw [hU]; exact hR, by rw [hU]; exact dKK.warm hW (dKK.kept hS.2.1 C.2.2.2.2.2.2.2.2)⟩⟩ rfl (List.length_map _) hl.1 rfl (lv_room (by rw [dcat_eq]; exact hc)) hdg ⟨by have := hm.2.2.1; omega, by have := hm.2.2.2; omega⟩) hS fun H1 locs1 hR1 hS1 => ?_
  rw [← dpush_map]
  exact G p e R s m args below meth c H1 locs1 _ _ mc ms ls C hR1 hS1 hl hm (by omega) (by omega)
theorem ds_special (hdg : decode q.2.2.1 pc = .ok (.invokespecial i, 3)) (ho : q.1 < 14) (K : dlnk q t i y as [2]) (hin : t.2.1.name = "<init>") (hrt : t.2.2.2.2 = none) (hM : dMet l D b t d (.inr (.inr (Nat.succ a)) :: as) h v h1) (g1 : h.1 ≤ h1.1) (g2 : h.2.1 ≤ h1.2.1) (y1 : h1.1 ≤ h'.1) (y2 : h1.2.1 ≤ h'.2.1) (hc : dcat st ≤ 8) (G : dWp l D b q (d + 1) (pc + 3) L (dpush v st) h1 r h') : dWp l D b q (d + 1) pc L (as.reverse ++ .inr (.inr (Nat.succ a)) :: st) h r h' := by
  intro p e R s m args below meth c H locs cells slots mc ms ls C hR hS hl hm e1 e2
  obtain ⟨k1, k2, ⟨k, hk, hk2⟩, k4, k5, k6⟩ := K
  simp at hk; subst hk
  have hts := C.2.2.2.2.1
  have hG := dTs_c q k2
  have hw : ∀ w ∈ dWM q.1 (i, y, 2), w.before args s = true := fun w hw => hts w (List.mem_cons_of_mem _ (dTB_m ho hk2 hw))
  rw [dWM_2 k1] at hw
  have a1 := hw (.methodLink (cR q.1) i t.2.1) (by simp)
  have a2 := hw (.instanceMethod t.2.1) (by simp)
  have a3 := hw (.initialized t.2.1.cls) (by simp)
  have hrw : dTs t = Cond.code t.2.1 t.2.2.1 t.2.2.2.1 none :: dTB := by rw [← hrt]; rfl
  have cb := callB_of (R := R) (own := cR q.1) (index := i) (y := t.2.1) (rm := { frames := d, cells := h1.1 - h.1, slots := h1.2.1 - h.2.1, locals := d * 64 }) as.length hts hG hrw rfl rfl a3 a1 ⟨k4.1, k4.2, k5⟩ (droom hm k6)
  rw [dmap_rev2]
  refine ds_after (va_runI (b := b a) (As := as.map (dv b)) ⟨C.1, C.2.1, C.2.2.1, C.2.2.2.1, hts⟩ hM ⟨cb, hin, a2⟩ ⟨dblind, fun U hU hW => ⟨rfl, by rw [hU]; exact hR, by rw [hU]; exact dKK.warm hW (dKK.kept hS.2.1 C.2.2.2.2.2.2.2.2)⟩⟩ rfl (List.length_map _) hl.1 rfl (lv_room (by rw [dcat_eq]; exact hc)) hdg ⟨by have := hm.2.2.1; omega, by have := hm.2.2.2; omega⟩) hS fun H1 locs1 hR1 hS1 => ?_
  rw [← dpush_map]
  exact G p e R s m args below meth c H1 locs1 _ _ mc ms ls C hR1 hS1 hl hm (by omega) (by omega)
theorem dv_s (b : Nat → Nat) (k : Nat) : dv b (.inr (.inr (Nat.succ k))) = .ref (b k) := rfl
theorem dstr_inv {a : Nat} {k : Nat → Nat → dR} {z : Option dV × dH} (h : dstr a k = some z) : ∃ w n ct, a = dT0 + w ∧ dStr[w]? = some (n, ct) ∧ k n ct = some z := by
  unfold dstr at h
  generalize hw : a % 1048576 = w at h
  cases hb : Nat.beq (dT0 + w) a
  · rw [hb] at h; cases h
  · rw [hb] at h
    have hle := Nat.eq_of_beq_eq_true hb
    rw [nth_eq] at h
    cases e : dStr[w]? with
    | none => rw [e] at h; cases h
    | some q =>
      rw [e] at h
      exact ⟨w, q.1, q.2, hle.symm, e, h⟩
theorem dStr_at {w n ct : Nat} (h : dStr[w]? = some (n, ct)) : w < dStr.length ∧ dLen.getD w 0 = n ∧ ∀ j, j < n → (dByt.getD w []).getD j 0 = Int32.ofNat (wd 8 ct j) := by
  have hw := (List.getElem?_eq_some_iff.mp h).1
  refine ⟨hw, ?_, fun j hj => ?_⟩
  · simp [dLen, List.getD, List.getElem?_map, h]
  · simp [dByt, List.getD, List.getElem?_map, h, hj]
theorem dStr_len : ∀ e ∈ dStr, e.1 < 2147483648 := by decide +kernel
theorem ds_ldt {w : Nat} (hdg : decode q.2.2.1 pc = .ok (.ldc i, 2)) (hm2 : (q.1, i, w) ∈ dSR) (G : dWp l D b q d (pc + 2) L (.inr (.inr (Nat.succ (dT0 + w))) :: st) h r h') : dWp l D b q d pc L st h r h' := by
  generalize hk : dT0 + w = k at G
  intro p e R s m args below meth c H locs cells slots mc ms ls C hR hS hl hm e1 e2
  have hz := C.2.2.2.2.2.2.2.2.2.2.2.1 (q.1, i, w) hm2
  dsimp only at hz
  rw [hk] at hz
  exact va_ldcS C.1 C.2.1 C.2.2.2.1 hz hdg (G p e R s m args below meth c H locs cells slots mc ms ls C hR hS hl hm e1 e2)
theorem ds_strlen {w : Nat} (hdg : decode q.2.2.1 pc = .ok (.invokevirtual i, 3)) (hm2 : (q.1, i, 1) ∈ dSM) (ht : dStr[w]? = some (n, ct)) (hd : 4 ≤ d) (hc : dcat st ≤ 8) (y1 : h.1 ≤ h'.1) (y2 : h.2.1 ≤ h'.2.1) (G : dWp l D b q d (pc + 3) L (.inl n :: st) h r h') : dWp l D b q d pc L (.inr (.inr (Nat.succ (dT0 + w))) :: st) h r h' := by
  intro p e R s m args below meth c H locs cells slots mc ms ls C hR hS hl hm e1 e2
  rw [List.map_cons, dv_s]
  obtain ⟨hw, hlen, -⟩ := dStr_at ht
  have hts := C.2.2.2.2.1
  have h1 := hm.1
  have h2 := hm.2.1
  have hj : ∀ w ∈ dTJ, w ∈ dTs q := fun w hw => List.mem_cons_of_mem _ (dTB_j hw)
  have hT : dKT2 b s H := (dKK.kept hS.2.1 C.2.2.2.2.2.2.2.2).2.2.2.2
  have cb := callB_of (R := R) (own := cR q.1) (index := i) (y := yJ0_length_8abf5) (rm := k2_rm 1 22) 0 hts (dGJ (k := Cond.code yJ0_length_8abf5 cJ0_length_8abf5 1 (some .int)) hj (by decide +kernel)) rfl rfl rfl (hts _ (hj (.initialized RJ0) (by decide +kernel))) (hts _ (List.mem_cons_of_mem _ (dTB_s hm2))) ⟨by decide, by decide, by decide +kernel⟩ ⟨by show 1 + 1 ≤ _; omega, by show 8 + (1 + 11) + 22 ≤ _; omega⟩
  obtain ⟨cell, g1, g2, g3, -⟩ := (hT.2.2.1 w hw).1
  refine dt_after (v := some (.int (Int32.ofNat (dLen.getD w 0)))) (va_runV (C := RJ0) (b := b (dT0 + w)) (As := []) (rest := st.map (dv b)) ⟨C.1, C.2.1, C.2.2.1, C.2.2.2.1, hts⟩ (jt_length l (adK := fun z => b (dT0 + z)) (adV := fun z => b (dT1 + z)) (A := fun q => b 0 ≤ q) (byt := dByt) hw) ⟨cb, hts _ (hj (.instanceMethod yJ0_length_8abf5) (by decide +kernel)), hts _ (hj (.selects RJ0 yJ0_length_8abf5 yJ0_length_8abf5) (by decide +kernel))⟩ ⟨dTblind, ⟨cell, g1, g2, g3⟩, fun U hU hW => ⟨rfl, by show dKT2 b U U.heap; rw [hU]; exact dTxt.moved hW.alike hT⟩⟩ rfl rfl hl.1 rfl (lv_room (by rw [dcat_eq]; exact hc)) hdg ⟨by have := hm.2.2.1; omega, by have := hm.2.2.2; omega⟩) ?_
  rw [hlen]
  exact G p e R s m args below meth c H locs cells slots mc ms ls C hR hS hl hm e1 e2
theorem ds_charAt {w x j : Nat} (hdg : decode q.2.2.1 pc = .ok (.invokevirtual i, 3)) (hm2 : (q.1, i, 2) ∈ dSM) (ht : dStr[w]? = some (n, ct)) (hx : x % 4294967296 = j) (hjn : j < n) (hd : 4 ≤ d) (hc : dcat st ≤ 8) (y1 : h.1 ≤ h'.1) (y2 : h.2.1 ≤ h'.2.1) (G : dWp l D b q d (pc + 3) L (.inl (wd 8 ct j) :: st) h r h') : dWp l D b q d pc L (.inl x :: .inr (.inr (Nat.succ (dT0 + w))) :: st) h r h' := by
  intro p e R s m args below meth c H locs cells slots mc ms ls C hR hS hl hm e1 e2
  rw [List.map_cons, List.map_cons, dv_s]
  subst hx
  obtain ⟨hw, hlen, hby⟩ := dStr_at ht
  have hn : n < 2147483648 := dStr_len _ (List.mem_of_getElem? ht)
  have hi := dix (i := x) (n := n) hjn (by omega)
  have hts := C.2.2.2.2.1
  have h1 := hm.1
  have h2 := hm.2.1
  have hj : ∀ w ∈ dTJ, w ∈ dTs q := fun w hw => List.mem_cons_of_mem _ (dTB_j hw)
  have hT : dKT2 b s H := (dKK.kept hS.2.1 C.2.2.2.2.2.2.2.2).2.2.2.2
  have cb := callB_of (R := R) (own := cR q.1) (index := i) (y := yJ0_charAt_5068e) (rm := k2_rm 3 64) 1 hts (dGJ (k := Cond.code yJ0_charAt_5068e cJ0_charAt_5068e 2 (some .char)) hj (by decide +kernel)) rfl rfl rfl (hts _ (hj (.initialized RJ0) (by decide +kernel))) (hts _ (List.mem_cons_of_mem _ (dTB_s hm2))) ⟨by decide, by decide, by decide +kernel⟩ ⟨by show 3 + 1 ≤ _; omega, by show 8 + (2 + 11) + 64 ≤ _; omega⟩
  obtain ⟨cell, g1, g2, g3, -⟩ := (hT.2.2.1 w hw).1
  have hwd : wd 8 ct (x % 4294967296) < 256 := wd_lt 8 ct _
  have hlt : Int32.ofNat x < Int32.ofNat (dLen.getD w 0) := by
    rw [hlen, Int32.lt_iff_toInt_lt, di_iv, di_iv, if_pos (by omega), if_pos (by omega)]
    omega
  refine dt_after (v := some (.int (Int32.ofNat (wd 8 ct (x % 4294967296))))) (va_runV (C := RJ0) (b := b (dT0 + w)) (As := [.int (Int32.ofNat x)]) (rest := st.map (dv b)) ⟨C.1, C.2.1, C.2.2.1, C.2.2.2.1, hts⟩ (jt_charAt l (adK := fun z => b (dT0 + z)) (adV := fun z => b (dT1 + z)) (A := fun q => b 0 ≤ q) (byt := dByt) hw (fun z => hi.1 (Or.inl z)) hlt (by rw [hlen]; exact hi.1) (by rw [hi.2]; exact hby _ hjn) hwd) ⟨cb, hts _ (hj (.instanceMethod yJ0_charAt_5068e) (by decide +kernel)), hts _ (hj (.selects RJ0 yJ0_charAt_5068e yJ0_charAt_5068e) (by decide +kernel))⟩ ⟨dTblind, ⟨cell, g1, g2, g3⟩, fun U hU hW => ⟨rfl, by show dKT2 b U U.heap; rw [hU]; exact dTxt.moved hW.alike hT⟩⟩ rfl rfl hl.1 rfl (lv_room (by rw [dcat_eq]; exact hc)) hdg ⟨by have := hm.2.2.1; omega, by have := hm.2.2.2; omega⟩) ?_
  exact G p e R s m args below meth c H locs cells slots mc ms ls C hR hS hl hm e1 e2
theorem ds_objinit (hdg : decode q.2.2.1 pc = .ok (.invokespecial i, 3)) (ho : q.1 < 14) (hi : i ∈ dOT q.1) (hc : dcat st ≤ 8) (G : dWp l D b q (d + 1) (pc + 3) L st h r h') : dWp l D b q (d + 1) pc L (.inr (.inr (Nat.succ a)) :: st) h r h' := by
  intro p e R s m args below meth c H locs cells slots mc ms ls C hR hS hl hm e1 e2
  have hts := C.2.2.2.2.1
  have w1 : Cond.instanceMethod objectInit ∈ dTs q := List.mem_cons_of_mem _ (List.mem_append.mpr (Or.inl (by simp)))
  have w2 : Cond.code objectInit ⟨#[0xb1]⟩ 1 none ∈ dTs q := List.mem_cons_of_mem _ (List.mem_append.mpr (Or.inl (by simp)))
  have h1 := hm.1
  have h2 := hm.2.1
  refine W.objInit C.1 C.2.1 C.2.2.2.1 (hts _ (List.mem_cons_of_mem _ (dTB_i ho hi))) (hts _ w1) (hts _ w2) rfl (hl.1.trans C.2.2.1.symm) rfl hdg (by omega) (by
    have h3 := dcat_eq b st
    show 2 * 0 + _ + 12 ≤ _
    rw [h3]; omega) ?_
  exact G p e R s m args below meth c H locs cells slots mc ms ls C hR hS hl hm e1 e2
theorem dend {C9 : Prop} {s : State} {H : Heap} {locs : List Loc} {D : dD} {b : Nat → Nat} {h : dH} {v : Option dV} {args : Array Value} (hR : dRl D b h H) (hS : dS b s.heap H locs) : ∀ t : State, t.heap = H → s.WarmedH t.vm → dQ D b v h args s (.returned (v.map (dv b))) t :=
  fun t ht _ => ⟨rfl, by rw [ht]; exact hR, fun x hx => by rw [ht]; exact hS.2.1 x hx⟩
theorem ds_return (hdg : decode q.2.2.1 pc = .ok (.return_, 1)) (hr : q.2.2.2.2 = none) : dWp l D b q d pc L [] h none h := by
  intro p e R s m args below meth c H locs cells slots mc ms ls C hR hS hl hm e1 e2
  obtain rfl : mc = cells := by omega
  obtain rfl : ms = slots := by omega
  exact W.vret C.1 C.2.1 (C.2.2.2.2.2.1.trans hr) (dend (C9 := True) (v := none) hR hS) hS.2.2 hdg C.2.2.2.2.2.2.1
theorem ds_ireturn {x : Nat} {ty : FieldType} (hdg : decode q.2.2.1 pc = .ok (.ireturn, 1)) (hr : q.2.2.2.2 = some ty) (hn : narrow ty (.int (Int32.ofNat x)) = .int (Int32.ofNat x)) : dWp l D b q d pc L [.inl x] h (some (.inl x)) h := by
  intro p e R s m args below meth c H locs cells slots mc ms ls C hR hS hl hm e1 e2
  obtain rfl : mc = cells := by omega
  obtain rfl : ms = slots := by omega
  exact W.zret C.1 C.2.1 (C.2.2.2.2.2.1.trans hr) hn (dend (C9 := True) (v := some (.inl x)) hR hS) hS.2.2 hdg C.2.2.2.2.2.2.1
theorem ds_lreturn {x : Nat} (hdg : decode q.2.2.1 pc = .ok (.lreturn, 1)) (hr : q.2.2.2.2 = some .long) : dWp l D b q d pc L [.inr (.inl x)] h (some (.inr (.inl x))) h := by
  intro p e R s m args below meth c H locs cells slots mc ms ls C hR hS hl hm e1 e2
  obtain rfl : mc = cells := by omega
  obtain rfl : ms = slots := by omega
  exact W.lret C.1 C.2.1 (C.2.2.2.2.2.1.trans hr) (dend (C9 := True) (v := some (.inr (.inl x))) hR hS) hS.2.2 hdg C.2.2.2.2.2.2.1
end DX
end

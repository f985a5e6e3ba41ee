/-! ===== bytes of one content put into another ===== -/
def dch (c p n : Nat) : Nat := Nat.mod (Nat.shiftRight c (Nat.add (Nat.mul 8 p) 64)) (Nat.pow 2 (Nat.mul 8 n))
def dcp (cs ct sp dp n : Nat) : Nat := Nat.xor (Nat.xor ct (Nat.shiftLeft (Nat.xor (dch cs sp n) (dch ct dp n)) (Nat.add (Nat.mul 8 dp) 64))) (dmx (Nat.add dp n) (Nat.xor (dch cs sp n) (dch ct dp n)))
theorem dch_tb (c p n i : Nat) : (dch c p n).testBit i = (decide (i < 8 * n) && c.testBit (8 * p + 64 + i)) := by
  have h : dch c p n = (c >>> (8 * p + 64)) % 2 ^ (8 * n) := rfl
  rw [h, Nat.testBit_mod_two_pow, Nat.testBit_shiftRight]
theorem wd_dcp (cs ct sp dp n j : Nat) : wd 8 (dcp cs ct sp dp n) j = if dp ≤ j ∧ j < dp + n then wd 8 cs (sp + (j - dp)) else wd 8 ct j := by
  obtain ⟨m, hm, hs⟩ : ∃ m, m < 2 ^ 64 ∧ dcp cs ct sp dp n = (ct ^^^ ((dch cs sp n ^^^ dch ct dp n) <<< (8 * dp + 64))) ^^^ m := ⟨_, dmx_lt _ _, rfl⟩
  apply Nat.eq_of_testBit_eq
  intro i
  have hmi : m.testBit (8 * j + 64 + i) = false := Nat.testBit_lt_two_pow (Nat.lt_of_lt_of_le hm (Nat.pow_le_pow_right (by decide) (by omega)))
  rw [wd_tb, hs, Nat.testBit_xor, hmi, Bool.xor_false, Nat.testBit_xor, Nat.testBit_shiftLeft]
  by_cases hi : i < 8
  · by_cases hj : dp ≤ j ∧ j < dp + n
    · rw [if_pos hj, Nat.testBit_xor, dch_tb, dch_tb, wd_tb]
      have h1 : 8 * j + 64 + i ≥ 8 * dp + 64 := by omega
      have h2 : 8 * j + 64 + i - (8 * dp + 64) < 8 * n := by omega
      rw [show 8 * dp + 64 + (8 * j + 64 + i - (8 * dp + 64)) = 8 * j + 64 + i by omega, show 8 * sp + 64 + (8 * j + 64 + i - (8 * dp + 64)) = 8 * (sp + (j - dp)) + 64 + i by omega]
      simp only [hi, h1, h2, decide_true, Bool.true_and, ge_iff_le]
      cases ct.testBit (8 * j + 64 + i) <;> cases cs.testBit (8 * (sp + (j - dp)) + 64 + i) <;> rfl
    · rw [if_neg hj, wd_tb]
      by_cases hk : 8 * j + 64 + i ≥ 8 * dp + 64
      · have h2 : ¬ 8 * j + 64 + i - (8 * dp + 64) < 8 * n := by omega
        rw [Nat.testBit_xor, dch_tb, dch_tb]
        simp [hi, h2]
      · simp [hi, hk]
  · split <;> simp [wd_tb, hi]

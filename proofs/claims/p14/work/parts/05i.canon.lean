/-! ===== a content that was made by stores alone is determined by its words ===== -/
def wT (w k v : Nat) : Nat := (v <<< (w * k + 64)) ^^^ dmx k v
def wF (w c : Nat) : Nat → Nat
  | 0 => 0
  | n + 1 => wF w c n ^^^ wT w n (wd w c n)
def wcan (w n c : Nat) : Prop := c = wF w c n
theorem dmx_0 (k : Nat) : dmx k 0 = 0 := by
  have h : Nat.mul 0 (Nat.add (Nat.mul k 11400714819323198485) 14029467366897019727) = 0 := Nat.zero_mul _
  unfold dmx
  rw [h]
theorem wT_0 (w k : Nat) : wT w k 0 = 0 := by
  unfold wT
  rw [dmx_0, Nat.zero_shiftLeft]; rfl
theorem wF_0 (w n : Nat) : wF w 0 n = 0 := by
  induction n with
  | zero => rfl
  | succ n ih =>
    show wF w 0 n ^^^ wT w n (wd w 0 n) = 0
    rw [ih, wd_0, wT_0]; rfl
theorem wcan_0 (w n : Nat) : wcan w n 0 := (wF_0 w n).symm
theorem wF_ext {w c c2 n : Nat} (h : ∀ k, k < n → wd w c k = wd w c2 k) : wF w c n = wF w c2 n := by
  induction n with
  | zero => rfl
  | succ n ih =>
    show wF w c n ^^^ wT w n (wd w c n) = wF w c2 n ^^^ wT w n (wd w c2 n)
    rw [ih fun k hk => h k (by omega), h n (by omega)]
theorem wcan_ext {w n c c2 : Nat} (h1 : wcan w n c) (h2 : wcan w n c2) (h : ∀ k, k < n → wd w c k = wd w c2 k) : c = c2 := by
  rw [h1, h2]
  exact wF_ext h
theorem wF_wst {w c k v n : Nat} (hv : v < 2 ^ w) : wF w (wst w c k v) n = if k < n then wF w c n ^^^ (wT w k (wd w c k) ^^^ wT w k v) else wF w c n := by
  induction n with
  | zero => rfl
  | succ n ih =>
    show wF w (wst w c k v) n ^^^ wT w n (wd w (wst w c k v) n) = if k < n + 1 then (wF w c n ^^^ wT w n (wd w c n)) ^^^ (wT w k (wd w c k) ^^^ wT w k v) else wF w c n ^^^ wT w n (wd w c n)
    rw [ih, wd_wst n hv]
    by_cases h1 : k < n
    · rw [if_pos h1, if_neg (show ¬ n = k by omega), if_pos (show k < n + 1 by omega)]
      ac_rfl
    · by_cases h2 : n = k
      · subst h2
        rw [if_neg (Nat.lt_irrefl _), if_pos rfl, if_pos (Nat.lt_succ_self _)]
        generalize wF w c n = F
        generalize wT w n (wd w c n) = A
        generalize wT w n v = V
        rw [Nat.xor_assoc, ← Nat.xor_assoc A A V, Nat.xor_self, Nat.zero_xor]
      · rw [if_neg h1, if_neg h2, if_neg (show ¬ k < n + 1 by omega)]
theorem wcan_wst {w n c k v : Nat} (h : wcan w n c) (hk : k < n) (hv : v < 2 ^ w) : wcan w n (wst w c k v) := by
  show wst w c k v = wF w (wst w c k v) n
  rw [wF_wst hv, if_pos hk, ← show c = wF w c n from h]
  show (c ^^^ ((wd w c k ^^^ v) <<< (w * k + 64))) ^^^ (dmx k (wd w c k) ^^^ dmx k v) = c ^^^ (((wd w c k <<< (w * k + 64)) ^^^ dmx k (wd w c k)) ^^^ ((v <<< (w * k + 64)) ^^^ dmx k v))
  rw [Nat.shiftLeft_xor_distrib]
  ac_rfl

/-! ===== a heap of words: values, cells, and how they lie in the machine's heap ===== -/
abbrev dV : Type := Nat ⊕ Nat ⊕ Nat
abbrev dC : Type := Nat × Nat × Nat
abbrev dH : Type := Nat × Nat × List (List dC)
/-- a value: an int, a long, or (0) null and (k + 1) the cell k, which lies at b k -/
def dv (b : Nat → Nat) : dV → Value
  | .inl n => .int (Int32.ofNat n)
  | .inr (.inl n) => .long (Int64.ofNat n)
  | .inr (.inr 0) => .null
  | .inr (.inr (k + 1)) => .ref (b k)
/-- number k of the words of w bits in c (tables) -/
def wq (w c k : Nat) : Nat := Nat.mod (Nat.shiftRight c (Nat.mul w k)) (Nat.pow 2 w)
/-- number k of the words of w bits in c, behind 64 bits that stand for nothing (they only tell contents apart at a glance) -/
def wd (w c k : Nat) : Nat := Nat.mod (Nat.shiftRight c (Nat.add (Nat.mul w k) 64)) (Nat.pow 2 w)
def dmx (k v : Nat) : Nat := Nat.mod (Nat.mul v (Nat.add (Nat.mul k 11400714819323198485) 14029467366897019727)) 18446744073709551616
def wst (w c k v : Nat) : Nat := Nat.xor (Nat.xor c (Nat.shiftLeft (Nat.xor (wd w c k) v) (Nat.add (Nat.mul w k) 64))) (Nat.xor (dmx k (wd w c k)) (dmx k v))
theorem wd_tb (w c k i : Nat) : (wd w c k).testBit i = (decide (i < w) && c.testBit (w * k + 64 + i)) := by
  have h : wd w c k = (c >>> (w * k + 64)) % 2 ^ w := rfl
  rw [h, Nat.testBit_mod_two_pow, Nat.testBit_shiftRight]
theorem wd_lt (w c k : Nat) : wd w c k < 2 ^ w := Nat.mod_lt _ (Nat.two_pow_pos w)
theorem dmx_lt (k v : Nat) : dmx k v < 2 ^ 64 := Nat.mod_lt _ (by decide)
theorem wd_wst {w c k v : Nat} (j : Nat) (hv : v < 2 ^ w) : wd w (wst w c k v) j = if j = k then v else wd w c j := by
  obtain ⟨m, hm, hs⟩ : ∃ m, m < 2 ^ 64 ∧ wst w c k v = (c ^^^ ((wd w c k ^^^ v) <<< (w * k + 64))) ^^^ m := ⟨_, Nat.xor_lt_two_pow (dmx_lt k (wd w c k)) (dmx_lt k v), rfl⟩
  have hx : wd w c k ^^^ v < 2 ^ w := Nat.xor_lt_two_pow (wd_lt w c k) hv
  apply Nat.eq_of_testBit_eq
  intro i
  have hmi : m.testBit (w * j + 64 + i) = false := Nat.testBit_lt_two_pow (Nat.lt_of_lt_of_le hm (Nat.pow_le_pow_right (by decide) (by omega)))
  rw [wd_tb, hs, Nat.testBit_xor, hmi, Bool.xor_false, Nat.testBit_xor, Nat.testBit_shiftLeft]
  by_cases hi : i < w
  · by_cases hj : j = k
    · subst hj
      rw [if_pos rfl, show w * j + 64 + i - (w * j + 64) = i by omega, Nat.testBit_xor, wd_tb]
      have h1 : w * j + 64 + i ≥ w * j + 64 := by omega
      simp [hi, h1]
    · rw [if_neg hj, wd_tb]
      by_cases hk : w * j + 64 + i ≥ w * k + 64
      · have hjk : k + 1 ≤ j := by
          rcases Nat.lt_or_ge k j with q | q
          · exact q
          · exfalso
            have q2 : j + 1 ≤ k := by omega
            have q3 : w * (j + 1) ≤ w * k := Nat.mul_le_mul_left w q2
            rw [Nat.mul_add] at q3
            omega
        have q3 : w * (k + 1) ≤ w * j := Nat.mul_le_mul_left w hjk
        rw [Nat.mul_add] at q3
        have h2 : (wd w c k ^^^ v).testBit (w * j + 64 + i - (w * k + 64)) = false := Nat.testBit_lt_two_pow (Nat.lt_of_lt_of_le hx (Nat.pow_le_pow_right (by decide) (by omega)))
        simp [hi, h2]
      · simp [hi, hk]
  · have h0 : (decide (i < w)) = false := by simp [hi]
    rw [h0, Bool.false_and]
    by_cases hj : j = k
    · rw [if_pos hj]
      exact (Nat.testBit_lt_two_pow (Nat.lt_of_lt_of_le hv (Nat.pow_le_pow_right (by decide) (by omega)))).symm
    · rw [if_neg hj, wd_tb, h0, Bool.false_and]
theorem wd_0 (w k : Nat) : wd w 0 k = 0 := by
  have h : wd w 0 k = (0 >>> (w * k + 64)) % 2 ^ w := rfl
  rw [h, Nat.zero_shiftRight, Nat.zero_mod]
-- strict steps: a number is reckoned out before it goes on
noncomputable def fo {α : Type} (n : Nat) (k : Nat → α) : α := Nat.rec (motive := fun _ => α) (k 0) (fun m _ => k (Nat.succ m)) n
theorem fo_eq {α : Type} (n : Nat) (k : Nat → α) : fo n k = k n := by cases n <;> rfl
noncomputable def nth {α : Type} (l : List α) : Nat → Option α := List.rec (motive := fun _ => Nat → Option α) (fun _ => none) (fun a _ ih n => Nat.rec (motive := fun _ => Option α) (some a) (fun m _ => ih m) n) l
theorem nth_eq {α : Type} (l : List α) (n : Nat) : nth l n = l[n]? := by
  induction l generalizing n with
  | nil => rfl
  | cons a t ih => cases n with
    | zero => rfl
    | succ m => rw [List.getElem?_cons_succ, ← ih m]; rfl
noncomputable def setc {α β : Type} (l : List α) : Nat → α → (List α → β) → β → β := List.rec (motive := fun _ => Nat → α → (List α → β) → β → β) (fun _ _ _ z => z) (fun a t ih n c k z => Nat.rec (motive := fun _ => β) (k (c :: t)) (fun m _ => ih m c (fun u => k (a :: u)) z) n) l
theorem setc_eq {α β : Type} (l : List α) (n : Nat) (c : α) (k : List α → β) (z : β) : setc l n c k z = if n < l.length then k (l.set n c) else z := by
  induction l generalizing n k with
  | nil => rfl
  | cons a t ih => cases n with
    | zero => rfl
    | succ m =>
      show setc t m c (fun u => k (a :: u)) z = _
      rw [ih]
      simp only [List.length_cons, Nat.add_lt_add_iff_right, List.set_cons_succ]
noncomputable def appc {α β : Type} (l : List α) : α → (List α → β) → β := List.rec (motive := fun _ => α → (List α → β) → β) (fun c k => k [c]) (fun a _ ih c k => ih c (fun u => k (a :: u))) l
theorem appc_eq {α β : Type} (l : List α) (c : α) (k : List α → β) : appc l c k = k (l ++ [c]) := by
  induction l generalizing k with
  | nil => rfl
  | cons a t ih =>
    show appc t c (fun u => k (a :: u)) = _
    rw [ih]
    rfl
/-- the cell k -/
noncomputable def hat (h : dH) (k : Nat) : Option dC := match nth h.2.2 (Nat.div k 16) with
  | none => none
  | some ch => nth ch (Nat.mod k 16)
def hwf (h : dH) : Prop := h.2.2.length = (h.1 + 15) / 16 ∧ ∀ (i : Nat) (ch : List dC), h.2.2[i]? = some ch → ch.length = min 16 (h.1 - 16 * i)
theorem hat_eq (h : dH) (k : Nat) : hat h k = (h.2.2[k / 16]?).bind (fun ch => ch[k % 16]?) := by
  unfold hat
  rw [nth_eq]
  show (match h.2.2[k / 16]? with | none => none | some ch => nth ch (Nat.mod k 16)) = _
  cases h.2.2[k / 16]? with
  | none => rfl
  | some ch => exact nth_eq ch _
theorem hat_lt {h : dH} (hw : hwf h) {k : Nat} {c : dC} (e : hat h k = some c) : k < h.1 := by
  rw [hat_eq] at e
  cases hc : h.2.2[k / 16]? with
  | none => rw [hc] at e; cases e
  | some ch =>
    rw [hc] at e
    have h1 := hw.2 _ _ hc
    have h2 : k % 16 < ch.length := (List.getElem?_eq_some_iff.mp e).1
    omega
noncomputable def hset {β : Type} (h : dH) (k : Nat) (c : dC) (f : dH → β) (z : β) : β := match h with
  | (n, s, cs) => match nth cs (Nat.div k 16) with
    | none => z
    | some ch => setc ch (Nat.mod k 16) c (fun ch' => setc cs (Nat.div k 16) ch' (fun cs' => f (n, s, cs')) z) z
theorem hset_spec {β : Type} {h : dH} {k : Nat} {c0 c : dC} (f : dH → β) (z : β) (hw : hwf h) (e : hat h k = some c0) : ∃ h' : dH, hset h k c f z = f h' ∧ h'.1 = h.1 ∧ h'.2.1 = h.2.1 ∧ hwf h' ∧ ∀ j, hat h' j = if j = k then some c else hat h j := by
  obtain ⟨n, s, cs⟩ := h
  rw [hat_eq] at e
  dsimp only at e
  cases hc : cs[k / 16]? with
  | none => rw [hc] at e; cases e
  | some ch =>
    rw [hc] at e
    have h2 : k % 16 < ch.length := (List.getElem?_eq_some_iff.mp e).1
    have h3 : k / 16 < cs.length := (List.getElem?_eq_some_iff.mp hc).1
    refine ⟨(n, s, cs.set (k / 16) (ch.set (k % 16) c)), ?_, rfl, rfl, ?_, fun j => ?_⟩
    · unfold hset
      dsimp only
      rw [nth_eq, show cs[Nat.div k 16]? = some ch from hc]
      dsimp only
      rw [setc_eq, if_pos (show Nat.mod k 16 < ch.length from h2), setc_eq, if_pos (show Nat.div k 16 < cs.length from h3)]
      rfl
    · refine ⟨by simpa using hw.1, fun i d hd => ?_⟩
      dsimp only at hd ⊢
      rw [List.getElem?_set] at hd
      split at hd
      · rename_i hi
        subst hi
        cases hd
        rw [List.length_set]
        exact hw.2 _ _ hc
      · exact hw.2 _ _ hd
    · rw [hat_eq, hat_eq]
      dsimp only
      rw [List.getElem?_set]
      by_cases hj : k / 16 = j / 16
      · rw [if_pos hj, if_pos h3, ← hj, hc]
        show (ch.set (k % 16) c)[j % 16]? = if j = k then some c else ch[j % 16]?
        rw [List.getElem?_set]
        by_cases hm : k % 16 = j % 16
        · rw [if_pos hm, if_pos (by omega), if_pos (by omega)]
        · rw [if_neg hm, if_neg (by omega)]
      · rw [if_neg hj, if_neg (by omega)]
noncomputable def hpush {β : Type} (h : dH) (c : dC) (sz : Nat) (f : dH → β) (z : β) : β := match h with
  | (n, s, cs) => fo (Nat.add s sz) fun s' => match Nat.mod n 16 with
    | 0 => appc cs [c] (fun cs' => f (Nat.succ n, s', cs'))
    | _ => match nth cs (Nat.div n 16) with
      | none => z
      | some ch => appc ch c (fun ch' => setc cs (Nat.div n 16) ch' (fun cs' => f (Nat.succ n, s', cs')) z)
theorem hpush_spec {β : Type} {h : dH} {c : dC} {sz : Nat} (f : dH → β) (z : β) (hw : hwf h) : ∃ h' : dH, hpush h c sz f z = f h' ∧ h'.1 = h.1 + 1 ∧ h'.2.1 = h.2.1 + sz ∧ hwf h' ∧ ∀ j, hat h' j = if j = h.1 then some c else hat h j := by
  obtain ⟨n, s, cs⟩ := h
  obtain ⟨hw1, hw2⟩ := hw
  dsimp only at hw1 hw2
  have hex : hpush (n, s, cs) c sz f z = (match Nat.mod n 16 with
    | 0 => appc cs [c] (fun cs' => f (Nat.succ n, Nat.add s sz, cs'))
    | _ => match nth cs (Nat.div n 16) with
      | none => z
      | some ch => appc ch c (fun ch' => setc cs (Nat.div n 16) ch' (fun cs' => f (Nat.succ n, Nat.add s sz, cs')) z)) := by
    unfold hpush
    dsimp only
    rw [fo_eq]
  by_cases hn : n % 16 = 0
  · refine ⟨(n + 1, s + sz, cs ++ [[c]]), ?_, rfl, rfl, ⟨by simp; omega, fun i d hd => ?_⟩, fun j => ?_⟩
    · rw [hex, show Nat.mod n 16 = 0 from hn]
      show appc cs [c] _ = _
      rw [appc_eq]
      rfl
    · dsimp only at hd ⊢
      by_cases hi : i < cs.length
      · rw [List.getElem?_append_left hi] at hd
        rw [hw2 _ _ hd]; omega
      · rw [List.getElem?_append_right (by omega)] at hd
        have h0 : i - cs.length < 1 := (List.getElem?_eq_some_iff.mp hd).1
        rw [show i - cs.length = 0 by omega] at hd
        cases hd
        show 1 = _
        omega
    · rw [hat_eq, hat_eq]
      dsimp only
      by_cases hi : j / 16 < cs.length
      · rw [List.getElem?_append_left hi, if_neg (by omega)]
      · rw [List.getElem?_append_right (by omega)]
        rw [show cs[j / 16]? = none from List.getElem?_eq_none (by omega)]
        by_cases hj : j / 16 = cs.length
        · rw [show j / 16 - cs.length = 0 by omega]
          show [c][j % 16]? = _
          by_cases hjn : j = n
          · rw [if_pos hjn, show j % 16 = 0 by omega]; try rfl
          · rw [if_neg hjn]
            exact List.getElem?_eq_none (by simp; omega)
        · rw [show ([[c]] : List (List dC))[j / 16 - cs.length]? = none from List.getElem?_eq_none (by simp; omega), if_neg (by omega)]
  · have hlt : n / 16 < cs.length := by omega
    obtain ⟨ch, hc⟩ : ∃ ch, cs[n / 16]? = some ch := ⟨_, List.getElem?_eq_getElem hlt⟩
    have hl := hw2 _ _ hc
    refine ⟨(n + 1, s + sz, cs.set (n / 16) (ch ++ [c])), ?_, rfl, rfl, ⟨by simp; omega, fun i d hd => ?_⟩, fun j => ?_⟩
    · rw [hex]
      obtain ⟨r, hr⟩ : ∃ r, Nat.mod n 16 = r + 1 := ⟨n % 16 - 1, by show n % 16 = _; omega⟩
      rw [hr]
      show (match nth cs (Nat.div n 16) with | none => z | some ch => _) = _
      rw [nth_eq, show cs[Nat.div n 16]? = some ch from hc]
      dsimp only
      rw [appc_eq, setc_eq, if_pos (show Nat.div n 16 < cs.length from hlt)]
      rfl
    · dsimp only at hd ⊢
      rw [List.getElem?_set] at hd
      split at hd
      · rename_i hi
        subst hi
        cases hd
        rw [List.length_append, hl]
        simp
        omega
      · rw [hw2 _ _ hd]
        have h0 := (List.getElem?_eq_some_iff.mp hd).1
        omega
    · rw [hat_eq, hat_eq]
      dsimp only
      rw [List.getElem?_set]
      by_cases hj : n / 16 = j / 16
      · rw [if_pos hj, if_pos hlt, ← hj, hc]
        show (ch ++ [c])[j % 16]? = if j = n then some c else ch[j % 16]?
        by_cases hm : j % 16 < ch.length
        · rw [List.getElem?_append_left hm, if_neg (by omega)]
        · rw [List.getElem?_append_right (by omega), show ch[j % 16]? = none from List.getElem?_eq_none (by omega)]
          by_cases hjn : j = n
          · rw [if_pos hjn, show j % 16 - ch.length = 0 by omega]; rfl
          · rw [if_neg hjn]
            exact List.getElem?_eq_none (by simp; omega)
      · rw [if_neg hj, if_neg (by omega)]

/-! ===== what the memory holds ===== -/
def mcnt (p : Nat → Bool) : Nat → Nat
  | 0 => 0
  | n + 1 => mcnt p n + cond (p n) 1 0
theorem mcnt_same {p r : Nat → Bool} {n : Nat} (h : ∀ i, i < n → p i = r i) : mcnt p n = mcnt r n := by
  induction n with
  | zero => rfl
  | succ n ih =>
    show mcnt p n + cond (p n) 1 0 = mcnt r n + cond (r n) 1 0
    rw [ih fun i hi => h i (by omega), h n (by omega)]
theorem mcnt_set {p r : Nat → Bool} {t n : Nat} (ht : t < n) (h0 : p t = false) (h1 : r t = true) (h : ∀ i, i < n → i ≠ t → r i = p i) : mcnt r n = mcnt p n + 1 := by
  induction n with
  | zero => exact absurd ht (Nat.not_lt_zero _)
  | succ n ih =>
    show mcnt r n + cond (r n) 1 0 = mcnt p n + cond (p n) 1 0 + 1
    by_cases e : t = n
    · subst e
      rw [h0, h1, mcnt_same (p := r) (r := p) fun i hi => h i (by omega) (by omega)]; rfl
    · rw [ih (by omega) fun i hi he => h i (by omega) he, h n (by omega) (fun w => e w.symm)]
      omega
theorem mcnt_keys {p : Nat → Bool} {key : Nat → Nat} (n : Nat) : ∀ K : List Nat, (∀ i, i < n → p i = true → key i ∈ K) → (∀ i j, i < n → j < n → p i = true → p j = true → key i = key j → i = j) → mcnt p n ≤ K.length := by
  induction n with
  | zero => intro K _ _; exact Nat.zero_le _
  | succ n ih =>
    intro K h1 h2
    show mcnt p n + cond (p n) 1 0 ≤ K.length
    cases e : p n with
    | false =>
      have := ih K (fun i hi hp => h1 i (by omega) hp) (fun i j hi hj => h2 i j (by omega) (by omega))
      show mcnt p n + 0 ≤ _
      omega
    | true =>
      have hm := h1 n (by omega) e
      have h3 := ih (K.erase (key n)) (fun i hi hp => by
        have hne : key i ≠ key n := fun w => by have := h2 i n (by omega) (by omega) hp e w; omega
        exact (List.mem_erase_of_ne hne).mpr (h1 i (by omega) hp)) (fun i j hi hj => h2 i j (by omega) (by omega))
      rw [List.length_erase_of_mem hm] at h3
      have h4 : 0 < K.length := List.length_pos_of_mem hm
      show mcnt p n + 1 ≤ _
      omega
def mcu (ct i : Nat) : Bool := decide (wd 64 ct i / 2 ^ 46 = 3)
theorem mcu_t {ct i : Nat} : mcu ct i = true ↔ wd 64 ct i / 2 ^ 46 = 3 := decide_eq_true_iff
theorem mcu_f {ct i : Nat} : mcu ct i = false ↔ ¬ wd 64 ct i / 2 ^ 46 = 3 := decide_eq_false_iff_not
/-- an entry says what is right -/
def mRi (T : Nat → Nat → Prop) (e : Nat) : Prop := ∃ key a, key < 2 ^ 32 ∧ a < 2 ^ 14 ∧ e = (3 * 2 ^ 32 + key) * 2 ^ 14 + a ∧ T key a
/-- an entry is found where it is looked for -/
def mPr (ct i : Nat) : Prop := ∃ j, j < 256 ∧ i = (mhs (wd 64 ct i / 2 ^ 14) + j) % 2048 ∧ ∀ j2, j2 < j → wd 64 ct ((mhs (wd 64 ct i / 2 ^ 14) + j2) % 2048) / 2 ^ 46 = 3
def mRow (T : Nat → Nat → Prop) (ct : Nat) : Prop := ∀ i, i < 2048 → wd 64 ct i / 2 ^ 46 = 3 → mRi T (wd 64 ct i) ∧ mPr ct i ∧ ∀ i2, i2 < 2048 → wd 64 ct i2 / 2 ^ 46 = 3 → wd 64 ct i / 2 ^ 14 = wd 64 ct i2 / 2 ^ 14 → i = i2
/-- the memory: what it holds is right -/
def MI (T : Nat → Nat → Prop) (u : dH) : Prop := ∃ nm cm ct, mSt nm cm ct u ∧ wd 64 cm 1 = mcnt (mcu ct) 2048 ∧ mRow T ct
theorem mRow_0 (T : Nat → Nat → Prop) : mRow T 0 := fun i _ h => by rw [wd_0] at h; exact absurd h (by decide)
theorem mRow_upd {T : Nat → Nat → Prop} {ct key a t j : Nat} (hR : mRow T ct) (hk : key < 2 ^ 32) (ha : a < 2 ^ 14) (hT : T key a) (ht : t = (mhs (3 * 2 ^ 32 + key) + j) % 2048) (hj : j < 256) (hb : ∀ j2, j2 < j → wd 64 ct ((mhs (3 * 2 ^ 32 + key) + j2) % 2048) / 2 ^ 46 = 3)
    (hn : ∀ i, i < 2048 → i ≠ t → wd 64 ct i / 2 ^ 46 = 3 → wd 64 ct i / 2 ^ 14 ≠ 3 * 2 ^ 32 + key) : mRow T (wst 64 ct t ((3 * 2 ^ 32 + key) * 2 ^ 14 + a)) := by
  have hw : ∀ i, wd 64 (wst 64 ct t ((3 * 2 ^ 32 + key) * 2 ^ 14 + a)) i = if i = t then (3 * 2 ^ 32 + key) * 2 ^ 14 + a else wd 64 ct i := fun i => wd_wst i (by omega)
  have hE : ((3 * 2 ^ 32 + key) * 2 ^ 14 + a) / 2 ^ 46 = 3 := by omega
  have hQ : ((3 * 2 ^ 32 + key) * 2 ^ 14 + a) / 2 ^ 14 = 3 * 2 ^ 32 + key := by omega
  have hcur : ∀ i, wd 64 ct i / 2 ^ 46 = 3 → wd 64 (wst 64 ct t ((3 * 2 ^ 32 + key) * 2 ^ 14 + a)) i / 2 ^ 46 = 3 := by
    intro i hi
    rw [hw]
    split
    · exact hE
    · exact hi
  intro i hi hc
  rw [hw] at hc
  by_cases e : i = t
  · rw [hw i, if_pos e]
    refine ⟨⟨key, a, hk, ha, rfl, hT⟩, ⟨j, hj, ?_, ?_⟩, ?_⟩
    · rw [hw i, if_pos e, hQ, e]; exact ht
    · rw [hw i, if_pos e, hQ]
      exact fun j2 h2 => hcur _ (hb j2 h2)
    · intro i2 hi2 hc2 hq
      rw [hw] at hc2 hq
      by_cases e2 : i2 = t
      · rw [e, e2]
      · rw [if_neg e2] at hc2 hq
        rw [hQ] at hq
        exact absurd hq.symm (hn i2 hi2 e2 hc2)
  · rw [if_neg e] at hc
    obtain ⟨r1, ⟨j2, p1, p2, p3⟩, r3⟩ := hR i hi hc
    rw [hw i, if_neg e]
    refine ⟨r1, ⟨j2, p1, ?_, ?_⟩, ?_⟩
    · rw [hw i, if_neg e]; exact p2
    · rw [hw i, if_neg e]
      exact fun j3 h3 => hcur _ (p3 j3 h3)
    · intro i2 hi2 hc2 hq
      rw [hw] at hc2 hq
      by_cases e2 : i2 = t
      · rw [if_pos e2, hQ] at hq
        exact absurd hq (hn i hi e hc)
      · rw [if_neg e2] at hc2 hq
        exact r3 i2 hi2 hc2 hq
/-- find tells nothing or what is right -/
theorem MI_find {T : Nat → Nat → Prop} {u : dH} (hM : MI T u) {key f d : Nat} (hk : key < 2 ^ 32) : ∃ v, drun dProg (f + 1029) (Nat.succ (Nat.succ d)) 140 0 [(0, .inr (.inr 107)), (1, .inr (.inl key))] [] u = some (some (.inl v), u) ∧ (v = 4294967294 ∨ ∃ a, T key a ∧ a < 2 ^ 14 ∧ v = dSub a 1) := by
  obtain ⟨nm, cm, ct, hm, -, hR⟩ := hM
  obtain ⟨v, h1, h2⟩ := mfind (f := f) (d := d) hm hk
  refine ⟨v, h1, ?_⟩
  rcases h2 with h2 | ⟨t, ht, hq, hv⟩
  · exact Or.inl h2
  · have hc : wd 64 ct t / 2 ^ 46 = 3 := by omega
    obtain ⟨key2, a, h3, h4, h5, h6⟩ := (hR t ht hc).1
    have hkk : key2 = key := by omega
    subst hkk
    refine Or.inr ⟨a, h6, h4, ?_⟩
    rw [hv]
    congr 1
    show ((wd 64 ct t % 18446744073709551616) &&& (16383 % 18446744073709551616)) % 4294967296 = a
    rw [show (16383 % 18446744073709551616 : Nat) = 2 ^ 14 - 1 from rfl, Nat.and_two_pow_sub_one_eq_mod]
    omega
theorem mUp_MI {T : Nat → Nat → Prop} {nm cm cm2 ct ct2 : Nat} {u u2 : dH} (hm : mSt nm cm ct u) (h : mUp nm cm2 ct2 u u2) (h0 : wd 64 cm2 0 = wd 64 cm 0) (h2 : wd 64 cm2 2 = wd 64 cm 2) (hc : wd 64 cm2 1 = mcnt (mcu ct2) 2048) (hR : mRow T ct2) : MI T u2 ∧ hwf u2 ∧ u2.1 = u.1 ∧ u2.2.1 = u.2.1 ∧ ∀ k, k ≠ 106 → k ≠ 107 → hat u2 k = hat u k := by
  obtain ⟨m1, m2, m3, m4⟩ := hm
  obtain ⟨e1, e2, w, ea⟩ := h
  exact ⟨⟨nm, cm2, ct2, ⟨by rw [ea 106, if_neg (by decide), if_pos rfl], by rw [ea 107, if_pos rfl], h0.trans m3, h2.trans m4⟩, hc, hR⟩, w, e1, e2, fun k k1 k2 => by rw [ea k, if_neg k2, if_neg k1]⟩
/-- keep keeps what is right -/
theorem MI_keep {T : Nat → Nat → Prop} {K : List Nat} (hK : ∀ key a, T key a → (3 * 2 ^ 32 + key) ∈ K) (hKl : K.length ≤ 1000) {u : dH} (hw : hwf u) (hM : MI T u) {key v a f d : Nat} (hk : key < 2 ^ 32) (hv : dAdd v 1 = a) (ha : a < 2 ^ 14) (hT : T key a) :
    ∃ u2, drun dProg (f + 1291) (Nat.succ (Nat.succ (Nat.succ d))) 141 0 [(0, .inr (.inr 107)), (1, .inr (.inl key)), (3, .inl v)] [] u = some (none, u2) ∧ MI T u2 ∧ hwf u2 ∧ u2.1 = u.1 ∧ u2.2.1 = u.2.1 ∧ ∀ k, k ≠ 106 → k ≠ 107 → hat u2 k = hat u k := by
  obtain ⟨nm, cm, ct, hm, hn, hR⟩ := hM
  have hle : mcnt (mcu ct) 2048 ≤ K.length := by
    refine mcnt_keys (key := fun i => wd 64 ct i / 2 ^ 14) 2048 K (fun i hi hp => ?_) (fun i i2 hi hi2 hp hp2 hq => (hR i hi (mcu_t.mp hp)).2.2 i2 hi2 (mcu_t.mp hp2) hq)
    obtain ⟨key2, a2, h3, h4, h5, h6⟩ := (hR i hi (mcu_t.mp hp)).1
    have : wd 64 ct i / 2 ^ 14 = 3 * 2 ^ 32 + key2 := by omega
    show wd 64 ct i / 2 ^ 14 ∈ K
    rw [this]
    exact hK key2 a2 h6
  obtain ⟨u2, h1, h2⟩ := mkeep (f := f) (d := d) hw hm hk hv ha (by omega)
  refine ⟨u2, h1, ?_⟩
  have hE : ((3 * 2 ^ 32 + key) * 2 ^ 14 + a) / 2 ^ 46 = 3 := by omega
  have hQ : ((3 * 2 ^ 32 + key) * 2 ^ 14 + a) / 2 ^ 14 = 3 * 2 ^ 32 + key := by omega
  have hmh := mhs_lt (3 * 2 ^ 32 + key)
  have hww : ∀ t i, wd 64 (wst 64 ct t ((3 * 2 ^ 32 + key) * 2 ^ 14 + a)) i = if i = t then (3 * 2 ^ 32 + key) * 2 ^ 14 + a else wd 64 ct i := fun t i => wd_wst i (by omega)
  have hsame : ∀ t, wd 64 ct t / 2 ^ 46 = 3 → mcnt (mcu (wst 64 ct t ((3 * 2 ^ 32 + key) * 2 ^ 14 + a))) 2048 = mcnt (mcu ct) 2048 := by
    intro t h3
    refine mcnt_same fun i hi => ?_
    unfold mcu
    rw [hww t i]
    by_cases e : i = t
    · rw [if_pos e, hE, e, h3]
    · rw [if_neg e]
  unfold mso at h2
  rw [hQ] at h2
  have hpr : ∀ i, i < 2048 → wd 64 ct i / 2 ^ 46 = 3 → wd 64 ct i / 2 ^ 14 = 3 * 2 ^ 32 + key → ∃ j, j < 256 ∧ i = (mhs (3 * 2 ^ 32 + key) + j) % 2048 ∧ ∀ j2, j2 < j → wd 64 ct ((mhs (3 * 2 ^ 32 + key) + j2) % 2048) / 2 ^ 46 = 3 := by
    intro i hi h3 h4
    obtain ⟨j, p1, p2, p3⟩ := (hR i hi h3).2.1
    rw [h4] at p2 p3
    exact ⟨j, p1, p2, p3⟩
  rcases h2 with ⟨j, hj, hb, h2⟩ | ⟨hb, h2⟩
  · have htl : (mhs (3 * 2 ^ 32 + key) + j) % 2048 < 2048 := Nat.mod_lt _ (by decide)
    rcases h2 with ⟨h3, h4⟩ | ⟨h3, h5, h4⟩
    · refine mUp_MI hm h4 (by rw [wd_wst 0 (by omega), if_neg (by decide)]) (by rw [wd_wst 2 (by omega), if_neg (by decide)]) ?_ ?_
      · rw [wd_wst 1 (by omega), if_pos rfl, hn]
        refine (mcnt_set htl (mcu_f.mpr h3) (mcu_t.mpr (by rw [hww, if_pos rfl]; exact hE)) fun i hi he => ?_).symm
        unfold mcu
        rw [hww, if_neg he]
      · refine mRow_upd hR hk ha hT rfl hj (fun j2 h => (hb j2 h).1) fun i hi he hc hq => ?_
        obtain ⟨j2, p1, p2, p3⟩ := hpr i hi hc hq
        rcases (show j2 < j ∨ j2 = j ∨ j < j2 by omega) with g | g | g
        · have := (hb j2 g).2
          rw [← p2] at this
          exact this hq
        · subst g; exact he p2
        · exact h3 (p3 j g)
    · refine mUp_MI hm h4 rfl rfl (by rw [hsame _ h3]; exact hn) ?_
      refine mRow_upd hR hk ha hT rfl hj (fun j2 h => (hb j2 h).1) fun i hi he hc hq => ?_
      exact he ((hR i hi hc).2.2 _ htl h3 (hq.trans h5.symm))
  · have e0 : mhs (3 * 2 ^ 32 + key) = (mhs (3 * 2 ^ 32 + key) + 0) % 2048 := by omega
    have h3 := (hb 0 (by decide)).1
    rw [← e0] at h3
    refine mUp_MI hm h2 rfl rfl (by rw [hsame _ h3]; exact hn) ?_
    refine mRow_upd (j := 0) hR hk ha hT e0 (by decide) (fun j2 h => absurd h (Nat.not_lt_zero _)) fun i hi he hc hq => ?_
    obtain ⟨j2, p1, p2, p3⟩ := hpr i hi hc hq
    have := (hb j2 p1).2
    rw [← p2] at this
    exact this hq

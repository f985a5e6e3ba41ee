/-! ===== what the memory may know ===== -/
def bV (b : Bool) : sN := cond b (1, []) (0, [])
def lowB (k v : Nat) : Bool := (Nat.beq k 0 && Nat.ble v 5) || (Nat.beq k 1 && Nat.ble v 4)
def fewB (k v : Nat) : Bool := Nat.beq k 2 && Nat.beq (v % 2) 0
def yesB (k v : Nat) : Bool := Nat.beq k 3 && Nat.beq (v % 2) 1
def inB (k v : Nat) : Bool := Nat.beq k 4 && Nat.ble v 5
def someB (k v : Nat) : Bool := lowB k v || (fewB k v || (yesB k v || inB k v))
def onlyB (k v : Nat) : Bool := !Nat.beq k 4 || Nat.ble v 5
def b2n (b : Bool) : Nat := cond b 1 0
def ansJ (r k v : Nat) : Nat := match r with
  | 0 => b2n (lowB k v)
  | 1 => b2n (fewB k v)
  | 2 => b2n (yesB k v)
  | 3 => b2n (inB k v)
  | 4 => b2n (someB k v)
  | _ => b2n (inB k v)
/-- of a cell -/
def tS (k v : Nat) : List (sN × sN) := [((169869312, [1]), bV (lowB k v)), ((175112192, [1]), bV (fewB k v)), ((181403648, [1]), bV (yesB k v)), ((184549376, [1]), bV (inB k v)), ((190840832, [1]), bV (someB k v))] ++ cond (Nat.beq k 4) [((1258291200, [1]), bV (Nat.ble v 5)), ((1270874112, [1]), bV (Nat.ble v 5)), ((1293942784, [1]), (0, [])), ((169869313, [1]), bV (Nat.ble v 5)), ((175112193, [1]), (0, [])), ((181403649, [1]), (0, [])), ((184549377, [1]), (0, [])), ((190840833, [1]), bV (Nat.ble v 5)), ((217055233, [1]), (0, [])), ((2333081601, [1]), cond (Nat.ble v 5) (2, [1]) (4294967295, [])), ((2345664513, [1]), cond (Nat.ble v 5) (2, [1]) (1, [1])), ((2368733185, [1]), (4294967295, []))] []
/-- before which item a number, or anything with a text behind it, ends -/
def nx (cs : List (Nat × Nat)) (k : Nat) : Nat := match cs[k]? with
  | none => 4294967295
  | some s => cond (Nat.blt s.1 2) (atc cs (k + 1)) (match cs[k + 1]? with
    | some s2 => cond (Nat.beq s2.1 2) (atc cs (k + 2)) 4294967295
    | none => 4294967295)
/-- where a row of cells ends of which each is so -/
def stB (f : Nat → Nat → Bool) : Nat → List (Nat × Nat) → Nat
  | p, [] => p
  | p, c :: t => cond (f c.1 c.2) (stB f (p + cCn c.1) t) p
def allB (f : Nat → Nat → Bool) : List (Nat × Nat) → Bool
  | [] => true
  | c :: t => cond (f c.1 c.2) (allB f t) false
/-- where a row ends that is gone through by a number, or anything with a text behind it; whether it is all -/
def st6 : Nat → List (Nat × Nat) → Nat
  | p, [] => p
  | p, [c] => cond (Nat.blt c.1 2) (p + cCn c.1) p
  | p, c :: d :: t => cond (Nat.blt c.1 2) (st6 (p + cCn c.1) (d :: t)) (cond (Nat.beq d.1 2) (st6 (p + cCn c.1 + cCn d.1) t) p)
def two : List (Nat × Nat) → Bool
  | [] => true
  | [c] => Nat.blt c.1 2
  | c :: d :: t => cond (Nat.blt c.1 2) (two (d :: t)) (cond (Nat.beq d.1 2) (two t) false)
/-- of the whole array -/
def tW (cs : List (Nat × Nat)) : List (Nat × Nat) := [(1270874112, 1 + b2n (allB someB cs)), (2345664513, 1 + stB someB 1 cs), (2345672703, 1), (1290797056, 1 + b2n (allB onlyB cs)), (2365587457, 1 + stB onlyB 1 cs), (2365595647, 1), (1277165568, 1 + b2n (two cs)), (2351955969, 1 + st6 1 cs), (2351964159, 1), (2354061311, 0)]
/-- the answers; of a pair's group those before the item b -/
def T14 (cs : List (Nat × Nat)) (b key a : Nat) : Prop := (∃ k s e, cs[k]? = some s ∧ e ∈ tS s.1 s.2 ∧ key = sden (rj (atc cs k) 0 0 0) e.1 ∧ a = dAdd (sden (rj (atc cs k) 0 0 0) e.2) 1) ∨ (∃ k, k < cs.length ∧ atc cs k < b ∧ key = 2354053120 + atc cs k ∧ a = dAdd (nx cs k) 1) ∨ ((key, a) ∈ tW cs ∧ (key = 2354061311 → b = 8192))
def cLs : List Nat := [169869312, 175112192, 181403648, 184549376, 190840832, 217055232, 1258291200, 1270874112, 1277165568, 1290797056, 1293942784, 2333081600, 2345664512, 2351955968, 2354053120, 2365587456, 2368733184]
/-- the cells of a script -/
def csOK (cs : List (Nat × Nat)) : Prop := (∀ c ∈ cs, c.1 < 5 ∧ c.2 < 16) ∧ cs.length ≤ 20
def tSk (k : Nat) (e : sN × sN) : Bool := (e.1.2 == [1]) && (Nat.ble e.1.1 3000000000 && (((Nat.beq (e.1.1 % 8192) 0 && (!Nat.beq e.1.1 2345664512 && (!Nat.beq e.1.1 2365587456 && (!Nat.beq e.1.1 2351955968 && cLs.contains e.1.1)))) || (Nat.beq (e.1.1 % 8192) 1 && (Nat.beq k 4 && cLs.contains (e.1.1 - 1)))) && (!Nat.beq (e.1.1 / 8192) 287360 && ((e.2.2 == [] && (Nat.ble e.2.1 1 || Nat.beq e.2.1 4294967295)) || (e.2.2 == [1] && Nat.ble e.2.1 2)))))
theorem tS_all : (cells.all fun s => (tS s.1 s.2).all fun e => tSk s.1 e && (tS s.1 s.2).all fun q => !Nat.beq q.1.1 e.1.1 || (Nat.beq q.2.1 e.2.1 && q.2.2 == e.2.2)) = true := by decide +kernel
theorem tS_f {k v : Nat} (hk : k < 5) (hv : v < 16) {e : sN × sN} (he : e ∈ tS k v) : tSk k e = true ∧ ∀ q ∈ tS k v, q.1.1 = e.1.1 → q.2 = e.2 := by
  have h1 := List.all_eq_true.mp tS_all _ (cells_mem hk hv)
  have h2 := List.all_eq_true.mp h1 e he
  simp only [Bool.and_eq_true] at h2
  refine ⟨h2.1, fun q hq w => ?_⟩
  have h3 := List.all_eq_true.mp h2.2 q hq
  rw [w, Nat.beq_refl, Bool.not_true, Bool.false_or] at h3
  simp only [Bool.and_eq_true] at h3
  obtain ⟨q1, q2, q3⟩ := q
  obtain ⟨e1, e2, e3⟩ := e
  have g1 := Nat.eq_of_beq_eq_true h3.1
  have g2 := eq_of_beq h3.2
  dsimp only at g1 g2
  rw [g1, g2]
/-- a cell's key: its node and item -/
theorem tS_key {k v : Nat} (hk : k < 5) (hv : v < 16) {e : sN × sN} (he : e ∈ tS k v) (p : Nat) : sden (rj p 0 0 0) e.1 = e.1.1 + p ∧ e.1.1 ≤ 3000000000 ∧ (e.1.1 % 8192 = 0 ∧ e.1.1 ≠ 2345664512 ∧ e.1.1 ≠ 2365587456 ∧ e.1.1 ≠ 2351955968 ∧ e.1.1 ∈ cLs ∨ e.1.1 % 8192 = 1 ∧ k = 4 ∧ e.1.1 - 1 ∈ cLs) ∧ e.1.1 / 8192 ≠ 287360 := by
  obtain ⟨h, -⟩ := tS_f hk hv he
  obtain ⟨⟨e1, e2⟩, e3, e4⟩ := e
  unfold tSk at h
  simp only [Bool.and_eq_true, Bool.or_eq_true, beq_iff_eq, Bool.not_eq_true', Nat.beq_eq_true_eq, Nat.ble_eq, Nat.beq_eq, List.contains_iff_mem] at h
  obtain ⟨h1, h2, h3, h4, -⟩ := h
  have hb : ∀ {a b : Nat}, Nat.beq a b = false → a ≠ b := fun {a b} h w => by rw [w, Nat.beq_refl] at h; cases h
  refine ⟨?_, h2, ?_, hb h4⟩
  · rw [h1]
    show e1 + (p + 0) = e1 + p
    omega
  · rcases h3 with ⟨g1, g2, g3, g4, g5⟩ | ⟨g1, g2, g3⟩
    · exact Or.inl ⟨g1, hb g2, hb g3, hb g4, g5⟩
    · exact Or.inr ⟨g1, g2, g3⟩
theorem tS_val {k v : Nat} (hk : k < 5) (hv : v < 16) {e : sN × sN} (he : e ∈ tS k v) (ρ : Nat → Nat) {p : Nat} (hp : ρ 1 = p) : sden ρ e.1 = sden (rj p 0 0 0) e.1 ∧ sden ρ e.2 = sden (rj p 0 0 0) e.2 ∧ (sden ρ e.2 ≤ 2 + p ∨ sden ρ e.2 = 4294967295) := by
  obtain ⟨h, -⟩ := tS_f hk hv he
  obtain ⟨⟨e1, e2⟩, e3, e4⟩ := e
  unfold tSk at h
  simp only [Bool.and_eq_true, Bool.or_eq_true, beq_iff_eq, Nat.ble_eq, Nat.beq_eq] at h
  obtain ⟨h1, -, -, -, h5⟩ := h
  subst h1
  refine ⟨?_, ?_⟩
  · show e1 + (ρ 1 + 0) = e1 + (p + 0)
    rw [hp]
  · rcases h5 with ⟨rfl, g⟩ | ⟨rfl, g⟩
    · refine ⟨rfl, ?_⟩
      show e3 + 0 ≤ 2 + p ∨ e3 + 0 = 4294967295
      omega
    · refine ⟨?_, Or.inl ?_⟩
      · show e3 + (ρ 1 + 0) = e3 + (p + 0)
        rw [hp]
      · show e3 + (ρ 1 + 0) ≤ 2 + p
        omega
theorem csOK_at {cs : List (Nat × Nat)} (h : csOK cs) {k : Nat} {s : Nat × Nat} (hs : cs[k]? = some s) : s.1 < 5 ∧ s.2 < 16 ∧ k < cs.length ∧ atc cs k + cCn s.1 ≤ 1 + nOf cs := by
  have h1 := h.1 s (List.mem_of_getElem? hs)
  have h2 := (List.getElem?_eq_some_iff.mp hs).1
  have h3 := (atc_le cs (k + 1)).2
  rw [atc_succ hs] at h3
  exact ⟨h1.1, h1.2, h2, h3⟩
theorem nOf_le (cs : List (Nat × Nat)) : nOf cs ≤ 2 * cs.length := by
  induction cs with
  | nil => exact Nat.zero_le _
  | cons c t ih =>
    have := (cCn_pos c.1).2
    show cCn c.1 + nOf t ≤ 2 * (t.length + 1)
    omega
theorem atc_inj {cs : List (Nat × Nat)} {i j : Nat} {s : Nat × Nat} (hi : cs[i]? = some s) (h : i < j) : atc cs i + cCn s.1 ≤ atc cs j := by
  rw [← atc_succ hi]
  exact atc_mono cs h
theorem cCn_off {k m : Nat} (h : m = 0 ∨ m = 1 ∧ k = 4) : m < cCn k := by
  have := cCn_pos k
  rcases h with h | ⟨h, rfl⟩
  · omega
  · subst h; decide
theorem tW_key {cs : List (Nat × Nat)} {key a : Nat} (h : (key, a) ∈ tW cs) : key = 1270874112 ∨ key = 2345664513 ∨ key = 2345672703 ∨ key = 1290797056 ∨ key = 2365587457 ∨ key = 2365595647 ∨ key = 1277165568 ∨ key = 2351955969 ∨ key = 2351964159 ∨ key = 2354061311 := by
  simp only [tW, List.mem_cons, List.not_mem_nil, or_false, Prod.mk.injEq] at h
  omega
theorem tW_nd : [1270874112, 2345664513, 2345672703, 1290797056, 2365587457, 2365595647, 1277165568, 2351955969, 2351964159, 2354061311].Nodup := by decide
theorem tW_fun {cs : List (Nat × Nat)} {key a b : Nat} (h : (key, a) ∈ tW cs) (h2 : (key, b) ∈ tW cs) : a = b := by
  simp only [tW, List.mem_cons, List.not_mem_nil, or_false, Prod.mk.injEq] at h h2
  omega
/-- one key, one answer -/
theorem T14_fun {cs : List (Nat × Nat)} {b : Nat} (hc : csOK cs) : ∀ key x y, T14 cs b key x → T14 cs b key y → x = y := by
  have hn := nOf_le cs
  have hl := hc.2
  have c1 : ∀ {key x y}, (∃ k s e, cs[k]? = some s ∧ e ∈ tS s.1 s.2 ∧ key = sden (rj (atc cs k) 0 0 0) e.1 ∧ x = dAdd (sden (rj (atc cs k) 0 0 0) e.2) 1) → (∃ k s e, cs[k]? = some s ∧ e ∈ tS s.1 s.2 ∧ key = sden (rj (atc cs k) 0 0 0) e.1 ∧ y = dAdd (sden (rj (atc cs k) 0 0 0) e.2) 1) → x = y := by
    rintro key x y ⟨k, s, e, h1, h2, h3, rfl⟩ ⟨k2, s2, e2, g1, g2, g3, rfl⟩
    obtain ⟨a1, a2, a3, a4⟩ := csOK_at hc h1
    obtain ⟨b1, b2, b3, b4⟩ := csOK_at hc g1
    obtain ⟨t1, -, t2, -⟩ := tS_key a1 a2 h2 (atc cs k)
    obtain ⟨u1, -, u2, -⟩ := tS_key b1 b2 g2 (atc cs k2)
    have o1 : e.1.1 % 8192 < cCn s.1 := cCn_off (by omega)
    have o2 : e2.1.1 % 8192 < cCn s2.1 := cCn_off (by omega)
    rw [t1] at h3
    rw [u1] at g3
    rcases Nat.lt_trichotomy k k2 with h | h | h
    · have := atc_inj h1 h
      omega
    · subst h
      rw [h1] at g1
      cases g1
      have := (tS_f a1 a2 h2).2 e2 g2 (by omega)
      rw [this]
    · have := atc_inj g1 h
      omega
  have c2 : ∀ {key x}, (∃ k s e, cs[k]? = some s ∧ e ∈ tS s.1 s.2 ∧ key = sden (rj (atc cs k) 0 0 0) e.1 ∧ x = dAdd (sden (rj (atc cs k) 0 0 0) e.2) 1) → (∃ k, k < cs.length ∧ key = 2354053120 + atc cs k) → False := by
    rintro key x ⟨k, s, e, h1, h2, h3, rfl⟩ ⟨k2, g1, g2⟩
    obtain ⟨a1, a2, a3, a4⟩ := csOK_at hc h1
    obtain ⟨t1, -, t2, t3⟩ := tS_key a1 a2 h2 (atc cs k)
    have := (atc_le cs k2)
    rw [t1] at h3
    omega
  have c3 : ∀ {key x}, (∃ k s e, cs[k]? = some s ∧ e ∈ tS s.1 s.2 ∧ key = sden (rj (atc cs k) 0 0 0) e.1 ∧ x = dAdd (sden (rj (atc cs k) 0 0 0) e.2) 1) → ∀ y, (key, y) ∈ tW cs → False := by
    rintro key x ⟨k, s, e, h1, h2, h3, rfl⟩ y hy
    obtain ⟨a1, a2, a3, a4⟩ := csOK_at hc h1
    obtain ⟨t1, -, t2, t3⟩ := tS_key a1 a2 h2 (atc cs k)
    have := (atc_le cs k)
    have := tW_key hy
    rw [t1] at h3
    omega
  have c4 : ∀ {key}, (∃ k, k < cs.length ∧ key = 2354053120 + atc cs k) → ∀ y, (key, y) ∈ tW cs → False := by
    rintro key ⟨k, h1, h2⟩ y hy
    have := (atc_le cs k)
    have := tW_key hy
    omega
  intro key x y hx hy
  rcases hx with hx | ⟨k, h1, h2, h3, h4⟩ | hx
  · rcases hy with hy | ⟨k, h1, h2, h3, h4⟩ | hy
    · exact c1 hx hy
    · exact (c2 hx ⟨k, h1, h3⟩).elim
    · exact (c3 hx _ hy.1).elim
  · rcases hy with hy | ⟨k2, g1, g2, g3, g4⟩ | hy
    · exact (c2 hy ⟨k, h1, h3⟩).elim
    · have hk : k = k2 := by
        obtain ⟨s, hs⟩ : ∃ s, cs[k]? = some s := ⟨_, List.getElem?_eq_getElem h1⟩
        obtain ⟨s2, hs2⟩ : ∃ s, cs[k2]? = some s := ⟨_, List.getElem?_eq_getElem g1⟩
        have p1 := cCn_pos s.1
        have p2 := cCn_pos s2.1
        rcases Nat.lt_trichotomy k k2 with h | h | h
        · have := atc_inj hs h
          omega
        · exact h
        · have := atc_inj hs2 h
          omega
      rw [h4, g4, hk]
    · exact (c4 ⟨k, h1, h3⟩ _ hy.1).elim
  · rcases hy with hy | ⟨k2, g1, g2, g3, g4⟩ | hy
    · exact (c3 hy _ hx.1).elim
    · exact (c4 ⟨k2, g1, g3⟩ _ hx.1).elim
    · exact tW_fun hx.1 hy.1
/-- all keys -/
def K14 : List Nat := (cLs.flatMap fun c => (List.range 42).map fun i => 3 * 2 ^ 32 + (c + i)) ++ [2345672703, 2365595647, 2351964159, 2354061311].map fun c => 3 * 2 ^ 32 + c
theorem K14_len : K14.length ≤ 1000 := by decide +kernel
theorem K14_mem {c i : Nat} (hc : c ∈ cLs) (hi : i < 42) : 3 * 2 ^ 32 + (c + i) ∈ K14 := List.mem_append_left _ (List.mem_flatMap.mpr ⟨c, hc, List.mem_map.mpr ⟨i, List.mem_range.mpr hi, rfl⟩⟩)
theorem K14_all {cs : List (Nat × Nat)} {b : Nat} (hc : csOK cs) : ∀ key a, T14 cs b key a → (3 * 2 ^ 32 + key) ∈ K14 := by
  have hn := nOf_le cs
  have hl := hc.2
  rintro key x (⟨k, s, e, h1, h2, h3, rfl⟩ | ⟨k, h1, h2, rfl, h4⟩ | ⟨h, -⟩)
  · obtain ⟨a1, a2, a3, a4⟩ := csOK_at hc h1
    obtain ⟨t1, -, t2, t3⟩ := tS_key a1 a2 h2 (atc cs k)
    have o1 : e.1.1 % 8192 < cCn s.1 := cCn_off (by omega)
    rw [h3, t1]
    rcases t2 with ⟨g1, -, -, -, g2⟩ | ⟨g1, -, g2⟩
    · exact K14_mem g2 (by omega)
    · rw [show e.1.1 + atc cs k = (e.1.1 - 1) + (atc cs k + 1) by omega]
      exact K14_mem g2 (by omega)
  · obtain ⟨s, hs⟩ : ∃ s, cs[k]? = some s := ⟨_, List.getElem?_eq_getElem h1⟩
    obtain ⟨a1, a2, a3, a4⟩ := csOK_at hc hs
    have := cCn_pos s.1
    exact K14_mem (by decide) (by omega)
  · have h9 : ∀ key ∈ [1270874112, 2345664513, 2345672703, 1290797056, 2365587457, 2365595647, 1277165568, 2351955969, 2351964159, 2354061311], 3 * 2 ^ 32 + key ∈ K14 := by decide +kernel
    refine h9 key ?_
    have := tW_key h
    simp only [List.mem_cons, List.not_mem_nil, or_false]
    omega
theorem T14_mono {cs : List (Nat × Nat)} {b b2 : Nat} (h : b ≤ b2) (h2 : b2 ≤ 8192) {key a : Nat} (hT : T14 cs b key a) : T14 cs b2 key a := by
  rcases hT with h1 | ⟨k, h1, h3, h4⟩ | ⟨h1, h3⟩
  · exact Or.inl h1
  · exact Or.inr (Or.inl ⟨k, h1, by omega, h4⟩)
  · exact Or.inr (Or.inr ⟨h1, fun w => by have := h3 w; omega⟩)
theorem MI_mono {T T2 : Nat → Nat → Prop} (h : ∀ key a, T key a → T2 key a) {u : dH} (hM : MI T u) : MI T2 u := by
  obtain ⟨nm, cm, ct, h1, h2, h3⟩ := hM
  refine ⟨nm, cm, ct, h1, h2, fun i hi h9 => ?_⟩
  obtain ⟨⟨key, a, g1, g2, g3, g4⟩, g5, g6⟩ := h3 i hi h9
  exact ⟨⟨key, a, g1, g2, g3, h _ _ g4⟩, g5, g6⟩
/-- the key of a group before an item that was not yet looked at -/
theorem T14_no {cs : List (Nat × Nat)} {b k : Nat} (hc : csOK cs) (hk : k < cs.length) (hb : b ≤ atc cs k) : ∀ a, ¬ T14 cs b (2354053120 + atc cs k) a := by
  have hn := nOf_le cs
  have hl := hc.2
  have h0 := atc_le cs k
  rintro x (⟨k2, s, e, h1, h2, h3, rfl⟩ | ⟨k2, h1, h2, h3, h4⟩ | ⟨h, -⟩)
  · obtain ⟨a1, a2, a3, a4⟩ := csOK_at hc h1
    obtain ⟨t1, -, t2, t3⟩ := tS_key a1 a2 h2 (atc cs k2)
    have := (atc_le cs k2)
    rw [t1] at h3
    omega
  · omega
  · have := tW_key h
    omega
theorem zsa {v : Nat} (h : v < 4294967296) : dSub (dAdd v 1) 1 = v := by
  show ((v + 1) % 4294967296 + (4294967296 - 1 % 4294967296)) % 4294967296 = v
  omega
theorem zad {v : Nat} (h : v < 1000 ∨ v = 4294967295) : dAdd v 1 < 2 ^ 14 := by
  show (v + 1) % 4294967296 < _
  omega
def tIn (tab : List (sN × sN)) (k v : Nat) : Bool := tab.all fun e => (tS k v).any fun q => Nat.beq q.1.1 e.1.1 && (q.1.2 == e.1.2 && (Nat.beq q.2.1 e.2.1 && q.2.2 == e.2.2))
theorem tIn_mem {tab : List (sN × sN)} {k v : Nat} (h : tIn tab k v = true) {e : sN × sN} (he : e ∈ tab) : e ∈ tS k v := by
  have h1 := List.all_eq_true.mp h e he
  obtain ⟨q, hq, h2⟩ := List.any_eq_true.mp h1
  simp only [Bool.and_eq_true] at h2
  obtain ⟨⟨q1, q2⟩, q3, q4⟩ := q
  obtain ⟨⟨e1, e2⟩, e3, e4⟩ := e
  have g1 := Nat.eq_of_beq_eq_true h2.1
  have g2 := eq_of_beq h2.2.1
  have g3 := Nat.eq_of_beq_eq_true h2.2.2.1
  have g4 := eq_of_beq h2.2.2.2
  dsimp only at g1 g2 g3 g4
  subst g1 g2 g3 g4
  exact hq
/-- a cell's table holds right answers -/
theorem tOK_cell {cs : List (Nat × Nat)} {b k : Nat} {s : Nat × Nat} (hc : csOK cs) (hs : cs[k]? = some s) {ρ : Nat → Nat} (hρ : ρ 1 = atc cs k) {tab : List (sN × sN)} (h : tIn tab s.1 s.2 = true) : tOK ρ (T14 cs b) tab := by
  have hn := nOf_le cs
  have hl := hc.2
  intro e he
  have h1 := tIn_mem h he
  obtain ⟨a1, a2, a3, a4⟩ := csOK_at hc hs
  obtain ⟨t1, t4, t2, t3⟩ := tS_key a1 a2 h1 (atc cs k)
  obtain ⟨v1, v2, v3⟩ := tS_val a1 a2 h1 ρ hρ
  have h9 := atc_le cs k
  refine ⟨by rw [v1, t1]; omega, dAdd (sden ρ e.2) 1, Or.inl ⟨k, s, e, hs, h1, v1, by rw [v2]⟩, zad (by omega), (zsa (by omega)).symm⟩
theorem tOK_whole {cs : List (Nat × Nat)} {b : Nat} {ρ : Nat → Nat} {tab : List (sN × sN)} (h : ∀ e ∈ tab, sden ρ e.1 < 2 ^ 32 ∧ sden ρ e.2 < 1000 ∧ (sden ρ e.1, 1 + sden ρ e.2) ∈ tW cs ∧ sden ρ e.1 ≠ 2354061311) : tOK ρ (T14 cs b) tab := by
  intro e he
  obtain ⟨h1, h2, h3, h4⟩ := h e he
  refine ⟨h1, 1 + sden ρ e.2, Or.inr (Or.inr ⟨h3, fun w => absurd w h4⟩), by omega, ?_⟩
  show _ = (1 + sden ρ e.2 + (4294967296 - 1 % 4294967296)) % 4294967296
  omega
theorem tOK_app {ρ : Nat → Nat} {T : Nat → Nat → Prop} {a b : List (sN × sN)} (h : tOK ρ T a) (h2 : tOK ρ T b) : tOK ρ T (a ++ b) := fun e he => (List.mem_append.mp he).elim (h e) (h2 e)

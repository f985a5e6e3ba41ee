/-! ===== what is known of the object while it judges ===== -/
def tj : List (Nat × Nat × Nat × Option Nat) := [(108, 7, 17, none), (114, 0, 22528, none), (52, 14, 14, some kz52), (66, 5, 13, none), (43, 12, 20, some kz43), (53, 0, 786, some kz53), (65, 0, 786, some kz65), (55, 0, 786, some kz55), (109, 8, 10, some kz109), (0, 16, 12, none), (95, 0, 6257, none), (82, 0, 142, some kz82), (54, 0, 786, some kz54), (93, 6, 20, none), (57, 0, 786, some kz57), (58, 0, 786, some kz58), (51, 1, 511, some kz51), (81, 0, 142, some kz81), (79, 0, 142, some kz79), (75, 0, 142, some kz75), (44, 13, 17, some kz44), (56, 0, 786, some kz56), (50, 1, 511, some kz50), (105, 1, 6257, none), (100, 0, 6257, none), (49, 0, 511, some kz49), (96, 0, 6257, none), (45, 2, 7200, some kz45), (46, 0, 511, some kz46), (47, 0, 511, some kz47), (48, 0, 511, some kz48), (59, 0, 786, some kz59), (67, 0, 6500, some kz67), (68, 0, 65, some kz68), (69, 0, 520, some kz69), (70, 0, 520, some kz70), (71, 0, 8, some kz71), (72, 0, 8, some kz72), (73, 0, 142, some kz73), (74, 0, 142, some kz74), (76, 0, 142, some kz76), (77, 0, 142, some kz77), (78, 0, 142, some kz78), (80, 0, 142, some kz80), (83, 0, 142, some kz83), (110, 1, 698, some kz110), (111, 0, 698, some kz111), (112, 1, 2048, some kz112), (113, 1, 2048, some kz113)]
def tjE : Option Nat → sX → Bool
  | some d, .inl c => Nat.beq c d
  | none, .inr _ => true
  | _, _ => false
def chkT : sH → List (Nat × Nat × Nat × Option Nat) → Bool
  | [], [] => true
  | e :: t, q :: r => Nat.beq e.1 q.1 && (Nat.beq e.2.1 q.2.1 && (Nat.beq e.2.2.1 q.2.2.1 && (tjE q.2.2.2 e.2.2.2 && chkT t r)))
  | _, _ => false
theorem chkT_keys {S : sH} {l : List (Nat × Nat × Nat × Option Nat)} (h : chkT S l = true) : S.map (·.1) = l.map (·.1) := by
  induction S generalizing l with
  | nil => cases l with
    | nil => rfl
    | cons q r => cases h
  | cons e t ih => cases l with
    | nil => cases h
    | cons q r =>
      simp only [chkT, Bool.and_eq_true] at h
      rw [List.map_cons, List.map_cons, Nat.eq_of_beq_eq_true h.1, ih h.2.2.2.2]
theorem chkT_mem {S : sH} {l : List (Nat × Nat × Nat × Option Nat)} (h : chkT S l = true) {a kd n : Nat} {X : sX} (he : (a, kd, n, X) ∈ S) : ∃ o, (a, kd, n, o) ∈ l ∧ tjE o X = true := by
  induction S generalizing l with
  | nil => cases he
  | cons e t ih => cases l with
    | nil => cases h
    | cons q r =>
      simp only [chkT, Bool.and_eq_true] at h
      obtain ⟨h1, h2, h3, h4, h5⟩ := h
      rcases List.mem_cons.mp he with he | he
      · obtain ⟨qa, qk, qn, qo⟩ := q
        subst he
        have e1 := Nat.eq_of_beq_eq_true h1
        have e2 := Nat.eq_of_beq_eq_true h2
        have e3 := Nat.eq_of_beq_eq_true h3
        dsimp only at e1 e2 e3
        subst e1 e2 e3
        exact ⟨qo, List.mem_cons_self, h4⟩
      · obtain ⟨o, g1, g2⟩ := ih h5 he
        exact ⟨o, List.mem_cons_of_mem _ g1, g2⟩
theorem chkT_mem2 {S : sH} {l : List (Nat × Nat × Nat × Option Nat)} (h : chkT S l = true) {a kd n : Nat} {o : Option Nat} (he : (a, kd, n, o) ∈ l) : ∃ X, (a, kd, n, X) ∈ S ∧ tjE o X = true := by
  induction S generalizing l with
  | nil => cases l with
    | nil => cases he
    | cons q r => cases h
  | cons e t ih => cases l with
    | nil => cases he
    | cons q r =>
      simp only [chkT, Bool.and_eq_true] at h
      obtain ⟨h1, h2, h3, h4, h5⟩ := h
      rcases List.mem_cons.mp he with he | he
      · obtain ⟨ea, ek, en, eX⟩ := e
        subst he
        have e1 := Nat.eq_of_beq_eq_true h1
        have e2 := Nat.eq_of_beq_eq_true h2
        have e3 := Nat.eq_of_beq_eq_true h3
        dsimp only at e1 e2 e3
        subst e1 e2 e3
        exact ⟨eX, List.mem_cons_self, h4⟩
      · obtain ⟨X, g1, g2⟩ := ih h5 he
        exact ⟨X, List.mem_cons_of_mem _ g1, g2⟩
def TJ (u : dH) : Prop := hwf u ∧ ∀ a kd n o, (a, kd, n, o) ∈ tj → ∃ ct, hat u a = some (kd, n, ct) ∧ ∀ c, o = some c → ct = c
def ovs : sH → List (Nat × List (sN × sN))
  | [] => []
  | e :: t => match e.2.2.2 with
    | .inl _ => ovs t
    | .inr O => (e.1, O) :: ovs t
theorem ovs_mem {S : sH} {a kd n : Nat} {O : List (sN × sN)} (h : (a, kd, n, .inr O) ∈ S) : (a, O) ∈ ovs S := by
  induction S with
  | nil => cases h
  | cons e t ih =>
    obtain ⟨ea, ek, en, eX⟩ := e
    rcases List.mem_cons.mp h with h2 | h2
    · cases h2
      exact List.mem_cons_self
    · have h3 := ih h2
      clear h
      cases eX with
      | inl c => exact h3
      | inr O2 => exact List.mem_cons_of_mem _ h3
theorem ovs_mem2 {S : sH} {a : Nat} {O : List (sN × sN)} (h : (a, O) ∈ ovs S) : ∃ kd n, (a, kd, n, .inr O) ∈ S := by
  induction S with
  | nil => cases h
  | cons e t ih =>
    obtain ⟨ea, ek, en, eX⟩ := e
    cases eX with
    | inl c =>
      obtain ⟨kd, n, g⟩ := ih h
      exact ⟨kd, n, List.mem_cons_of_mem _ g⟩
    | inr O2 =>
      rcases List.mem_cons.mp (show (a, O) ∈ (ea, O2) :: ovs t from h) with h | h
      · cases h
        exact ⟨ek, en, List.mem_cons_self⟩
      · obtain ⟨kd, n, g⟩ := ih h
        exact ⟨kd, n, List.mem_cons_of_mem _ g⟩
/-- words of a row -/
def ovP (u : dH) (a : Nat) (l : List (Nat × Nat)) : Prop := (l.map (·.1)).Nodup ∧ ∀ e ∈ l, aw u a e.1 = e.2
def den (ρ : Nat → Nat) (O : List (sN × sN)) : List (Nat × Nat) := O.map fun e => (sden ρ e.1, sden ρ e.2)
def ovF (ρ : Nat → Nat) (u : dH) (l : List (Nat × List (sN × sN))) : Prop := ∀ a O, (a, O) ∈ l → ovP u a (den ρ O)
theorem den_keys (ρ : Nat → Nat) (O : List (sN × sN)) : (den ρ O).map (·.1) = O.map fun e => sden ρ e.1 := by
  unfold den
  rw [List.map_map]
  rfl
theorem den_mem {ρ : Nat → Nat} {O : List (sN × sN)} {e : sN × sN} (h : e ∈ O) : (sden ρ e.1, sden ρ e.2) ∈ den ρ O := List.mem_map.mpr ⟨e, h, rfl⟩
theorem sct_ov {ρ : Nat → Nat} {u : dH} {a kd n ct : Nat} {O : List (sN × sN)} (h : ovP u a (den ρ O)) (ha : hat u a = some (kd, n, ct)) : sct ρ (kw kd) ct (.inr O) ct := by
  obtain ⟨h1, h2⟩ := h
  rw [den_keys] at h1
  refine ⟨h1, fun e he => ?_, fun _ _ => rfl⟩
  have h3 : aw u a (sden ρ e.1) = sden ρ e.2 := h2 (sden ρ e.1, sden ρ e.2) (den_mem he)
  have h4 := aw_of ha (sden ρ e.1)
  exact h4.symm.trans h3
theorem ov_sct {ρ : Nat → Nat} {u : dH} {a kd n ct ct0 : Nat} {O : List (sN × sN)} (h : sct ρ (kw kd) ct0 (.inr O) ct) (ha : hat u a = some (kd, n, ct)) : ovP u a (den ρ O) := by
  obtain ⟨h1, h2, -⟩ := h
  refine ⟨by rw [den_keys]; exact h1, fun e he => ?_⟩
  obtain ⟨q, hq, rfl⟩ := List.mem_map.mp he
  have h4 := aw_of ha (sden ρ q.1)
  have h5 := h2 q hq
  exact h4.trans h5
theorem tj_op : ∀ q ∈ tj, opM q.1 = false := by decide
theorem tj_nd : (tj.map (·.1)).Nodup := by decide
theorem sfit_TJ {ρ : Nat → Nat} {S : sH} {u : dH} (hc : chkT S tj = true) (hu : TJ u) (ho : ovF ρ u (ovs S)) : sfit ρ opM S u := by
  refine sfit_mk hu.1 (by rw [chkT_keys hc]; exact tj_nd) (fun e he => ?_) fun a kd n X hm => ?_
  · obtain ⟨ea, ek, en, eX⟩ := e
    obtain ⟨o, g1, -⟩ := chkT_mem hc he
    exact tj_op _ g1
  · obtain ⟨o, g1, g2⟩ := chkT_mem hc hm
    obtain ⟨ct, h1, h2⟩ := hu.2 _ _ _ _ g1
    refine ⟨ct, h1, ?_⟩
    cases X with
    | inl c => cases o with
      | none => cases g2
      | some d => exact (h2 d rfl).trans (Nat.eq_of_beq_eq_true (show Nat.beq c d = true from g2)).symm
    | inr O => exact sct_ov (ho a O (ovs_mem hm)) h1
theorem TJ_sfit {ρ : Nat → Nat} {S : sH} {u : dH} (hc : chkT S tj = true) (h : sfit ρ opM S u) : TJ u ∧ ovF ρ u (ovs S) := by
  refine ⟨⟨h.1, fun a kd n o ho => ?_⟩, fun a O ho => ?_⟩
  · obtain ⟨X, g1, g2⟩ := chkT_mem2 hc ho
    obtain ⟨ct, h1, h2⟩ := sfit_cell h g1
    refine ⟨ct, h1, fun c hc => ?_⟩
    subst hc
    cases X with
    | inl d => exact (show ct = d from h2).trans (Nat.eq_of_beq_eq_true (show Nat.beq d c = true from g2))
    | inr O => cases g2
  · obtain ⟨kd, n, g⟩ := ovs_mem2 ho
    obtain ⟨ct, h1, h2⟩ := sfit_cell h g
    exact ov_sct h2 h1
def kpx (a : Nat) : Bool := opM a || (Nat.beq a 108 || (Nat.beq a 114 || Nat.beq a 66))
/-- what a judgement leaves as it was -/
def KP (u u2 : dH) : Prop := u2.1 = u.1 ∧ u2.2.1 = u.2.1 ∧ (∀ a, kpx a = false → ∀ j, aw u2 a j = aw u a j) ∧ ∀ a, opM a = false → (∀ q ∈ tj, q.1 ≠ a) → hat u2 a = hat u a
theorem KP_rfl (u : dH) : KP u u := ⟨rfl, rfl, fun _ _ _ => rfl, fun _ _ _ => rfl⟩
theorem KP_tr {u u2 u3 : dH} (h : KP u u2) (h2 : KP u2 u3) : KP u u3 := ⟨h2.1.trans h.1, h2.2.1.trans h.2.1, fun a ha j => (h2.2.2.1 a ha j).trans (h.2.2.1 a ha j), fun a ha hn => (h2.2.2.2 a ha hn).trans (h.2.2.2 a ha hn)⟩
theorem kpx_f {a : Nat} (h : kpx a = false) : opM a = false ∧ a ≠ 108 ∧ a ≠ 114 ∧ a ≠ 66 := by
  unfold kpx at h
  simp only [Bool.or_eq_false_iff] at h
  refine ⟨h.1, fun w => ?_, fun w => ?_, fun w => ?_⟩ <;> (subst w; exact absurd h (by decide))
theorem aw_same {u u2 : dH} {a : Nat} (h : hat u2 a = hat u a) (j : Nat) : aw u2 a j = aw u a j := by
  unfold aw
  rw [h]
theorem KP_of {ρ : Nat → Nat} {S2 S9 : sH} {u u2 : dH} (hu : TJ u) (hc : chkT S2 tj = true) (ho : ∀ a O, (a, O) ∈ ovs S2 → kpx a = false → ovP u a (den ρ O)) (h9 : ssat ρ opM u S9 u2) (hk : swk S9 S2 = true) (hq : sqA S9 S2 = true) : KP u u2 := by
  have hkey : S9.map (·.1) = tj.map (·.1) := (swk_keys hk).trans (chkT_keys hc)
  have hno : ∀ a, opM a = false → (∀ q ∈ tj, q.1 ≠ a) → hat u2 a = hat u a := by
    intro a ha hn
    refine h9.2.2.2.2.2.1 a ha fun e he w => ?_
    have : e.1 ∈ S9.map (·.1) := List.mem_map.mpr ⟨e, he, rfl⟩
    rw [hkey] at this
    obtain ⟨q, hq, g⟩ := List.mem_map.mp this
    exact hn q hq (g.trans w)
  refine ⟨h9.2.1, h9.2.2.1, fun a ha j => ?_, hno⟩
  obtain ⟨k1, k2, k3, k4⟩ := kpx_f ha
  by_cases hin : ∃ q ∈ tj, q.1 = a
  · obtain ⟨⟨qa, kd, n, o⟩, hq2, rfl⟩ := hin
    obtain ⟨X, g1, g2⟩ := chkT_mem2 hc hq2
    have g3 := sqA_mem hk hq g1 k2 k3 k4
    obtain ⟨ct0, ct, y1, y2, y3⟩ := h9.2.2.2.2.2.2 _ _ _ _ g3
    rw [aw_of y1, aw_of y2]
    obtain ⟨ct9, z1, z2⟩ := hu.2 _ _ _ _ hq2
    rw [y1] at z1
    cases z1
    cases X with
    | inl c => cases o with
      | none => cases g2
      | some d =>
        have e1 : ct = c := y3
        rw [e1, z2 d rfl, Nat.eq_of_beq_eq_true (show Nat.beq c d = true from g2)]
    | inr O =>
      by_cases hj : ∃ e ∈ O, sden ρ e.1 = j
      · obtain ⟨e, he, rfl⟩ := hj
        have h3 : aw u qa (sden ρ e.1) = sden ρ e.2 := (ho _ O (ovs_mem g1) ha).2 (sden ρ e.1, sden ρ e.2) (den_mem he)
        have h4 := aw_of y1 (sden ρ e.1)
        have h5 := y3.2.1 e he
        exact h5.trans (h3.symm.trans h4)
      · exact y3.2.2 j fun e he w => hj ⟨e, he, w⟩
  · exact aw_same (hno a k1 fun q hq w => hin ⟨q, hq, w⟩) j
-- what stands in the object's own cells
def o0 : List (sN × sN) := [((0, []), (2, [])), ((3, []), (44, [])), ((4, []), (3, [])), ((5, []), (85, [])), ((6, []), (87, [])), ((7, []), (88, [])), ((8, []), (94, [])), ((9, []), (107, [])), ((10, []), (109, [])), ((11, []), (119, []))]
def o66 : List (sN × sN) := [((0, []), (53, [])), ((1, []), (68, [])), ((2, []), (69, [])), ((3, []), (70, [])), ((4, []), (71, [])), ((5, []), (72, [])), ((6, []), (73, []))]
def o108 (t : List (sN × sN)) : List (sN × sN) := ((0, []), (44, [])) :: ((1, []), (53, [])) :: ((2, []), (67, [])) :: ((3, []), (94, [])) :: ((4, []), (107, [])) :: ((5, []), (110, [])) :: ((6, []), (115, [])) :: (t ++ [((13, []), (116, [])), ((15, []), (117, [])), ((16, []), (118, []))])
def o93 (top : sN) : List (sN × sN) := [((0, []), (95, [])), ((1, []), (96, [])), ((2, []), (97, [])), ((3, []), (98, [])), ((4, []), (99, [])), ((5, []), (100, [])), ((6, []), (101, [])), ((7, []), (102, [])), ((8, []), (103, [])), ((9, []), (104, [])), ((10, []), (105, [])), ((11, []), (106, [])), ((12, []), top)]
/-- a heap's open cells -/
def oj (r fr a95 : List (sN × sN)) (top : sN) (a105 a100 a96 : List (sN × sN)) : List (Nat × List (sN × sN)) := [(108, r), (114, fr), (66, o66), (0, o0), (95, a95), (93, o93 top), (105, a105), (100, a100), (96, a96)]
def c95 (k : Nat) : List (sN × sN) := match k with
  | 4 => [((0, [1]), (4, [])), ((1, [1]), (0, []))]
  | _ => [((0, [1]), (cMa k, []))]
def c96 (k : Nat) : List (sN × sN) := match k with
  | 4 => [((0, [1]), (0, [])), ((1, [1]), (0, []))]
  | _ => [((0, [1]), (0, []))]
def c105 (k v : Nat) : List (sN × sN) := match k with
  | 4 => [((0, [1]), (1, [])), ((1, [1]), (v, []))]
  | _ => [((0, [1]), (cNu k v, []))]
def c100 (k : Nat) : List (sN × sN) := match k with
  | 4 => [((0, [1]), (2, [1])), ((1, [1]), (2, [1]))]
  | _ => [((0, [1]), (1, [1]))]
def rj (p rest t st v : Nat) : Nat := match v with
  | 1 => p
  | 2 => rest
  | 3 => t
  | 4 => st
  | _ => 0
/-- the object while it judges -/
def JJ (u : dH) : Prop := TJ u ∧ ovP u 66 (den r0 o66) ∧ ovP u 0 (den r0 o0) ∧ (∀ e ∈ den r0 (o93 (0, [])), e.1 ≠ 12 → aw u 93 e.1 = e.2) ∧ ovP u 108 (den r0 (o108 [])) ∧ kdG kdJ u ∧ ∃ ct, hat u 99 = some (0, 457, ct)
/-- the ITEM's rows -/
def RS (cs : List (Nat × Nat)) (u : dH) : Prop := PF 0 u 1 cs ∧ aw u 95 0 = 4 ∧ aw u 100 0 = 1 + nOf cs ∧ aw u 93 12 = 1 + nOf cs ∧ aw u 105 0 = cs.length
/-- where the cell k stands -/
def atc (cs : List (Nat × Nat)) (k : Nat) : Nat := 1 + nOf (cs.take k)
theorem nOf_app (a b : List (Nat × Nat)) : nOf (a ++ b) = nOf a + nOf b := by
  induction a with
  | nil => show nOf b = 0 + nOf b; omega
  | cons c t ih => show cCn c.1 + nOf (t ++ b) = cCn c.1 + nOf t + nOf b; omega
theorem atc_succ {cs : List (Nat × Nat)} {k : Nat} {s : Nat × Nat} (h : cs[k]? = some s) : atc cs (k + 1) = atc cs k + cCn s.1 := by
  unfold atc
  rw [List.take_add_one, h, nOf_app]
  show 1 + (nOf (cs.take k) + (cCn s.1 + 0)) = _
  omega
theorem atc_0 (cs : List (Nat × Nat)) : atc cs 0 = 1 := rfl
theorem atc_len (cs : List (Nat × Nat)) {k : Nat} (h : cs.length ≤ k) : atc cs k = 1 + nOf cs := by
  unfold atc
  rw [List.take_of_length_le h]
theorem nOf_split (cs : List (Nat × Nat)) (k : Nat) : nOf cs = nOf (cs.take k) + nOf (cs.drop k) := by
  rw [← nOf_app, List.take_append_drop]
theorem atc_le (cs : List (Nat × Nat)) (k : Nat) : 1 ≤ atc cs k ∧ atc cs k ≤ 1 + nOf cs := by
  have := nOf_split cs k
  unfold atc
  omega
theorem atc_mono (cs : List (Nat × Nat)) {i j : Nat} (h : i ≤ j) : atc cs i ≤ atc cs j := by
  induction j with
  | zero => rw [show i = 0 by omega]; exact Nat.le_refl _
  | succ j ih =>
    rcases Nat.lt_or_ge i (j + 1) with h2 | h2
    · have h3 := ih (by omega)
      cases hc : cs[j]? with
      | none =>
        have hl := List.getElem?_eq_none_iff.mp hc
        rw [atc_len cs (show cs.length ≤ j + 1 by omega)]
        exact (atc_le cs i).2
      | some s => rw [atc_succ hc]; omega
    · rw [show i = j + 1 by omega]; exact Nat.le_refl _
theorem PF_get {u : dH} {cs : List (Nat × Nat)} : ∀ (pos k : Nat) (s : Nat × Nat), PF 0 u pos cs → cs[k]? = some s → CF 0 u (pos + nOf (cs.take k)) s.1 s.2 := by
  induction cs with
  | nil => intro pos k s _ h; cases h
  | cons c t ih =>
    intro pos k s hp h
    obtain ⟨h1, h2⟩ := hp
    cases k with
    | zero =>
      cases h
      exact h1
    | succ k =>
      have := ih (pos + cCn c.1) k s h2 h
      rw [show pos + nOf ((c :: t).take (k + 1)) = pos + cCn c.1 + nOf (t.take k) by
        show pos + (cCn c.1 + nOf (t.take k)) = _
        omega]
      exact this
theorem ovP_1 {u : dH} {a i v : Nat} (h : aw u a i = v) : ovP u a [(i, v)] := ⟨by simp, fun e he => by rw [List.mem_singleton.mp he]; exact h⟩
theorem ovP_2 {u : dH} {a i v i2 v2 : Nat} (h : aw u a i = v) (h2 : aw u a i2 = v2) (hn : i ≠ i2) : ovP u a [(i, v), (i2, v2)] := by
  refine ⟨by simp [hn], fun e he => ?_⟩
  simp only [List.mem_cons, List.not_mem_nil, or_false] at he
  rcases he with rfl | rfl
  · exact h
  · exact h2
theorem ovP_cons {u : dH} {a i v : Nat} {l : List (Nat × Nat)} (h : aw u a i = v) (hl : ovP u a l) (hn : ∀ e ∈ l, e.1 ≠ i) : ovP u a ((i, v) :: l) := by
  refine ⟨?_, fun e he => ?_⟩
  · rw [List.map_cons, List.nodup_cons]
    refine ⟨fun w => ?_, hl.1⟩
    obtain ⟨e, he, w2⟩ := List.mem_map.mp w
    exact hn e he w2
  · rcases List.mem_cons.mp he with rfl | he
    · exact h
    · exact hl.2 e he
theorem ov_c95 {u : dH} {p k v rest t st : Nat} (hk : k < 5) (h : CF 0 u p k v) : ovP u 95 (den (rj p rest t st) (c95 k)) := by
  match k, hk with
  | 0, _ =>
    have h1 := h 95 (by decide) ((0, [2]), (0, [])) List.mem_cons_self
    simp only [sden, ssum, rc, Nat.zero_add, Nat.add_zero] at h1
    simp only [den, c95, cMa, List.map, sden, ssum, rj, Nat.zero_add, Nat.add_zero]
    exact ovP_1 h1
  | 1, _ =>
    have h1 := h 95 (by decide) ((0, [2]), (1, [])) List.mem_cons_self
    simp only [sden, ssum, rc, Nat.zero_add, Nat.add_zero] at h1
    simp only [den, c95, cMa, List.map, sden, ssum, rj, Nat.zero_add, Nat.add_zero]
    exact ovP_1 h1
  | 2, _ =>
    have h1 := h 95 (by decide) ((0, [2]), (3, [])) List.mem_cons_self
    simp only [sden, ssum, rc, Nat.zero_add, Nat.add_zero] at h1
    simp only [den, c95, cMa, List.map, sden, ssum, rj, Nat.zero_add, Nat.add_zero]
    exact ovP_1 h1
  | 3, _ =>
    have h1 := h 95 (by decide) ((0, [2]), (7, [])) List.mem_cons_self
    simp only [sden, ssum, rc, Nat.zero_add, Nat.add_zero] at h1
    simp only [den, c95, cMa, List.map, sden, ssum, rj, Nat.zero_add, Nat.add_zero]
    exact ovP_1 h1
  | 4, _ =>
    have h1 := h 95 (by decide) ((0, [2]), (4, [])) List.mem_cons_self
    have h2 := h 95 (by decide) ((1, [2]), (0, [])) (List.mem_cons_of_mem _ List.mem_cons_self)
    simp only [sden, ssum, rc, Nat.zero_add, Nat.add_zero] at h1 h2
    simp only [den, c95, List.map, sden, ssum, rj, Nat.zero_add, Nat.add_zero]
    exact ovP_2 h1 h2 (by omega)
theorem ov_c96 {u : dH} {p k v rest t st : Nat} (hk : k < 5) (h : CF 0 u p k v) : ovP u 96 (den (rj p rest t st) (c96 k)) := by
  match k, hk with
  | 0, _ =>
    have h1 := h 96 (by decide) ((0, [2]), (0, [])) List.mem_cons_self
    simp only [sden, ssum, rc, Nat.zero_add, Nat.add_zero] at h1
    simp only [den, c96, List.map, sden, ssum, rj, Nat.zero_add, Nat.add_zero]
    exact ovP_1 h1
  | 1, _ =>
    have h1 := h 96 (by decide) ((0, [2]), (0, [])) List.mem_cons_self
    simp only [sden, ssum, rc, Nat.zero_add, Nat.add_zero] at h1
    simp only [den, c96, List.map, sden, ssum, rj, Nat.zero_add, Nat.add_zero]
    exact ovP_1 h1
  | 2, _ =>
    have h1 := h 96 (by decide) ((0, [2]), (0, [])) List.mem_cons_self
    simp only [sden, ssum, rc, Nat.zero_add, Nat.add_zero] at h1
    simp only [den, c96, List.map, sden, ssum, rj, Nat.zero_add, Nat.add_zero]
    exact ovP_1 h1
  | 3, _ =>
    have h1 := h 96 (by decide) ((0, [2]), (0, [])) List.mem_cons_self
    simp only [sden, ssum, rc, Nat.zero_add, Nat.add_zero] at h1
    simp only [den, c96, List.map, sden, ssum, rj, Nat.zero_add, Nat.add_zero]
    exact ovP_1 h1
  | 4, _ =>
    have h1 := h 96 (by decide) ((0, [2]), (0, [])) List.mem_cons_self
    have h2 := h 96 (by decide) ((1, [2]), (0, [])) (List.mem_cons_of_mem _ List.mem_cons_self)
    simp only [sden, ssum, rc, Nat.zero_add, Nat.add_zero] at h1 h2
    simp only [den, c96, List.map, sden, ssum, rj, Nat.zero_add, Nat.add_zero]
    exact ovP_2 h1 h2 (by omega)
theorem ov_c105 {u : dH} {p k v rest t st : Nat} (hk : k < 5) (h : CF 0 u p k v) : ovP u 105 (den (rj p rest t st) (c105 k v)) := by
  match k, hk with
  | 0, _ =>
    have h1 := h 105 (by decide) ((0, [2]), (v, [])) List.mem_cons_self
    simp only [sden, ssum, rc, Nat.zero_add, Nat.add_zero] at h1
    simp only [den, c105, cNu, List.map, sden, ssum, rj, Nat.zero_add, Nat.add_zero]
    exact ovP_1 h1
  | 1, _ =>
    have h1 := h 105 (by decide) ((0, [2]), (v, [])) List.mem_cons_self
    simp only [sden, ssum, rc, Nat.zero_add, Nat.add_zero] at h1
    simp only [den, c105, cNu, List.map, sden, ssum, rj, Nat.zero_add, Nat.add_zero]
    exact ovP_1 h1
  | 2, _ =>
    have h1 := h 105 (by decide) ((0, [2]), (v % 4, [])) List.mem_cons_self
    simp only [sden, ssum, rc, Nat.zero_add, Nat.add_zero] at h1
    simp only [den, c105, cNu, List.map, sden, ssum, rj, Nat.zero_add, Nat.add_zero]
    exact ovP_1 h1
  | 3, _ =>
    have h1 := h 105 (by decide) ((0, [2]), (20 + v % 2, [])) List.mem_cons_self
    simp only [sden, ssum, rc, Nat.zero_add, Nat.add_zero] at h1
    simp only [den, c105, cNu, List.map, sden, ssum, rj, Nat.zero_add, Nat.add_zero]
    exact ovP_1 h1
  | 4, _ =>
    have h1 := h 105 (by decide) ((0, [2]), (1, [])) List.mem_cons_self
    have h2 := h 105 (by decide) ((1, [2]), (v, [])) (List.mem_cons_of_mem _ List.mem_cons_self)
    simp only [sden, ssum, rc, Nat.zero_add, Nat.add_zero] at h1 h2
    simp only [den, c105, List.map, sden, ssum, rj, Nat.zero_add, Nat.add_zero]
    exact ovP_2 h1 h2 (by omega)
theorem ov_c100 {u : dH} {p k v rest t st : Nat} (hk : k < 5) (h : CF 0 u p k v) : ovP u 100 (den (rj p rest t st) (c100 k)) := by
  match k, hk with
  | 0, _ =>
    have h1 := h 100 (by decide) ((0, [2]), (1, [2])) List.mem_cons_self
    simp only [sden, ssum, rc, Nat.zero_add, Nat.add_zero] at h1
    simp only [den, c100, List.map, sden, ssum, rj, Nat.zero_add, Nat.add_zero]
    exact ovP_1 h1
  | 1, _ =>
    have h1 := h 100 (by decide) ((0, [2]), (1, [2])) List.mem_cons_self
    simp only [sden, ssum, rc, Nat.zero_add, Nat.add_zero] at h1
    simp only [den, c100, List.map, sden, ssum, rj, Nat.zero_add, Nat.add_zero]
    exact ovP_1 h1
  | 2, _ =>
    have h1 := h 100 (by decide) ((0, [2]), (1, [2])) List.mem_cons_self
    simp only [sden, ssum, rc, Nat.zero_add, Nat.add_zero] at h1
    simp only [den, c100, List.map, sden, ssum, rj, Nat.zero_add, Nat.add_zero]
    exact ovP_1 h1
  | 3, _ =>
    have h1 := h 100 (by decide) ((0, [2]), (1, [2])) List.mem_cons_self
    simp only [sden, ssum, rc, Nat.zero_add, Nat.add_zero] at h1
    simp only [den, c100, List.map, sden, ssum, rj, Nat.zero_add, Nat.add_zero]
    exact ovP_1 h1
  | 4, _ =>
    have h1 := h 100 (by decide) ((0, [2]), (2, [2])) (List.mem_cons_of_mem _ List.mem_cons_self)
    have h2 := h 100 (by decide) ((1, [2]), (2, [2])) List.mem_cons_self
    simp only [sden, ssum, rc, Nat.zero_add, Nat.add_zero] at h1 h2
    simp only [den, c100, List.map, sden, ssum, rj, Nat.zero_add, Nat.add_zero]
    exact ovP_2 h1 h2 (by omega)
theorem ov_93 {u : dH} {ρ : Nat → Nat} {top : sN} (hJ : JJ u) (ht : aw u 93 12 = sden ρ top) : ovP u 93 (den ρ (o93 top)) := by
  obtain ⟨-, -, -, h, -⟩ := hJ
  refine ⟨by rw [den_keys]; show List.Nodup [0, 1, 2, 3, 4, 5, 6, 7, 8, 9, 10, 11, 12]; decide, fun e he => ?_⟩
  obtain ⟨q, hq, rfl⟩ := List.mem_map.mp he
  simp only [o93, List.mem_cons, List.not_mem_nil, or_false] at hq
  rcases hq with rfl | rfl | rfl | rfl | rfl | rfl | rfl | rfl | rfl | rfl | rfl | rfl | rfl
  · exact h (0, 95) (by decide) (by decide)
  · exact h (1, 96) (by decide) (by decide)
  · exact h (2, 97) (by decide) (by decide)
  · exact h (3, 98) (by decide) (by decide)
  · exact h (4, 99) (by decide) (by decide)
  · exact h (5, 100) (by decide) (by decide)
  · exact h (6, 101) (by decide) (by decide)
  · exact h (7, 102) (by decide) (by decide)
  · exact h (8, 103) (by decide) (by decide)
  · exact h (9, 104) (by decide) (by decide)
  · exact h (10, 105) (by decide) (by decide)
  · exact h (11, 106) (by decide) (by decide)
  · exact ht
/-- the open cells of a heap, one by one -/
theorem ov_oj {u : dH} {ρ : Nat → Nat} {r fr a95 a105 a100 a96 : List (sN × sN)} {top : sN} (hJ : JJ u) (h1 : ovP u 108 (den ρ r)) (h2 : ovP u 114 (den ρ fr)) (h3 : ovP u 95 (den ρ a95)) (h4 : aw u 93 12 = sden ρ top) (h5 : ovP u 105 (den ρ a105)) (h6 : ovP u 100 (den ρ a100)) (h7 : ovP u 96 (den ρ a96)) : ovF ρ u (oj r fr a95 top a105 a100 a96) := by
  intro a O h
  simp only [oj, List.mem_cons, List.not_mem_nil, or_false, Prod.mk.injEq] at h
  rcases h with ⟨rfl, rfl⟩ | ⟨rfl, rfl⟩ | ⟨rfl, rfl⟩ | ⟨rfl, rfl⟩ | ⟨rfl, rfl⟩ | ⟨rfl, rfl⟩ | ⟨rfl, rfl⟩ | ⟨rfl, rfl⟩ | ⟨rfl, rfl⟩
  · exact h1
  · exact h2
  · exact hJ.2.1
  · exact hJ.2.2.1
  · exact h3
  · exact ov_93 hJ h4
  · exact h5
  · exact h6
  · exact h7
theorem oj_get {u : dH} {ρ : Nat → Nat} {r fr a95 a105 a100 a96 : List (sN × sN)} {top : sN} (h : ovF ρ u (oj r fr a95 top a105 a100 a96)) : ovP u 108 (den ρ r) ∧ ovP u 114 (den ρ fr) ∧ ovP u 66 (den ρ o66) := ⟨h 108 _ (by simp [oj]), h 114 _ (by simp [oj]), h 66 _ (by simp [oj])⟩
theorem PF_keep {u u2 : dH} (h : ∀ a ∈ aRows, ∀ j, aw u2 a j = aw u a j) : ∀ (cs : List (Nat × Nat)) (pos : Nat), PF 0 u pos cs → PF 0 u2 pos cs := by
  intro cs
  induction cs with
  | nil => exact fun _ _ => trivial
  | cons c t ih => exact fun pos hp => ⟨fun a ha e he => (h a ha _).trans (hp.1 a ha e he), ih _ hp.2⟩
theorem RS_keep {cs : List (Nat × Nat)} {u u2 : dH} (h : KP u u2) (hR : RS cs u) : RS cs u2 := by
  have e := h.2.2.1
  refine ⟨PF_keep (fun a ha j => e a ?_ j) cs 1 hR.1, (e 95 rfl 0).trans hR.2.1, (e 100 rfl 0).trans hR.2.2.1, (e 93 rfl 12).trans hR.2.2.2.1, (e 105 rfl 0).trans hR.2.2.2.2⟩
  simp only [aRows, List.mem_cons, List.not_mem_nil, or_false] at ha
  rcases ha with rfl | rfl | rfl | rfl | rfl <;> rfl
theorem kdJ_tj : ∀ e ∈ kdJ, (∃ q ∈ tj, q.1 = e.1 ∧ q.2.1 = e.2) ∨ ∀ q ∈ tj, q.1 ≠ e.1 := by decide
theorem kdJ_op : ∀ e ∈ kdJ, opM e.1 = false := by decide
/-- what is known stays known -/
theorem JJ_keep {u u2 : dH} (hJ : JJ u) (h : KP u u2) (hT : TJ u2) (h66 : ovP u2 66 (den r0 o66)) (h108 : ovP u2 108 (den r0 (o108 []))) : JJ u2 := by
  obtain ⟨-, -, j0, j93, -, jk, ct, j99⟩ := hJ
  refine ⟨hT, h66, ⟨j0.1, fun e he => (h.2.2.1 0 rfl _).trans (j0.2 e he)⟩, fun e he hn => (h.2.2.1 93 rfl _).trans (j93 e he hn), h108, fun e he => ?_, ct, (h.2.2.2 99 rfl (by decide)).trans j99⟩
  rcases kdJ_tj e he with ⟨⟨qa, qk, qn, qo⟩, hq, e1, e2⟩ | hn
  · obtain ⟨ct, h1, -⟩ := hT.2 _ _ _ _ hq
    dsimp only at e1 e2
    exact ⟨qn, ct, by rw [← e1, ← e2]; exact h1⟩
  · obtain ⟨n, ct, h1⟩ := jk e he
    exact ⟨n, ct, (h.2.2.2 _ (kdJ_op e he) hn).trans h1⟩
def n108 : List (sN × sN) := o108 []
theorem o108_drop {ρ : Nat → Nat} {u : dH} {r : List (sN × sN)} (h : ovP u 108 (den ρ r)) (hs : (n108.all fun e => r.any fun q => Nat.beq q.1.1 e.1.1 && (q.1.2 == e.1.2 && (Nat.beq q.2.1 e.2.1 && q.2.2 == e.2.2))) = true) : ovP u 108 (den r0 (o108 [])) := by
  refine ⟨by rw [den_keys]; show List.Nodup [0, 1, 2, 3, 4, 5, 6, 13, 15, 16]; decide, fun e he => ?_⟩
  have g : ∀ q ∈ n108, aw u 108 (sden ρ q.1) = sden ρ q.2 := fun q hq => by
    obtain ⟨w, h1, h2⟩ := List.any_eq_true.mp (List.all_eq_true.mp hs q hq)
    simp only [Bool.and_eq_true] at h2
    obtain ⟨⟨q1, q2⟩, q3, q4⟩ := q
    obtain ⟨⟨e1, e2⟩, e3, e4⟩ := w
    have g1 := Nat.eq_of_beq_eq_true h2.1
    have g2 := eq_of_beq h2.2.1
    have g3 := Nat.eq_of_beq_eq_true h2.2.2.1
    have g4 := eq_of_beq h2.2.2.2
    dsimp only at g1 g2 g3 g4
    subst g1 g2 g3 g4
    exact h.2 (sden ρ ((e1, e2), e3, e4).1, sden ρ ((e1, e2), e3, e4).2) (den_mem h1)
  have g2 : ∀ e ∈ den ρ n108, aw u 108 e.1 = e.2 := fun e he => by
    obtain ⟨q, hq, rfl⟩ := List.mem_map.mp he
    exact g q hq
  have hd : den ρ n108 = [(0, 44), (1, 53), (2, 67), (3, 94), (4, 107), (5, 110), (6, 115), (13, 116), (15, 117), (16, 118)] := rfl
  have hd2 : den r0 (o108 []) = [(0, 44), (1, 53), (2, 67), (3, 94), (4, 107), (5, 110), (6, 115), (13, 116), (15, 117), (16, 118)] := rfl
  rw [hd] at g2
  rw [hd2] at he
  exact g2 e he

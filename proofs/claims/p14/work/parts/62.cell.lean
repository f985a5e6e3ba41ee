/-! ===== judge of a cell, over what is known ===== -/
theorem rj_ok {p rest t st : Nat} (h1 : 1 ≤ p ∧ p ≤ 40) (h2 : rest ≤ 60) (h3 : t ≤ 20) (h4 : st ≤ 1000000) : sok (rj p rest t st) B5 := by
  intro v lo hi h
  match v, h with
  | 0, h => cases h; exact ⟨Nat.le_refl _, Nat.le_refl _⟩
  | 1, h => cases h; exact h1
  | 2, h => cases h; exact ⟨Nat.zero_le _, h2⟩
  | 3, h => cases h; exact ⟨Nat.zero_le _, h3⟩
  | 4, h => cases h; exact ⟨Nat.zero_le _, h4⟩
  | n + 5, h => cases h
theorem rj_okf {p rest t st : Nat} (h1 : 2 ≤ p ∧ p ≤ 42) (h2 : rest ≤ 60) (h3 : t ≤ 20) (h4 : st ≤ 1000000) : sok (rj p rest t st) B5f := by
  intro v lo hi h
  match v, h with
  | 0, h => cases h; exact ⟨Nat.le_refl _, Nat.le_refl _⟩
  | 1, h => cases h; exact h1
  | 2, h => cases h; exact ⟨Nat.zero_le _, h2⟩
  | 3, h => cases h; exact ⟨Nat.zero_le _, h3⟩
  | 4, h => cases h; exact ⟨Nat.zero_le _, h4⟩
  | n + 5, h => cases h
theorem rj_ok0 {p rest t st : Nat} (h1 : 1 ≤ p ∧ p ≤ 40) (h2 : rest ≤ 60) : sok (rj p rest t st) B0 := by
  intro v lo hi h
  match v, h with
  | 0, h => cases h; exact ⟨Nat.le_refl _, Nat.le_refl _⟩
  | 1, h => cases h; exact h1
  | 2, h => cases h; exact ⟨Nat.zero_le _, h2⟩
  | n + 3, h => cases h
theorem sd0 (ρ : Nat → Nat) (c : Nat) : sden ρ (c, []) = c := rfl
/-- the numbers of a place -/
theorem at_num {cs : List (Nat × Nat)} (hc : csOK cs) {k : Nat} {s : Nat × Nat} (hs : cs[k]? = some s) : 1 ≤ atc cs k ∧ atc cs k + cCn s.1 ≤ 1 + nOf cs ∧ atc cs k ≤ 40 ∧ nOf cs ≤ 40 ∧ k < 20 ∧ 1 ≤ cCn s.1 ∧ cCn s.1 ≤ 2 ∧ s.1 < 5 ∧ s.2 < 16 ∧ k < cs.length := by
  obtain ⟨a1, a2, a3, a4⟩ := csOK_at hc hs
  have h1 := nOf_le cs
  have h2 := hc.2
  have h3 := atc_le cs k
  have h4 := cCn_pos s.1
  omega
theorem jc {cs : List (Nat × Nat)} (hc : csOK cs) {b r k : Nat} {s : Nat × Nat} (hr : r < 6) (hs : cs[k]? = some s) {u : dH} (hJ : JJ u) (hR : RS cs u) (hM : MI (T14 cs b) u) (e : Nat) : ∃ u2, drun dProg (20000 + e) 60 261 0 [(0, .inr (.inr 1)), (1, .inl r), (2, .inl (atc cs k))] [] u = some (some (.inl (ansJ r s.1 s.2)), u2) ∧ JJ u2 ∧ RS cs u2 ∧ MI (T14 cs b) u2 ∧ KP u u2 := by
  obtain ⟨n1, n2, n3, n4, n5, n6, n7, n8, n9, n10⟩ := at_num hc hs
  obtain ⟨tab, S, h1, h2, h3, h4⟩ := okJ hr n8 n9
  generalize hρ : rj (atc cs k) (1 + nOf cs - atc cs k - cCn s.1) 0 0 = ρ
  have hB : sok ρ B0 := by rw [← hρ]; exact rj_ok0 ⟨n1, n3⟩ (by omega)
  have hCF := RS_cell hR hs
  have hov : ovF ρ u (oj (o108 []) [] (c95 s.1) (cCn s.1, [1, 2]) (c105 s.1 s.2) (c100 s.1) (c96 s.1)) := by
    refine ov_oj hJ hJ.2.2.2.2.1 (ovP_nil _ _) (by rw [← hρ]; exact ov_c95 n8 hCF) ?_ (by rw [← hρ]; exact ov_c105 n8 hCF) (by rw [← hρ]; exact ov_c100 n8 hCF) (by rw [← hρ]; exact ov_c96 n8 hCF)
    rw [hR.2.2.2.1, ← hρ]
    show 1 + nOf cs = cCn s.1 + (atc cs k + (1 + nOf cs - atc cs k - cCn s.1 + 0))
    omega
  have hS : sfit ρ opM S u := sfit_TJ h3 hJ.1 (by rw [h4]; exact hov)
  have hρ1 : ρ 1 = atc cs k := by rw [← hρ]; rfl
  unfold sJudge at h1
  obtain ⟨v, S2, u2, g1, g2, g3, g4⟩ := sex_all (WJ_of (fun key a h => K14_all hc key a h) K14_len (fun key x y => T14_fun hc key x y) hB (tOK_cell hc hs hρ1 h2) hJ.2.2.2.2.2.1) h1 e hS hM
  unfold chkJ at g1
  split at g1
  · rename_i a
    simp only [Bool.and_eq_true] at g1
    obtain ⟨k1, k2, k3⟩ := g1
    have k1 := Nat.eq_of_beq_eq_true k1
    subst k1
    obtain ⟨j1, j2, j3, -, -⟩ := J_next hJ hR hov h3 h4 g3 k2 k3 (by decide)
    refine ⟨u2, ?_, j1, j2, g4, j3⟩
    have e1 : slD ρ [(0, .inr (.inr 1)), (1, .inl (r, [])), (2, .inl (0, [1]))] = [(0, .inr (.inr 1)), (1, .inl r), (2, .inl (atc cs k))] := by
      show [(0, _), (1, _), (2, Sum.inl (0 + (ρ 1 + 0)))] = _
      rw [hρ1, Nat.add_zero, Nat.zero_add]
      rfl
    rw [e1] at g2
    exact g2
  · cases g1

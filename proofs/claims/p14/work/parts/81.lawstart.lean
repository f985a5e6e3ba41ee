/-! ===== the law from its start to the end of its bytes ===== -/
abbrev qL : dMI := (13, yL_law, cL_law, 17, some .boolean)
theorem qL_at : dMis[274]? = some qL := by rfl
def LK (n k : Nat) : dL := [(6, .inl k), (5, .inr (.inr 129)), (4, .inr (.inr 128)), (3, .inl n), (2, .inr (.inr 127)), (1, .inr (.inr 1)), (0, .inr (.inr (Nat.succ dT2)))]
/-- from a place of the law on it comes to answer true, with a heap not too large -/
def GX (bq Ln : Nat) (xs : Nat → Int32) (l : Launch) (D : dD) (b : Nat → Nat) (pc : Nat) (L : dL) (st : List dV) (h : dH) : Prop :=
  ∃ hF : dH, h.1 ≤ hF.1 ∧ h.2.1 ≤ hF.2.1 ∧ hF.1 ≤ 600000 ∧ hF.2.1 ≤ 7302249 ∧ dWpX bq Ln xs l D b qL 61 pc L st h (some (.inl 1)) hF
/-- what stands there while the bytes are put -/
def FR (ck cv : Nat) (bs : List Nat) (h : dH) : Prop := BQ bs h ∧ h.1 = 129 ∧ h.2.1 = 185527 ∧ hat h 127 = some (0, 21, ck) ∧ hat h 128 = some (0, 21, cv)
def kdA (A : Nat → Nat) (k : Nat) : Nat := dRem (dAnd (A k) 2147483647) 5
def vlA (A : Nat → Nat) (k : Nat) : Nat := dAnd (dShr (A k) 8) 15
theorem dAnd_le (a b : Nat) : dAnd a b ≤ b % 4294967296 := Nat.and_le_right
theorem vlA_lt (A : Nat → Nat) (k : Nat) : vlA A k < 16 := by
  have h : vlA A k ≤ 15 % 4294967296 := dAnd_le _ _
  omega
theorem dRem5 {a : Nat} (h : a < 2147483648) : dRem a 5 = a % 5 := by
  have h1 : a % 4294967296 = a := Nat.mod_eq_of_lt (by omega)
  have e : Nat.blt (Nat.mod a 4294967296) 2147483648 = true := by
    show Nat.blt (a % 4294967296) 2147483648 = true
    rw [h1]
    exact di_blt.mpr h
  have h2 : dDiv a 5 = a / 5 := by
    unfold dDiv
    rw [e]
    show (a % 4294967296) / 5 = a / 5
    rw [h1]
  show (a + (4294967296 - (dDiv a 5 * 5 % 4294967296) % 4294967296)) % 4294967296 = _
  rw [h2]
  omega
theorem kdA_lt (A : Nat → Nat) (k : Nat) : kdA A k < 5 := by
  have h : dAnd (A k) 2147483647 ≤ 2147483647 % 4294967296 := dAnd_le _ _
  unfold kdA
  rw [dRem5 (by omega)]
  omega
theorem dAdd_s1 {k : Nat} (h : k < 100000) : dAdd k 1 = k + 1 := Nat.mod_eq_of_lt (by show k + 1 < _; omega)
theorem dcd_ge20 {n : Nat} (h : n < 1000) (h20 : 20 ≤ n) : dcd .ge n 20 = true := by
  by_cases e : n = 20
  · subst e; decide
  · exact dcd_gt .ge (by omega) (by decide) (by omega)
theorem c01 : ∀ kd, kd < 2 → ∀ v, v < 16 → cBy kd v = [(dOr (dShl kd 5) v) % 256] := by decide +kernel
theorem c2 : ∀ v, v < 16 → cBy 2 v = [(dOr 96 (dAnd v 3)) % 256] ++ List.replicate (v % 4) 97 := by decide +kernel
theorem c3 : ∀ v, v < 16 → cBy 3 v = [(dOr 244 (dAnd v 1)) % 256] := by decide +kernel
theorem c4 : ∀ v, v < 16 → cBy 4 v = [129 % 256] ++ [v % 256] := by decide +kernel
theorem FR_set {ck cv ck2 cv2 : Nat} {bs : List Nat} {h h1 : dH} (hF : FR ck cv bs h) (z1 : h1.1 = h.1) (z2 : h1.2.1 = h.2.1) (hw : hwf h1) (h0 : ∀ a, a < 127 → hat h1 a = hat h a) (hk : hat h1 127 = some (0, 21, ck2)) (hv : hat h1 128 = some (0, 21, cv2)) : FR ck2 cv2 bs h1 :=
  ⟨(okBQ bs).1 h h1 (fun a ha => h0 a (di_blt.mp ha)) hw hF.1, z1.trans hF.2.1, z2.trans hF.2.2.1, hk, hv⟩
theorem dp_put : dMis[272]? = some (13, yL_put, cL_put, 4, none) := by rfl
section LWS
variable {bq Ln : Nat} {xs : Nat → Int32} {l : Launch} {D : dD} {b : Nat → Nat} {pc pc2 a k i v n x N : Nat} {L L2 : dL} {st st2 : List dV} {h : dH}
theorem gx_of (f : ∀ hF, dWpX bq Ln xs l D b qL 61 pc2 L2 st2 h (some (.inl 1)) hF → dWpX bq Ln xs l D b qL 61 pc L st h (some (.inl 1)) hF) (G : GX bq Ln xs l D b pc2 L2 st2 h) : GX bq Ln xs l D b pc L st h := by
  obtain ⟨hF, a1, a2, a3, a4, g⟩ := G
  exact ⟨hF, a1, a2, a3, a4, f hF g⟩
theorem gx_weak (hs : ∀ e ∈ L2, e ∈ L) (G : GX bq Ln xs l D b pc L2 st h) : GX bq Ln xs l D b pc L st h := gx_of (fun _ => dx_weak hs) G
theorem gx_icmp_t {cn : ClassFile.Cond} {off : Int} (hdg : decode code pc = .ok (.if_icmp cn off, 3)) (ht : (pc : Int) + off = (x : Int)) (hb : dcd cn a k = true) (G : GX bq Ln xs l D b x L st h) : GX bq Ln xs l D b pc L (.inl k :: .inl a :: st) h :=
  gx_of (fun _ g => dx_icmp hdg ht (fun _ => g) (fun z => by rw [hb] at z; cases z)) G
theorem gx_icmp_f {cn : ClassFile.Cond} {off : Int} (hp : pc + 3 = pc2) (hdg : decode code pc = .ok (.if_icmp cn off, 3)) (ht : (pc : Int) + off = (x : Int)) (hb : dcd cn a k = false) (G : GX bq Ln xs l D b pc2 L st h) : GX bq Ln xs l D b pc L (.inl k :: .inl a :: st) h := by
  subst hp
  exact gx_of (fun _ g => dx_icmp hdg ht (fun z => by rw [hb] at z; cases z) (fun _ => g)) G
theorem gx_newa (hp : pc + 2 = pc2) (hdg : decode code pc = .ok (.newarray .int, 2)) (hw : hwf h) (ha : h.1 = a) (hn : a < 1073741824) (hN : N ≤ 67108864) (G : ∀ h1 : dH, h1.1 = a + 1 → h1.2.1 = h.2.1 + N → hwf h1 → (∀ j, hat h1 j = if j = a then some (0, N, 0) else hat h j) → GX bq Ln xs l D b pc2 L (.inr (.inr (Nat.succ a)) :: st) h1) : GX bq Ln xs l D b pc L (.inl N :: st) h := by
  subst hp ha
  obtain ⟨h1, -, z1, z2, hw1, eh⟩ := hpush_spec (c := (0, N, 0)) (sz := N) (fun g => g) h hw
  obtain ⟨hF, a1, a2, a3, a4, g⟩ := G h1 z1 z2 hw1 eh
  exact ⟨hF, by omega, by omega, a3, a4, dx_newarray (kd := 0) hn hdg (by decide) rfl (Nat.mod_eq_of_lt (by omega)) hN z1 z2 hw1 eh a1 a2 g⟩
theorem gx_ald {ct m : Nat} (hp : pc + 1 = pc2) (hdg : decode code pc = .ok (.iaload, 1)) (hc : hat h a = some (0, m, ct)) (hw : wd 32 ct i = v) (h1 : i < m) (h2 : m < 1000) (G : GX bq Ln xs l D b pc2 L (.inl v :: st) h) : GX bq Ln xs l D b pc L (.inl i :: .inr (.inr (Nat.succ a)) :: st) h := by
  subst hp hw
  exact gx_of (fun _ => dx_iaload hdg hc (Nat.mod_eq_of_lt (by omega)) h1 (by omega)) G
theorem gx_ast {ct m : Nat} (hp : pc + 1 = pc2) (hdg : decode code pc = .ok (.iastore, 1)) (hw : hwf h) (hc : hat h a = some (0, m, ct)) (h1 : i < m) (h2 : m < 1000) (hv : v < 4294967296) (G : ∀ h1 : dH, h1.1 = h.1 → h1.2.1 = h.2.1 → hwf h1 → (∀ j, hat h1 j = if j = a then some (0, m, wst 32 ct i v) else hat h j) → GX bq Ln xs l D b pc2 L st h1) : GX bq Ln xs l D b pc L (.inl v :: .inl i :: .inr (.inr (Nat.succ a)) :: st) h := by
  subst hp
  obtain ⟨g1, -, z1, z2, hw1, eh⟩ := hset_spec (c := (0, m, wst 32 ct i v)) (fun g => g) h hw hc
  obtain ⟨hF, a1, a2, a3, a4, g⟩ := G g1 z1 z2 hw1 eh
  refine ⟨hF, by omega, by omega, a3, a4, dx_iastore hdg hc (Nat.mod_eq_of_lt (by omega)) h1 (by omega) z1 z2 hw1 (fun j => ?_) g⟩
  rw [Nat.mod_eq_of_lt hv]
  exact eh j
theorem gx_aldK {ck cv : Nat} {bs : List Nat} (hp : pc + 1 = pc2) (hdg : decode code pc = .ok (.iaload, 1)) (hF : FR ck cv bs h) (hw : wd 32 ck i = v) (h1 : i < 21) (G : GX bq Ln xs l D b pc2 L (.inl v :: st) h) : GX bq Ln xs l D b pc L (.inl i :: .inr (.inr 128) :: st) h := gx_ald (a := 127) hp hdg hF.2.2.2.1 hw h1 (by decide) G
theorem gx_aldV {ck cv : Nat} {bs : List Nat} (hp : pc + 1 = pc2) (hdg : decode code pc = .ok (.iaload, 1)) (hF : FR ck cv bs h) (hw : wd 32 cv i = v) (h1 : i < 21) (G : GX bq Ln xs l D b pc2 L (.inl v :: st) h) : GX bq Ln xs l D b pc L (.inl i :: .inr (.inr 129) :: st) h := gx_ald (a := 128) hp hdg hF.2.2.2.2 hw h1 (by decide) G
theorem gx_astK {ck cv : Nat} {bs : List Nat} (hp : pc + 1 = pc2) (hdg : decode code pc = .ok (.iastore, 1)) (hF : FR ck cv bs h) (h1 : i < 21) (hv : v < 4294967296) (G : ∀ h1, FR (wst 32 ck i v) cv bs h1 → GX bq Ln xs l D b pc2 L st h1) : GX bq Ln xs l D b pc L (.inl v :: .inl i :: .inr (.inr 128) :: st) h :=
  gx_ast (a := 127) hp hdg hF.1.1 hF.2.2.2.1 h1 (by decide) hv fun g1 z1 z2 hw eh => G g1 (FR_set hF z1 z2 hw (fun a ha => by rw [eh, if_neg (by omega)]) (by rw [eh, if_pos rfl]) (by rw [eh, if_neg (by decide)]; exact hF.2.2.2.2))
theorem gx_astV {ck cv : Nat} {bs : List Nat} (hp : pc + 1 = pc2) (hdg : decode code pc = .ok (.iastore, 1)) (hF : FR ck cv bs h) (h1 : i < 21) (hv : v < 4294967296) (G : ∀ h1, FR ck (wst 32 cv i v) bs h1 → GX bq Ln xs l D b pc2 L st h1) : GX bq Ln xs l D b pc L (.inl v :: .inl i :: .inr (.inr 129) :: st) h :=
  gx_ast (a := 128) hp hdg hF.1.1 hF.2.2.2.2 h1 (by decide) hv fun g1 z1 z2 hw eh => G g1 (FR_set hF z1 z2 hw (fun a ha => by rw [eh, if_neg (by omega)]) (by rw [eh, if_neg (by decide)]; exact hF.2.2.2.1) (by rw [eh, if_pos rfl]))
end LWS
section LWT
variable {bq Ln : Nat} {xs : Nat → Int32} {l : Launch} {D : dD} {b : Nat → Nat} {pc pc2 a k i v n x N : Nat} {L L2 : dL} {st st2 : List dV} {h : dH}
theorem gx_put {ck cv c : Nat} {bs : List Nat} (hp : pc + 3 = pc2) (hdg : decode code pc = .ok (.invokestatic 13, 3)) (hF : FR ck cv bs h) (hl : bs.length < 2800) (G : ∀ h1, FR ck cv (bs ++ [c % 256]) h1 → GX bq Ln xs l D b pc2 L [] h1) : GX bq Ln xs l D b pc L [.inl c, .inr (.inr 127), .inr (.inr 1)] h := by
  subst hp
  obtain ⟨u2, e, hq, z1, z2, hs⟩ := BQ_put hF.1 (by omega) c 1000 57
  have hF1 : FR ck cv (bs ++ [c % 256]) u2 := ⟨hq, z1.trans hF.2.1, z2.trans hF.2.2.1, (hs 127 (by decide)).trans hF.2.2.2.1, (hs 128 (by decide)).trans hF.2.2.2.2⟩
  obtain ⟨h9, a1, a2, a3, a4, g⟩ := G u2 hF1
  have gg : dG l D b 60 272 0 [(0, .inr (.inr 1)), (1, .inr (.inr 127)), (2, .inl c)] [] h none u2 := dj_eq (dPok2_of dProg_ok) e hF.1.1
  have hM : dMet l D b (13, yL_put, cL_put, 4, none) 60 [.inr (.inr 1), .inr (.inr 127), .inl c] h none u2 := dMet_of (dMs_mem dp_put rfl) rfl (by decide +kernel) rfl (show 3 ≤ 4 by decide) gg.1.1 gg.1.2.1 (gg.2 _ dp_put)
  refine ⟨h9, by omega, by omega, a3, a4, ?_⟩
  exact dx_static (q := qL) (i := 13) (y := 272) (as := [.inr (.inr 1), .inr (.inr 127), .inl c]) (v := none) hdg (by decide) ⟨dp_put, dMs_mem dp_put rfl, ⟨0, by simp, by decide +kernel⟩, ⟨by decide +kernel, by decide +kernel⟩, (show (parseMethodDescriptor yL_put.desc).map (fun d => d.parameters.length) = some 3 by decide +kernel), by decide⟩ hM gg.1.1 gg.1.2.1 a1 a2 (by decide) g
end LWT
section LWU
variable {bq Ln : Nat} {xs : Nat → Int32} {l : Launch} {D : dD} {b : Nat → Nat} {pc pc2 a k i v n x N : Nat} {L L2 : dL} {st st2 : List dV} {h : dH}

theorem lw_217 (hk : k < 1000) {h : dH} (ih : GX bq Ln xs l D b 51 (LK n (k + 1)) [] h) : GX bq Ln xs l D b 217 (LK n k) [] h := by
  show GX bq Ln xs l D b 217 [(6, .inl k), (5, .inr (.inr 129)), (4, .inr (.inr 128)), (3, .inl n), (2, .inr (.inr 127)), (1, .inr (.inr 1)), (0, .inr (.inr (Nat.succ dT2)))] [] h
  refine gx_of (pc2 := 220) (st2 := []) (L2 := [(6, .inl (dAdd k 1)), (5, .inr (.inr 129)), (4, .inr (.inr 128)), (3, .inl n), (2, .inr (.inr 127)), (1, .inr (.inr 1)), (0, .inr (.inr (Nat.succ dT2)))]) (fun _ => dx_iinc (q := qL) (pc := 217) (i := 6) (v := k) (w := 1) (n := 1) (L := [(6, .inl k), (5, .inr (.inr 129)), (4, .inr (.inr 128)), (3, .inl n), (2, .inr (.inr 127)), (1, .inr (.inr 1)), (0, .inr (.inr (Nat.succ dT2)))]) (by decide +kernel) (by decide) rfl (by decide)) ?_
  rw [dAdd_s1 (by omega)]
  refine gx_of (pc2 := 51) (st2 := []) (fun _ => dx_goto (q := qL) (pc := 220) (x := 51) (off := -169) (by decide +kernel) (by decide)) ?_
  exact ih
theorem lw_k01 {ck cv : Nat} {bs : List Nat} {h : dH} {kd v : Nat} (hk : k < 20) (hv : v < 16) (hb : bs.length ≤ 100) (hF : FR ck cv bs h) (hK : wd 32 ck k = kd) (hV : wd 32 cv k = v) (h2 : kd < 2) (G : ∀ h1, FR ck cv (bs ++ cBy kd v) h1 → GX bq Ln xs l D b 217 (LK n k) [] h1) : GX bq Ln xs l D b 86 (LK n k) [] h := by
  have hlt : ∀ kd, kd < 2 → dcd .ge kd 2 = false := by decide
  show GX bq Ln xs l D b 86 [(6, .inl k), (5, .inr (.inr 129)), (4, .inr (.inr 128)), (3, .inl n), (2, .inr (.inr 127)), (1, .inr (.inr 1)), (0, .inr (.inr (Nat.succ dT2)))] [] h
  refine gx_of (pc2 := 88) (st2 := [.inr (.inr 128)]) (fun _ => dx_aload (q := qL) (pc := 86) (x := 4) (by decide +kernel) rfl) ?_
  refine gx_of (pc2 := 90) (st2 := [.inl k, .inr (.inr 128)]) (fun _ => dx_iload (q := qL) (pc := 88) (x := 6) (by decide +kernel) rfl) ?_
  refine gx_aldK (pc2 := 91) rfl (by decide +kernel) hF hK (by omega) ?_
  refine gx_of (pc2 := 92) (st2 := [.inl 2, .inl kd]) (fun _ => dx_iconst (q := qL) (pc := 91) (x := 2) (n := 2) (by decide +kernel) (by decide)) ?_
  refine gx_icmp_f (pc2 := 95) (x := 116) (cn := .ge) (off := 24) rfl (by decide +kernel) (by decide) (hlt kd (by omega)) ?_
  refine gx_of (pc2 := 96) (st2 := [.inr (.inr 1)]) (fun _ => dx_aload_n (q := qL) (pc := 95) (x := 1) (n := 1) (by decide +kernel) rfl rfl) ?_
  refine gx_of (pc2 := 97) (st2 := [.inr (.inr 127), .inr (.inr 1)]) (fun _ => dx_aload_n (q := qL) (pc := 96) (x := 2) (n := 2) (by decide +kernel) rfl rfl) ?_
  refine gx_of (pc2 := 99) (st2 := [.inr (.inr 128), .inr (.inr 127), .inr (.inr 1)]) (fun _ => dx_aload (q := qL) (pc := 97) (x := 4) (by decide +kernel) rfl) ?_
  refine gx_of (pc2 := 101) (st2 := [.inl k, .inr (.inr 128), .inr (.inr 127), .inr (.inr 1)]) (fun _ => dx_iload (q := qL) (pc := 99) (x := 6) (by decide +kernel) rfl) ?_
  refine gx_aldK (pc2 := 102) rfl (by decide +kernel) hF hK (by omega) ?_
  refine gx_of (pc2 := 103) (st2 := [.inl 5, .inl kd, .inr (.inr 127), .inr (.inr 1)]) (fun _ => dx_iconst (q := qL) (pc := 102) (x := 5) (n := 5) (by decide +kernel) (by decide)) ?_
  refine gx_of (pc2 := 104) (st2 := [.inl (dShl kd 5), .inr (.inr 127), .inr (.inr 1)]) (fun _ => dx_ishl (q := qL) (pc := 103) (by decide +kernel)) ?_
  refine gx_of (pc2 := 106) (st2 := [.inr (.inr 129), .inl (dShl kd 5), .inr (.inr 127), .inr (.inr 1)]) (fun _ => dx_aload (q := qL) (pc := 104) (x := 5) (by decide +kernel) rfl) ?_
  refine gx_of (pc2 := 108) (st2 := [.inl k, .inr (.inr 129), .inl (dShl kd 5), .inr (.inr 127), .inr (.inr 1)]) (fun _ => dx_iload (q := qL) (pc := 106) (x := 6) (by decide +kernel) rfl) ?_
  refine gx_aldV (pc2 := 109) rfl (by decide +kernel) hF hV (by omega) ?_
  refine gx_of (pc2 := 110) (st2 := [.inl (dOr (dShl kd 5) v), .inr (.inr 127), .inr (.inr 1)]) (fun _ => dx_ior (q := qL) (pc := 109) (by decide +kernel)) ?_
  refine gx_put (pc2 := 113) rfl (by decide +kernel) hF (by omega) fun h1 hF1 => ?_
  refine gx_of (pc2 := 217) (st2 := []) (fun _ => dx_goto (q := qL) (pc := 113) (x := 217) (off := 104) (by decide +kernel) (by decide)) ?_
  refine G h1 ?_
  rw [c01 kd h2 v hv]
  exact hF1
theorem lw_116 {ck cv : Nat} {bs : List Nat} {h : dH} {kd v : Nat} (hk : k < 20) (hv : v < 16) (hb : bs.length ≤ 100) (hF : FR ck cv bs h) (hK : wd 32 ck k = kd) (hV : wd 32 cv k = v) (h2 : 2 ≤ kd) (h5 : kd < 5) (G : GX bq Ln xs l D b 116 (LK n k) [] h) : GX bq Ln xs l D b 86 (LK n k) [] h := by
  have hge : ∀ kd, kd < 5 → 2 ≤ kd → dcd .ge kd 2 = true := by decide
  show GX bq Ln xs l D b 86 [(6, .inl k), (5, .inr (.inr 129)), (4, .inr (.inr 128)), (3, .inl n), (2, .inr (.inr 127)), (1, .inr (.inr 1)), (0, .inr (.inr (Nat.succ dT2)))] [] h
  refine gx_of (pc2 := 88) (st2 := [.inr (.inr 128)]) (fun _ => dx_aload (q := qL) (pc := 86) (x := 4) (by decide +kernel) rfl) ?_
  refine gx_of (pc2 := 90) (st2 := [.inl k, .inr (.inr 128)]) (fun _ => dx_iload (q := qL) (pc := 88) (x := 6) (by decide +kernel) rfl) ?_
  refine gx_aldK (pc2 := 91) rfl (by decide +kernel) hF hK (by omega) ?_
  refine gx_of (pc2 := 92) (st2 := [.inl 2, .inl kd]) (fun _ => dx_iconst (q := qL) (pc := 91) (x := 2) (n := 2) (by decide +kernel) (by decide)) ?_
  refine gx_icmp_t (x := 116) (cn := .ge) (off := 24) (by decide +kernel) (by decide) (hge kd h5 h2) ?_
  exact G
theorem lw_in0 {ck cv : Nat} {bs : List Nat} {kd v : Nat} (hk : k < 20) (hv : v < 16) (hb : bs.length ≤ 100) (hV : wd 32 cv k = v) (G : ∀ h1, FR ck cv (bs ++ List.replicate (v % 4) 97) h1 → GX bq Ln xs l D b 168 ((7, .inl (v % 4)) :: LK n k) [] h1) {h : dH} (hF : FR ck cv (bs ++ List.replicate (v % 4) 97) h) : GX bq Ln xs l D b 143 ((7, .inl (v % 4)) :: LK n k) [] h := by
  have hge2 : ∀ v, v < 16 → ∀ j, j = v % 4 → dcd .ge j (dAnd v 3) = true := fun v hv j e => by subst e; exact (by decide +kernel : ∀ v, v < 16 → dcd .ge (v % 4) (dAnd v 3) = true) v hv
  generalize hj : v % 4 = j at *
  show GX bq Ln xs l D b 143 [(7, .inl j), (6, .inl k), (5, .inr (.inr 129)), (4, .inr (.inr 128)), (3, .inl n), (2, .inr (.inr 127)), (1, .inr (.inr 1)), (0, .inr (.inr (Nat.succ dT2)))] [] h
  refine gx_of (pc2 := 145) (st2 := [.inl j]) (fun _ => dx_iload (q := qL) (pc := 143) (x := 7) (by decide +kernel) rfl) ?_
  refine gx_of (pc2 := 147) (st2 := [.inr (.inr 129), .inl j]) (fun _ => dx_aload (q := qL) (pc := 145) (x := 5) (by decide +kernel) rfl) ?_
  refine gx_of (pc2 := 149) (st2 := [.inl k, .inr (.inr 129), .inl j]) (fun _ => dx_iload (q := qL) (pc := 147) (x := 6) (by decide +kernel) rfl) ?_
  refine gx_aldV (pc2 := 150) rfl (by decide +kernel) hF hV (by omega) ?_
  refine gx_of (pc2 := 151) (st2 := [.inl 3, .inl v, .inl j]) (fun _ => dx_iconst (q := qL) (pc := 150) (x := 3) (n := 3) (by decide +kernel) (by decide)) ?_
  refine gx_of (pc2 := 152) (st2 := [.inl (dAnd v 3), .inl j]) (fun _ => dx_iand (q := qL) (pc := 151) (by decide +kernel)) ?_
  refine gx_icmp_t (x := 168) (cn := .ge) (off := 16) (by decide +kernel) (by decide) (hge2 v hv j hj.symm) ?_
  exact G h hF
theorem lw_in1 {ck cv : Nat} {bs : List Nat} {v j : Nat} (hk : k < 20) (hv : v < 16) (hb : bs.length ≤ 100) (hV : wd 32 cv k = v) (hj : j < v % 4) {h : dH} (hF : FR ck cv (bs ++ List.replicate j 97) h) (G : ∀ h1, FR ck cv (bs ++ List.replicate (j + 1) 97) h1 → GX bq Ln xs l D b 143 ((7, .inl (j + 1)) :: LK n k) [] h1) : GX bq Ln xs l D b 143 ((7, .inl j) :: LK n k) [] h := by
  have hlt2 : ∀ v, v < 16 → ∀ j, j < v % 4 → dcd .ge j (dAnd v 3) = false := fun v hv j hj => (by decide +kernel : ∀ v, v < 16 → ∀ j, j < 4 → j < v % 4 → dcd .ge j (dAnd v 3) = false) v hv j (by omega) hj
  show GX bq Ln xs l D b 143 [(7, .inl j), (6, .inl k), (5, .inr (.inr 129)), (4, .inr (.inr 128)), (3, .inl n), (2, .inr (.inr 127)), (1, .inr (.inr 1)), (0, .inr (.inr (Nat.succ dT2)))] [] h
  refine gx_of (pc2 := 145) (st2 := [.inl j]) (fun _ => dx_iload (q := qL) (pc := 143) (x := 7) (by decide +kernel) rfl) ?_
  refine gx_of (pc2 := 147) (st2 := [.inr (.inr 129), .inl j]) (fun _ => dx_aload (q := qL) (pc := 145) (x := 5) (by decide +kernel) rfl) ?_
  refine gx_of (pc2 := 149) (st2 := [.inl k, .inr (.inr 129), .inl j]) (fun _ => dx_iload (q := qL) (pc := 147) (x := 6) (by decide +kernel) rfl) ?_
  refine gx_aldV (pc2 := 150) rfl (by decide +kernel) hF hV (by omega) ?_
  refine gx_of (pc2 := 151) (st2 := [.inl 3, .inl v, .inl j]) (fun _ => dx_iconst (q := qL) (pc := 150) (x := 3) (n := 3) (by decide +kernel) (by decide)) ?_
  refine gx_of (pc2 := 152) (st2 := [.inl (dAnd v 3), .inl j]) (fun _ => dx_iand (q := qL) (pc := 151) (by decide +kernel)) ?_
  refine gx_icmp_f (pc2 := 155) (x := 168) (cn := .ge) (off := 16) rfl (by decide +kernel) (by decide) (hlt2 v hv j hj) ?_
  refine gx_of (pc2 := 156) (st2 := [.inr (.inr 1)]) (fun _ => dx_aload_n (q := qL) (pc := 155) (x := 1) (n := 1) (by decide +kernel) rfl rfl) ?_
  refine gx_of (pc2 := 157) (st2 := [.inr (.inr 127), .inr (.inr 1)]) (fun _ => dx_aload_n (q := qL) (pc := 156) (x := 2) (n := 2) (by decide +kernel) rfl rfl) ?_
  refine gx_of (pc2 := 159) (st2 := [.inl 97, .inr (.inr 127), .inr (.inr 1)]) (fun _ => dx_bipush (q := qL) (pc := 157) (x := 97) (n := 97) (by decide +kernel) (by decide)) ?_
  refine gx_put (pc2 := 162) rfl (by decide +kernel) hF (by rw [List.length_append, List.length_replicate]; omega) fun h1 hF1 => ?_
  refine gx_of (pc2 := 165) (st2 := []) (L2 := [(7, .inl (dAdd j 1)), (6, .inl k), (5, .inr (.inr 129)), (4, .inr (.inr 128)), (3, .inl n), (2, .inr (.inr 127)), (1, .inr (.inr 1)), (0, .inr (.inr (Nat.succ dT2)))]) (fun _ => dx_iinc (q := qL) (pc := 162) (i := 7) (v := j) (w := 1) (n := 1) (L := [(7, .inl j), (6, .inl k), (5, .inr (.inr 129)), (4, .inr (.inr 128)), (3, .inl n), (2, .inr (.inr 127)), (1, .inr (.inr 1)), (0, .inr (.inr (Nat.succ dT2)))]) (by decide +kernel) (by decide) rfl (by decide)) ?_
  rw [dAdd_s1 (by omega)]
  refine gx_of (pc2 := 143) (st2 := []) (fun _ => dx_goto (q := qL) (pc := 165) (x := 143) (off := -22) (by decide +kernel) (by decide)) ?_
  refine G h1 ?_
  rw [List.append_assoc, ← show List.replicate (j + 1) 97 = List.replicate j 97 ++ [97 % 256] from List.replicate_succ'] at hF1
  exact hF1
theorem lw_inn {ck cv : Nat} {bs : List Nat} {kd v : Nat} (hk : k < 20) (hv : v < 16) (hb : bs.length ≤ 100) (hV : wd 32 cv k = v) (G : ∀ h1, FR ck cv (bs ++ List.replicate (v % 4) 97) h1 → GX bq Ln xs l D b 168 ((7, .inl (v % 4)) :: LK n k) [] h1) : ∀ (d j : Nat), j + d = v % 4 → ∀ h, FR ck cv (bs ++ List.replicate j 97) h → GX bq Ln xs l D b 143 ((7, .inl j) :: LK n k) [] h := by
  intro d
  induction d with
  | zero =>
    intro j e h hF
    obtain rfl : j = v % 4 := by omega
    exact lw_in0 (kd := kd) hk hv hb hV G hF
  | succ d ih =>
    intro j e h hF
    exact lw_in1 hk hv hb hV (by omega) hF fun h1 hF1 => ih (j + 1) (by omega) h1 hF1
theorem lw_k2 {ck cv : Nat} {bs : List Nat} {h : dH} {v : Nat} (hk : k < 20) (hv : v < 16) (hb : bs.length ≤ 90) (hF : FR ck cv bs h) (hK : wd 32 ck k = 2) (hV : wd 32 cv k = v) (G : ∀ h1, FR ck cv (bs ++ cBy 2 v) h1 → GX bq Ln xs l D b 217 (LK n k) [] h1) : GX bq Ln xs l D b 116 (LK n k) [] h := by
  show GX bq Ln xs l D b 116 [(6, .inl k), (5, .inr (.inr 129)), (4, .inr (.inr 128)), (3, .inl n), (2, .inr (.inr 127)), (1, .inr (.inr 1)), (0, .inr (.inr (Nat.succ dT2)))] [] h
  refine gx_of (pc2 := 118) (st2 := [.inr (.inr 128)]) (fun _ => dx_aload (q := qL) (pc := 116) (x := 4) (by decide +kernel) rfl) ?_
  refine gx_of (pc2 := 120) (st2 := [.inl k, .inr (.inr 128)]) (fun _ => dx_iload (q := qL) (pc := 118) (x := 6) (by decide +kernel) rfl) ?_
  refine gx_aldK (pc2 := 121) rfl (by decide +kernel) hF hK (by omega) ?_
  refine gx_of (pc2 := 122) (st2 := [.inl 2, .inl 2]) (fun _ => dx_iconst (q := qL) (pc := 121) (x := 2) (n := 2) (by decide +kernel) (by decide)) ?_
  refine gx_icmp_f (pc2 := 125) (x := 171) (cn := .ne) (off := 49) rfl (by decide +kernel) (by decide) (by decide) ?_
  refine gx_of (pc2 := 126) (st2 := [.inr (.inr 1)]) (fun _ => dx_aload_n (q := qL) (pc := 125) (x := 1) (n := 1) (by decide +kernel) rfl rfl) ?_
  refine gx_of (pc2 := 127) (st2 := [.inr (.inr 127), .inr (.inr 1)]) (fun _ => dx_aload_n (q := qL) (pc := 126) (x := 2) (n := 2) (by decide +kernel) rfl rfl) ?_
  refine gx_of (pc2 := 129) (st2 := [.inl 96, .inr (.inr 127), .inr (.inr 1)]) (fun _ => dx_bipush (q := qL) (pc := 127) (x := 96) (n := 96) (by decide +kernel) (by decide)) ?_
  refine gx_of (pc2 := 131) (st2 := [.inr (.inr 129), .inl 96, .inr (.inr 127), .inr (.inr 1)]) (fun _ => dx_aload (q := qL) (pc := 129) (x := 5) (by decide +kernel) rfl) ?_
  refine gx_of (pc2 := 133) (st2 := [.inl k, .inr (.inr 129), .inl 96, .inr (.inr 127), .inr (.inr 1)]) (fun _ => dx_iload (q := qL) (pc := 131) (x := 6) (by decide +kernel) rfl) ?_
  refine gx_aldV (pc2 := 134) rfl (by decide +kernel) hF hV (by omega) ?_
  refine gx_of (pc2 := 135) (st2 := [.inl 3, .inl v, .inl 96, .inr (.inr 127), .inr (.inr 1)]) (fun _ => dx_iconst (q := qL) (pc := 134) (x := 3) (n := 3) (by decide +kernel) (by decide)) ?_
  refine gx_of (pc2 := 136) (st2 := [.inl (dAnd v 3), .inl 96, .inr (.inr 127), .inr (.inr 1)]) (fun _ => dx_iand (q := qL) (pc := 135) (by decide +kernel)) ?_
  refine gx_of (pc2 := 137) (st2 := [.inl (dOr 96 (dAnd v 3)), .inr (.inr 127), .inr (.inr 1)]) (fun _ => dx_ior (q := qL) (pc := 136) (by decide +kernel)) ?_
  refine gx_put (pc2 := 140) rfl (by decide +kernel) hF (by omega) fun h1 hF1 => ?_
  refine gx_of (pc2 := 141) (st2 := [.inl 0]) (fun _ => dx_iconst (q := qL) (pc := 140) (x := 0) (n := 0) (by decide +kernel) (by decide)) ?_
  refine gx_of (pc2 := 143) (st2 := []) (L2 := [(7, .inl 0), (6, .inl k), (5, .inr (.inr 129)), (4, .inr (.inr 128)), (3, .inl n), (2, .inr (.inr 127)), (1, .inr (.inr 1)), (0, .inr (.inr (Nat.succ dT2)))]) (fun _ => dx_istore (q := qL) (pc := 141) (x := 7) (L := [(6, .inl k), (5, .inr (.inr 129)), (4, .inr (.inr 128)), (3, .inl n), (2, .inr (.inr 127)), (1, .inr (.inr 1)), (0, .inr (.inr (Nat.succ dT2)))]) (by decide +kernel) (by decide)) ?_
  refine lw_inn (kd := 2) (bs := bs ++ [(dOr 96 (dAnd v 3)) % 256]) hk hv (by rw [List.length_append, List.length_singleton]; omega) hV (fun h2 hF2 => ?_) (v % 4) 0 (by omega) h1 (by rw [List.replicate_zero, List.append_nil]; exact hF1)
  refine gx_weak (L2 := LK n k) (fun e he => List.mem_cons_of_mem _ he) ?_
  show GX bq Ln xs l D b 168 [(6, .inl k), (5, .inr (.inr 129)), (4, .inr (.inr 128)), (3, .inl n), (2, .inr (.inr 127)), (1, .inr (.inr 1)), (0, .inr (.inr (Nat.succ dT2)))] [] h2
  refine gx_of (pc2 := 217) (st2 := []) (fun _ => dx_goto (q := qL) (pc := 168) (x := 217) (off := 49) (by decide +kernel) (by decide)) ?_
  refine G h2 ?_
  rw [c2 v hv, ← List.append_assoc]
  exact hF2
theorem lw_k3 {ck cv : Nat} {bs : List Nat} {h : dH} {v : Nat} (hk : k < 20) (hv : v < 16) (hb : bs.length ≤ 90) (hF : FR ck cv bs h) (hK : wd 32 ck k = 3) (hV : wd 32 cv k = v) (G : ∀ h1, FR ck cv (bs ++ cBy 3 v) h1 → GX bq Ln xs l D b 217 (LK n k) [] h1) : GX bq Ln xs l D b 116 (LK n k) [] h := by
  show GX bq Ln xs l D b 116 [(6, .inl k), (5, .inr (.inr 129)), (4, .inr (.inr 128)), (3, .inl n), (2, .inr (.inr 127)), (1, .inr (.inr 1)), (0, .inr (.inr (Nat.succ dT2)))] [] h
  refine gx_of (pc2 := 118) (st2 := [.inr (.inr 128)]) (fun _ => dx_aload (q := qL) (pc := 116) (x := 4) (by decide +kernel) rfl) ?_
  refine gx_of (pc2 := 120) (st2 := [.inl k, .inr (.inr 128)]) (fun _ => dx_iload (q := qL) (pc := 118) (x := 6) (by decide +kernel) rfl) ?_
  refine gx_aldK (pc2 := 121) rfl (by decide +kernel) hF hK (by omega) ?_
  refine gx_of (pc2 := 122) (st2 := [.inl 2, .inl 3]) (fun _ => dx_iconst (q := qL) (pc := 121) (x := 2) (n := 2) (by decide +kernel) (by decide)) ?_
  refine gx_icmp_t (x := 171) (cn := .ne) (off := 49) (by decide +kernel) (by decide) (by decide) ?_
  refine gx_of (pc2 := 173) (st2 := [.inr (.inr 128)]) (fun _ => dx_aload (q := qL) (pc := 171) (x := 4) (by decide +kernel) rfl) ?_
  refine gx_of (pc2 := 175) (st2 := [.inl k, .inr (.inr 128)]) (fun _ => dx_iload (q := qL) (pc := 173) (x := 6) (by decide +kernel) rfl) ?_
  refine gx_aldK (pc2 := 176) rfl (by decide +kernel) hF hK (by omega) ?_
  refine gx_of (pc2 := 177) (st2 := [.inl 3, .inl 3]) (fun _ => dx_iconst (q := qL) (pc := 176) (x := 3) (n := 3) (by decide +kernel) (by decide)) ?_
  refine gx_icmp_f (pc2 := 180) (x := 199) (cn := .ne) (off := 22) rfl (by decide +kernel) (by decide) (by decide) ?_
  refine gx_of (pc2 := 181) (st2 := [.inr (.inr 1)]) (fun _ => dx_aload_n (q := qL) (pc := 180) (x := 1) (n := 1) (by decide +kernel) rfl rfl) ?_
  refine gx_of (pc2 := 182) (st2 := [.inr (.inr 127), .inr (.inr 1)]) (fun _ => dx_aload_n (q := qL) (pc := 181) (x := 2) (n := 2) (by decide +kernel) rfl rfl) ?_
  refine gx_of (pc2 := 185) (st2 := [.inl 244, .inr (.inr 127), .inr (.inr 1)]) (fun _ => dx_sipush (q := qL) (pc := 182) (x := 244) (n := 244) (by decide +kernel) (by decide)) ?_
  refine gx_of (pc2 := 187) (st2 := [.inr (.inr 129), .inl 244, .inr (.inr 127), .inr (.inr 1)]) (fun _ => dx_aload (q := qL) (pc := 185) (x := 5) (by decide +kernel) rfl) ?_
  refine gx_of (pc2 := 189) (st2 := [.inl k, .inr (.inr 129), .inl 244, .inr (.inr 127), .inr (.inr 1)]) (fun _ => dx_iload (q := qL) (pc := 187) (x := 6) (by decide +kernel) rfl) ?_
  refine gx_aldV (pc2 := 190) rfl (by decide +kernel) hF hV (by omega) ?_
  refine gx_of (pc2 := 191) (st2 := [.inl 1, .inl v, .inl 244, .inr (.inr 127), .inr (.inr 1)]) (fun _ => dx_iconst (q := qL) (pc := 190) (x := 1) (n := 1) (by decide +kernel) (by decide)) ?_
  refine gx_of (pc2 := 192) (st2 := [.inl (dAnd v 1), .inl 244, .inr (.inr 127), .inr (.inr 1)]) (fun _ => dx_iand (q := qL) (pc := 191) (by decide +kernel)) ?_
  refine gx_of (pc2 := 193) (st2 := [.inl (dOr 244 (dAnd v 1)), .inr (.inr 127), .inr (.inr 1)]) (fun _ => dx_ior (q := qL) (pc := 192) (by decide +kernel)) ?_
  refine gx_put (pc2 := 196) rfl (by decide +kernel) hF (by omega) fun h1 hF1 => ?_
  refine gx_of (pc2 := 217) (st2 := []) (fun _ => dx_goto (q := qL) (pc := 196) (x := 217) (off := 21) (by decide +kernel) (by decide)) ?_
  refine G h1 ?_
  rw [c3 v hv]
  exact hF1
theorem lw_k4 {ck cv : Nat} {bs : List Nat} {h : dH} {v : Nat} (hk : k < 20) (hv : v < 16) (hb : bs.length ≤ 90) (hF : FR ck cv bs h) (hK : wd 32 ck k = 4) (hV : wd 32 cv k = v) (G : ∀ h1, FR ck cv (bs ++ cBy 4 v) h1 → GX bq Ln xs l D b 217 (LK n k) [] h1) : GX bq Ln xs l D b 116 (LK n k) [] h := by
  show GX bq Ln xs l D b 116 [(6, .inl k), (5, .inr (.inr 129)), (4, .inr (.inr 128)), (3, .inl n), (2, .inr (.inr 127)), (1, .inr (.inr 1)), (0, .inr (.inr (Nat.succ dT2)))] [] h
  refine gx_of (pc2 := 118) (st2 := [.inr (.inr 128)]) (fun _ => dx_aload (q := qL) (pc := 116) (x := 4) (by decide +kernel) rfl) ?_
  refine gx_of (pc2 := 120) (st2 := [.inl k, .inr (.inr 128)]) (fun _ => dx_iload (q := qL) (pc := 118) (x := 6) (by decide +kernel) rfl) ?_
  refine gx_aldK (pc2 := 121) rfl (by decide +kernel) hF hK (by omega) ?_
  refine gx_of (pc2 := 122) (st2 := [.inl 2, .inl 4]) (fun _ => dx_iconst (q := qL) (pc := 121) (x := 2) (n := 2) (by decide +kernel) (by decide)) ?_
  refine gx_icmp_t (x := 171) (cn := .ne) (off := 49) (by decide +kernel) (by decide) (by decide) ?_
  refine gx_of (pc2 := 173) (st2 := [.inr (.inr 128)]) (fun _ => dx_aload (q := qL) (pc := 171) (x := 4) (by decide +kernel) rfl) ?_
  refine gx_of (pc2 := 175) (st2 := [.inl k, .inr (.inr 128)]) (fun _ => dx_iload (q := qL) (pc := 173) (x := 6) (by decide +kernel) rfl) ?_
  refine gx_aldK (pc2 := 176) rfl (by decide +kernel) hF hK (by omega) ?_
  refine gx_of (pc2 := 177) (st2 := [.inl 3, .inl 4]) (fun _ => dx_iconst (q := qL) (pc := 176) (x := 3) (n := 3) (by decide +kernel) (by decide)) ?_
  refine gx_icmp_t (x := 199) (cn := .ne) (off := 22) (by decide +kernel) (by decide) (by decide) ?_
  refine gx_of (pc2 := 200) (st2 := [.inr (.inr 1)]) (fun _ => dx_aload_n (q := qL) (pc := 199) (x := 1) (n := 1) (by decide +kernel) rfl rfl) ?_
  refine gx_of (pc2 := 201) (st2 := [.inr (.inr 127), .inr (.inr 1)]) (fun _ => dx_aload_n (q := qL) (pc := 200) (x := 2) (n := 2) (by decide +kernel) rfl rfl) ?_
  refine gx_of (pc2 := 204) (st2 := [.inl 129, .inr (.inr 127), .inr (.inr 1)]) (fun _ => dx_sipush (q := qL) (pc := 201) (x := 129) (n := 129) (by decide +kernel) (by decide)) ?_
  refine gx_put (pc2 := 207) rfl (by decide +kernel) hF (by omega) fun h1 hF1 => ?_
  refine gx_of (pc2 := 208) (st2 := [.inr (.inr 1)]) (fun _ => dx_aload_n (q := qL) (pc := 207) (x := 1) (n := 1) (by decide +kernel) rfl rfl) ?_
  refine gx_of (pc2 := 209) (st2 := [.inr (.inr 127), .inr (.inr 1)]) (fun _ => dx_aload_n (q := qL) (pc := 208) (x := 2) (n := 2) (by decide +kernel) rfl rfl) ?_
  refine gx_of (pc2 := 211) (st2 := [.inr (.inr 129), .inr (.inr 127), .inr (.inr 1)]) (fun _ => dx_aload (q := qL) (pc := 209) (x := 5) (by decide +kernel) rfl) ?_
  refine gx_of (pc2 := 213) (st2 := [.inl k, .inr (.inr 129), .inr (.inr 127), .inr (.inr 1)]) (fun _ => dx_iload (q := qL) (pc := 211) (x := 6) (by decide +kernel) rfl) ?_
  refine gx_aldV (pc2 := 214) rfl (by decide +kernel) hF1 hV (by omega) ?_
  refine gx_put (pc2 := 217) rfl (by decide +kernel) hF1 (by rw [List.length_append, List.length_singleton]; omega) fun h2 hF2 => ?_
  refine G h2 ?_
  rw [List.append_assoc] at hF2
  rw [c4 v hv]
  exact hF2
theorem lw_86 {ck cv : Nat} {bs : List Nat} {h : dH} {kd v : Nat} (hk : k < 20) (hv : v < 16) (hb : bs.length ≤ 90) (hF : FR ck cv bs h) (hK : wd 32 ck k = kd) (hV : wd 32 cv k = v) (h5 : kd < 5) (G : ∀ h1, FR ck cv (bs ++ cBy kd v) h1 → GX bq Ln xs l D b 217 (LK n k) [] h1) : GX bq Ln xs l D b 86 (LK n k) [] h := by
  by_cases h2 : kd < 2
  · exact lw_k01 hk hv (by omega) hF hK hV h2 G
  · refine lw_116 hk hv (by omega) hF hK hV (by omega) h5 ?_
    rcases (show kd = 2 ∨ kd = 3 ∨ kd = 4 by omega) with rfl | rfl | rfl
    · exact lw_k2 hk hv (by omega) hF hK hV G
    · exact lw_k3 hk hv (by omega) hF hK hV G
    · exact lw_k4 hk hv (by omega) hF hK hV G
theorem lw_57 {A : Nat → Nat} (hA : ∀ j, xs j = Int32.ofNat (A j)) {ck cv : Nat} {bs : List Nat} {h : dH} (hk : k < 20) (hkL : k < Ln) (hL : Ln < 1000) (hF : FR ck cv bs h) (G : ∀ h1, FR (wst 32 ck k (kdA A k)) (wst 32 cv k (vlA A k)) bs h1 → GX bq Ln xs l D b 86 (LK n k) [] h1) : GX bq Ln xs l D b 57 (LK n k) [] h := by
  show GX bq Ln xs l D b 57 [(6, .inl k), (5, .inr (.inr 129)), (4, .inr (.inr 128)), (3, .inl n), (2, .inr (.inr 127)), (1, .inr (.inr 1)), (0, .inr (.inr (Nat.succ dT2)))] [] h
  refine gx_of (pc2 := 59) (st2 := [.inr (.inr 128)]) (fun _ => dx_aload (q := qL) (pc := 57) (x := 4) (by decide +kernel) rfl) ?_
  refine gx_of (pc2 := 61) (st2 := [.inl k, .inr (.inr 128)]) (fun _ => dx_iload (q := qL) (pc := 59) (x := 6) (by decide +kernel) rfl) ?_
  refine gx_of (pc2 := 62) (st2 := [.inr (.inr (Nat.succ dT2)), .inl k, .inr (.inr 128)]) (fun _ => dx_aload_n (q := qL) (pc := 61) (x := 0) (n := 0) (by decide +kernel) rfl rfl) ?_
  refine gx_of (pc2 := 64) (st2 := [.inl k, .inr (.inr (Nat.succ dT2)), .inl k, .inr (.inr 128)]) (fun _ => dx_iload (q := qL) (pc := 62) (x := 6) (by decide +kernel) rfl) ?_
  refine gx_of (pc2 := 65) (st2 := [.inl (A k), .inl k, .inr (.inr 128)]) (fun _ => dx_sld (q := qL) (pc := 64) hA (by omega) (by omega) (by decide +kernel)) ?_
  refine gx_of (pc2 := 67) (st2 := [.inl 2147483647, .inl (A k), .inl k, .inr (.inr 128)]) (fun _ => dx_ldc (q := qL) (pc := 65) (x := 2147483647) (i := 26) (by decide +kernel) (by decide) (by decide +kernel)) ?_
  refine gx_of (pc2 := 68) (st2 := [.inl (dAnd (A k) 2147483647), .inl k, .inr (.inr 128)]) (fun _ => dx_iand (q := qL) (pc := 67) (by decide +kernel)) ?_
  refine gx_of (pc2 := 69) (st2 := [.inl 5, .inl (dAnd (A k) 2147483647), .inl k, .inr (.inr 128)]) (fun _ => dx_iconst (q := qL) (pc := 68) (x := 5) (n := 5) (by decide +kernel) (by decide)) ?_
  refine gx_of (pc2 := 70) (st2 := [.inl (dRem (dAnd (A k) 2147483647) 5), .inl k, .inr (.inr 128)]) (fun _ => dx_irem (q := qL) (pc := 69) (by decide) (by decide +kernel)) ?_
  refine gx_astK (pc2 := 71) (v := kdA A k) rfl (by decide +kernel) hF (by omega) (by have := kdA_lt A k; omega) fun h1 hF1 => ?_
  refine gx_of (pc2 := 73) (st2 := [.inr (.inr 129)]) (fun _ => dx_aload (q := qL) (pc := 71) (x := 5) (by decide +kernel) rfl) ?_
  refine gx_of (pc2 := 75) (st2 := [.inl k, .inr (.inr 129)]) (fun _ => dx_iload (q := qL) (pc := 73) (x := 6) (by decide +kernel) rfl) ?_
  refine gx_of (pc2 := 76) (st2 := [.inr (.inr (Nat.succ dT2)), .inl k, .inr (.inr 129)]) (fun _ => dx_aload_n (q := qL) (pc := 75) (x := 0) (n := 0) (by decide +kernel) rfl rfl) ?_
  refine gx_of (pc2 := 78) (st2 := [.inl k, .inr (.inr (Nat.succ dT2)), .inl k, .inr (.inr 129)]) (fun _ => dx_iload (q := qL) (pc := 76) (x := 6) (by decide +kernel) rfl) ?_
  refine gx_of (pc2 := 79) (st2 := [.inl (A k), .inl k, .inr (.inr 129)]) (fun _ => dx_sld (q := qL) (pc := 78) hA (by omega) (by omega) (by decide +kernel)) ?_
  refine gx_of (pc2 := 81) (st2 := [.inl 8, .inl (A k), .inl k, .inr (.inr 129)]) (fun _ => dx_bipush (q := qL) (pc := 79) (x := 8) (n := 8) (by decide +kernel) (by decide)) ?_
  refine gx_of (pc2 := 82) (st2 := [.inl (dShr (A k) 8), .inl k, .inr (.inr 129)]) (fun _ => dx_ishr (q := qL) (pc := 81) (by decide +kernel)) ?_
  refine gx_of (pc2 := 84) (st2 := [.inl 15, .inl (dShr (A k) 8), .inl k, .inr (.inr 129)]) (fun _ => dx_bipush (q := qL) (pc := 82) (x := 15) (n := 15) (by decide +kernel) (by decide)) ?_
  refine gx_of (pc2 := 85) (st2 := [.inl (dAnd (dShr (A k) 8) 15), .inl k, .inr (.inr 129)]) (fun _ => dx_iand (q := qL) (pc := 84) (by decide +kernel)) ?_
  refine gx_astV (pc2 := 86) (v := vlA A k) rfl (by decide +kernel) hF1 (by omega) (by have := vlA_lt A k; omega) fun h2 hF2 => ?_
  exact G h2 hF2
theorem lw_51f {h : dH} (hn : n ≤ 20) (hkn : k < n) (G : GX bq Ln xs l D b 57 (LK n k) [] h) : GX bq Ln xs l D b 51 (LK n k) [] h := by
  show GX bq Ln xs l D b 51 [(6, .inl k), (5, .inr (.inr 129)), (4, .inr (.inr 128)), (3, .inl n), (2, .inr (.inr 127)), (1, .inr (.inr 1)), (0, .inr (.inr (Nat.succ dT2)))] [] h
  refine gx_of (pc2 := 53) (st2 := [.inl k]) (fun _ => dx_iload (q := qL) (pc := 51) (x := 6) (by decide +kernel) rfl) ?_
  refine gx_of (pc2 := 54) (st2 := [.inl n, .inl k]) (fun _ => dx_iload_n (q := qL) (pc := 53) (x := 3) (n := 3) (by decide +kernel) rfl rfl) ?_
  refine gx_icmp_f (pc2 := 57) (x := 223) (cn := .ge) (off := 169) rfl (by decide +kernel) (by decide) (dcd_lt .ge (by omega) (by omega) hkn) ?_
  exact G
theorem lw_51t {h : dH} (hn : n ≤ 20) (G : GX bq Ln xs l D b 223 (LK n n) [] h) : GX bq Ln xs l D b 51 (LK n n) [] h := by
  show GX bq Ln xs l D b 51 [(6, .inl n), (5, .inr (.inr 129)), (4, .inr (.inr 128)), (3, .inl n), (2, .inr (.inr 127)), (1, .inr (.inr 1)), (0, .inr (.inr (Nat.succ dT2)))] [] h
  refine gx_of (pc2 := 53) (st2 := [.inl n]) (fun _ => dx_iload (q := qL) (pc := 51) (x := 6) (by decide +kernel) rfl) ?_
  refine gx_of (pc2 := 54) (st2 := [.inl n, .inl n]) (fun _ => dx_iload_n (q := qL) (pc := 53) (x := 3) (n := 3) (by decide +kernel) rfl rfl) ?_
  refine gx_icmp_t (x := 223) (cn := .ge) (off := 169) (by decide +kernel) (by decide) (dcd_eq .ge (by omega) rfl) ?_
  exact G
def csA (A : Nat → Nat) (k : Nat) : List (Nat × Nat) := (List.range k).map fun j => (kdA A j, vlA A j)
theorem bOf_app (c1 c2 : List (Nat × Nat)) : bOf (c1 ++ c2) = bOf c1 ++ bOf c2 := by
  induction c1 with
  | nil => rfl
  | cons c t ih =>
    show cBy c.1 c.2 ++ bOf (t ++ c2) = (cBy c.1 c.2 ++ bOf t) ++ bOf c2
    rw [ih, List.append_assoc]
theorem csA_s (A : Nat → Nat) (k : Nat) : csA A (k + 1) = csA A k ++ [(kdA A k, vlA A k)] := by
  unfold csA
  rw [List.range_succ, List.map_append]
  rfl
theorem csA_l (A : Nat → Nat) (k : Nat) : (csA A k).length = k := by
  unfold csA
  rw [List.length_map, List.length_range]
theorem csA_ok (A : Nat → Nat) {n : Nat} (hn : n ≤ 20) : csOK (csA A n) := by
  refine ⟨fun c hc => ?_, by rw [csA_l]; exact hn⟩
  obtain ⟨j, -, rfl⟩ := List.mem_map.mp hc
  exact ⟨kdA_lt A j, vlA_lt A j⟩
theorem csA_len (A : Nat → Nat) {k : Nat} (hk : k ≤ 20) : (159 :: bOf (csA A k)).length ≤ 4 * k + 1 := by
  have h := (bOf_len (csA_ok A hk).1).1
  rw [csA_l] at h
  rw [List.length_cons]
  omega
def HK (A : Nat → Nat) (k : Nat) (h : dH) : Prop := ∃ ck cv, FR ck cv (159 :: bOf (csA A k)) h ∧ (∀ j, j < k → wd 32 ck j = kdA A j) ∧ ∀ j, j < k → wd 32 cv j = vlA A j
theorem lw_turn {A : Nat → Nat} (hA : ∀ j, xs j = Int32.ofNat (A j)) (hk : k < n) (hn : n ≤ 20) (hnL : n ≤ Ln) (hL : Ln < 1000) (ih : ∀ h, HK A (k + 1) h → GX bq Ln xs l D b 51 (LK n (k + 1)) [] h) : ∀ h, HK A k h → GX bq Ln xs l D b 51 (LK n k) [] h := by
  intro h hH
  obtain ⟨ck, cv, hF, hK, hV⟩ := hH
  have hk0 := kdA_lt A k
  have hv0 := vlA_lt A k
  have hlen := csA_len A (k := k) (by omega)
  refine lw_51f hn hk (lw_57 hA (by omega) (by omega) hL hF fun h1 hF1 => ?_)
  refine lw_86 (kd := kdA A k) (v := vlA A k) (by omega) hv0 (by omega) hF1 (by rw [wd_wst k (by omega), if_pos rfl]) (by rw [wd_wst k (by omega), if_pos rfl]) hk0 fun h2 hF2 => lw_217 (by omega) (ih h2 ⟨wst 32 ck k (kdA A k), wst 32 cv k (vlA A k), ?_, fun j hj => ?_, fun j hj => ?_⟩)
  · rw [csA_s, bOf_app, show bOf [(kdA A k, vlA A k)] = cBy (kdA A k) (vlA A k) from List.append_nil _]
    exact hF2
  · rw [wd_wst j (by omega)]
    split
    · rename_i e; rw [e]
    · exact hK j (by omega)
  · rw [wd_wst j (by omega)]
    split
    · rename_i e; rw [e]
    · exact hV j (by omega)
theorem lw_loop {A : Nat → Nat} (hA : ∀ j, xs j = Int32.ofNat (A j)) (hn : n ≤ 20) (hnL : n ≤ Ln) (hL : Ln < 1000) (G : ∀ h, HK A n h → GX bq Ln xs l D b 223 (LK n n) [] h) : ∀ (d k : Nat), k + d = n → ∀ h, HK A k h → GX bq Ln xs l D b 51 (LK n k) [] h := by
  intro d
  induction d with
  | zero =>
    intro k e h hH
    obtain rfl : k = n := by omega
    exact lw_51t hn (G h hH)
  | succ d ih =>
    intro k e
    exact lw_turn hA (by omega) hn hnL hL (ih (k + 1) (by omega))
theorem lw_223 {A : Nat → Nat} (hn : n ≤ 20) (h : dH) (hH : HK A n h) : GX bq Ln xs l D b 223 (LK n n) [] h := by
  obtain ⟨ck, cv, hF, hK, hV⟩ := hH
  have hAR : AR (csA A n) h := by
    refine ⟨⟨ck, hF.2.2.2.1⟩, ⟨cv, hF.2.2.2.2⟩, fun j s hs => ?_⟩
    unfold csA at hs
    rw [List.getElem?_map] at hs
    have hj : j < n := by
      cases Nat.lt_or_ge j n with
      | inl h => exact h
      | inr h =>
        rw [List.getElem?_eq_none (by rw [List.length_range]; exact h)] at hs
        cases hs
    rw [List.getElem?_range hj] at hs
    cases hs
    have e1 := aw_of hF.2.2.2.1 j
    have e2 := aw_of hF.2.2.2.2 j
    exact ⟨e1.trans (hK j hj), e2.trans (hV j hj)⟩
  obtain ⟨u2, e, z1, z2⟩ := law_223 (G := fun r => ∃ u2 : dH, r = some (some (.inl 1), u2) ∧ u2.1 = h.1 ∧ u2.2.1 = h.2.1) (csA_ok A hn) hAR hF.1 (Nat.le_refl 4000000) fun u2 hW => ⟨u2, rfl, hW.1, hW.2.1⟩
  rw [csA_l] at e
  have gg : dG l D b 61 274 223 (rN n) [] h (some (.inl 1)) u2 := dj_eq (dPok2_of dProg_ok) e hF.1.1
  refine gx_weak (L2 := rN n) (fun e he => ?_) ⟨u2, gg.1.1, gg.1.2.1, by rw [z1, hF.2.1]; decide, by rw [z2, hF.2.2.1]; decide, dx_word (gg.2 qL qL_at)⟩
  simp only [rN, LK, List.mem_cons, List.not_mem_nil, or_false] at he ⊢
  rcases he with rfl | rfl | rfl | rfl | rfl <;> simp

theorem lw_8 {h : dH} (hL : Ln < 1000) (hw : hwf h) (e1 : h.1 = 126) (G : ∀ h1 : dH, h1.1 = 127 → h1.2.1 = h.2.1 + 6 → hwf h1 → (∀ j, hat h1 j = if j = 126 then some (0, 6, 0) else hat h j) → GX bq Ln xs l D b 27 [(2, .inr (.inr 127)), (1, .inr (.inr 1)), (0, .inr (.inr (Nat.succ dT2)))] [.inl (min Ln 20)] h1) : GX bq Ln xs l D b 8 [(1, .inr (.inr 1)), (0, .inr (.inr (Nat.succ dT2)))] [] h := by
  refine gx_of (pc2 := 10) (st2 := [.inl 6]) (fun _ => dx_bipush (q := qL) (pc := 8) (x := 6) (n := 6) (by decide +kernel) (by decide)) ?_
  refine gx_newa (pc2 := 12) (a := 126) (N := 6) rfl (by decide +kernel) hw e1 (by decide) (by decide) fun h1 z1 y1 w1 g1 => ?_
  refine gx_of (pc2 := 13) (st2 := []) (L2 := [(2, .inr (.inr 127)), (1, .inr (.inr 1)), (0, .inr (.inr (Nat.succ dT2)))]) (fun _ => dx_astore_n (q := qL) (pc := 12) (x := 2) (n := 2) (L := [(1, .inr (.inr 1)), (0, .inr (.inr (Nat.succ dT2)))]) (by decide +kernel) rfl (by decide)) ?_
  refine gx_of (pc2 := 14) (st2 := [.inr (.inr (Nat.succ dT2))]) (fun _ => dx_aload_n (q := qL) (pc := 13) (x := 0) (n := 0) (by decide +kernel) rfl rfl) ?_
  refine gx_of (pc2 := 15) (st2 := [.inl Ln]) (fun _ => dx_slen (q := qL) (pc := 14) (by decide +kernel)) ?_
  refine gx_of (pc2 := 17) (st2 := [.inl 20, .inl Ln]) (fun _ => dx_bipush (q := qL) (pc := 15) (x := 20) (n := 20) (by decide +kernel) (by decide)) ?_
  by_cases h20 : 20 ≤ Ln
  · have G9 := G h1 (by rw [z1]) y1 w1 g1
    rw [show min Ln 20 = 20 by omega] at G9
    refine gx_icmp_t (x := 25) (cn := .ge) (off := 8) (by decide +kernel) (by decide) (dcd_ge20 hL h20) ?_
    refine gx_of (pc2 := 27) (st2 := [.inl 20]) (fun _ => dx_bipush (q := qL) (pc := 25) (x := 20) (n := 20) (by decide +kernel) (by decide)) ?_
    exact G9
  · have G9 := G h1 (by rw [z1]) y1 w1 g1
    rw [show min Ln 20 = Ln by omega] at G9
    refine gx_icmp_f (pc2 := 20) (x := 25) (cn := .ge) (off := 8) rfl (by decide +kernel) (by decide) (dcd_lt .ge (by omega) (by decide) (by omega)) ?_
    refine gx_of (pc2 := 21) (st2 := [.inr (.inr (Nat.succ dT2))]) (fun _ => dx_aload_n (q := qL) (pc := 20) (x := 0) (n := 0) (by decide +kernel) rfl rfl) ?_
    refine gx_of (pc2 := 22) (st2 := [.inl Ln]) (fun _ => dx_slen (q := qL) (pc := 21) (by decide +kernel)) ?_
    refine gx_of (pc2 := 27) (st2 := [.inl Ln]) (fun _ => dx_goto (q := qL) (pc := 22) (x := 27) (off := 5) (by decide +kernel) (by decide)) ?_
    exact G9
theorem lw_27 {h : dH} (hw : hwf h) (e1 : h.1 = 127) (hFR : ∀ h2 : dH, h2.1 = 129 → h2.2.1 = h.2.1 + 21 + 21 → hwf h2 → (∀ j, hat h2 j = if j = 128 then some (0, 21, 0) else if j = 127 then some (0, 21, 0) else hat h j) → FR 0 0 [] h2) (G : ∀ h1, FR 0 0 [159] h1 → GX bq Ln xs l D b 51 (LK n 0) [] h1) : GX bq Ln xs l D b 27 [(2, .inr (.inr 127)), (1, .inr (.inr 1)), (0, .inr (.inr (Nat.succ dT2)))] [.inl n] h := by
  refine gx_of (pc2 := 28) (st2 := []) (L2 := [(3, .inl n), (2, .inr (.inr 127)), (1, .inr (.inr 1)), (0, .inr (.inr (Nat.succ dT2)))]) (fun _ => dx_istore_n (q := qL) (pc := 27) (x := 3) (n := 3) (L := [(2, .inr (.inr 127)), (1, .inr (.inr 1)), (0, .inr (.inr (Nat.succ dT2)))]) (by decide +kernel) rfl (by decide)) ?_
  refine gx_of (pc2 := 30) (st2 := [.inl 21]) (fun _ => dx_bipush (q := qL) (pc := 28) (x := 21) (n := 21) (by decide +kernel) (by decide)) ?_
  refine gx_newa (pc2 := 32) (a := 127) (N := 21) rfl (by decide +kernel) hw e1 (by decide) (by decide) fun h1 z1 y1 w1 g1 => ?_
  refine gx_of (pc2 := 34) (st2 := []) (L2 := [(4, .inr (.inr 128)), (3, .inl n), (2, .inr (.inr 127)), (1, .inr (.inr 1)), (0, .inr (.inr (Nat.succ dT2)))]) (fun _ => dx_astore (q := qL) (pc := 32) (x := 4) (L := [(3, .inl n), (2, .inr (.inr 127)), (1, .inr (.inr 1)), (0, .inr (.inr (Nat.succ dT2)))]) (by decide +kernel) (by decide)) ?_
  refine gx_of (pc2 := 36) (st2 := [.inl 21]) (fun _ => dx_bipush (q := qL) (pc := 34) (x := 21) (n := 21) (by decide +kernel) (by decide)) ?_
  refine gx_newa (pc2 := 38) (a := 128) (N := 21) rfl (by decide +kernel) w1 z1 (by decide) (by decide) fun h2 z2 y2 w2 g2 => ?_
  refine gx_of (pc2 := 40) (st2 := []) (L2 := [(5, .inr (.inr 129)), (4, .inr (.inr 128)), (3, .inl n), (2, .inr (.inr 127)), (1, .inr (.inr 1)), (0, .inr (.inr (Nat.succ dT2)))]) (fun _ => dx_astore (q := qL) (pc := 38) (x := 5) (L := [(4, .inr (.inr 128)), (3, .inl n), (2, .inr (.inr 127)), (1, .inr (.inr 1)), (0, .inr (.inr (Nat.succ dT2)))]) (by decide +kernel) (by decide)) ?_
  refine gx_of (pc2 := 41) (st2 := [.inr (.inr 1)]) (fun _ => dx_aload_n (q := qL) (pc := 40) (x := 1) (n := 1) (by decide +kernel) rfl rfl) ?_
  refine gx_of (pc2 := 42) (st2 := [.inr (.inr 127), .inr (.inr 1)]) (fun _ => dx_aload_n (q := qL) (pc := 41) (x := 2) (n := 2) (by decide +kernel) rfl rfl) ?_
  refine gx_of (pc2 := 45) (st2 := [.inl 159, .inr (.inr 127), .inr (.inr 1)]) (fun _ => dx_sipush (q := qL) (pc := 42) (x := 159) (n := 159) (by decide +kernel) (by decide)) ?_
  have hF := hFR h2 z2 (by rw [y2, y1]) w2 (fun j => by rw [g2, g1])
  refine gx_put (pc2 := 48) rfl (by decide +kernel) hF (by show 0 < 2800; decide) fun h3 hF3 => ?_
  refine gx_of (pc2 := 49) (st2 := [.inl 0]) (fun _ => dx_iconst (q := qL) (pc := 48) (x := 0) (n := 0) (by decide +kernel) (by decide)) ?_
  refine gx_of (pc2 := 51) (st2 := []) (L2 := [(6, .inl 0), (5, .inr (.inr 129)), (4, .inr (.inr 128)), (3, .inl n), (2, .inr (.inr 127)), (1, .inr (.inr 1)), (0, .inr (.inr (Nat.succ dT2)))]) (fun _ => dx_istore (q := qL) (pc := 49) (x := 6) (L := [(5, .inr (.inr 129)), (4, .inr (.inr 128)), (3, .inl n), (2, .inr (.inr 127)), (1, .inr (.inr 1)), (0, .inr (.inr (Nat.succ dT2)))]) (by decide +kernel) (by decide)) ?_
  exact G h3 hF3
end LWU
theorem BQ_0 {h : dH} (hw : hwf h) (e : ∀ j, j < 126 → hat h j = hat kh11 j) (e6 : hat h 126 = some (0, 6, 0)) : BQ [] h := by
  have k0 := k11_s (u := h) (show k11 0 16 12 o0w = true by decide +kernel) (by decide) (e 0 (by decide))
  have k1 := k11_s (u := h) (show k11 0 16 12 [(0, 2), (1, 0)] = true by decide +kernel) (by decide) (e 0 (by decide))
  obtain ⟨⟨c, hc⟩, hov⟩ := k0
  have f0 := hov.2
  have w0 := k1.2.2 (0, 2) (by simp)
  have w1 := k1.2.2 (1, 0) (by simp)
  rw [aw_of hc] at w0 w1
  have h1 : hat h 1 = some (2, 3000, 0) := (e 1 (by decide)).trans (by rfl)
  refine ⟨hw, fun a _ ha => e a ha, ⟨⟨c, hc⟩, f0⟩, hw, rfl, rfl, fun _ _ _ _ => rfl, 12, c, c, 0, 0, hc, fun _ _ => rfl, ⟨hc, h1, w0, w1⟩, e6, wd_0 _ _, fun i hi => ?_, fun i hi => ?_, fun i _ => wd_0 _ _, wcan_0 _ _⟩
  · exact absurd hi (by show ¬ i < 0; omega)
  · exact absurd hi (by show ¬ i < 0; omega)
theorem hwf0 : hwf ((0, 0, []) : dH) := ⟨rfl, fun i ch h => by simp at h⟩
theorem dp_init : dMis[255]? = some (12, yX12_init, cX12_init, 1, none) := by rfl
section LWV
variable {bq Ln : Nat} {xs : Nat → Int32} {l : Launch} {D : dD} {b : Nat → Nat}
theorem lw_0 (G : hwf kh11 → GX bq Ln xs l D b 8 [(1, .inr (.inr 1)), (0, .inr (.inr (Nat.succ dT2)))] [] kh11) : GX bq Ln xs l D b 0 [(0, .inr (.inr (Nat.succ dT2)))] [] (0, 0, []) := by
  obtain ⟨h0, e1, z1, z2, hw0, eh⟩ := hpush_spec (c := (16, 12, 0)) (sz := 12) (fun g => decide (g = kh0)) false hwf0
  rw [show hpush (0, 0, []) (16, 12, 0) 12 (fun g => decide (g = kh0)) false = true by decide +kernel] at e1
  obtain rfl : h0 = kh0 := of_decide_eq_true e1.symm
  have gg : dG l D b 60 255 0 [(0, .inr (.inr 1))] [] kh0 none kh11 := dG_up (by decide) (kxj8 l D b hw0)
  have hM : dMet l D b (12, yX12_init, cX12_init, 1, none) 60 [.inr (.inr 1)] kh0 none kh11 := dMet_of (dMs_mem dp_init rfl) rfl (by decide +kernel) rfl (by decide) gg.1.1 gg.1.2.1 (gg.2 _ dp_init)
  obtain ⟨hF, a1, a2, a3, a4, g⟩ := gx_of (pc2 := 8) (fun _ => dx_astore_n (q := qL) (n := 1) (x := 1) (v := 0) (L := [(0, .inr (.inr (Nat.succ dT2)))]) (pc := 7) (by decide +kernel) rfl (by decide)) (G gg.1.2.2)
  have g1 := gg.1.1
  have g2 := gg.1.2.1
  refine ⟨hF, Nat.zero_le _, Nat.zero_le _, a3, a4, ?_⟩
  refine dx_new (q := qL) (i := 8) (ci := 12) (h1 := kh0) (by decide) (by decide +kernel) (by decide) (by decide +kernel) (by decide) rfl rfl hw0 (fun j => eh j) (Nat.le_trans g1 a1) (Nat.le_trans g2 a2) ?_
  refine dx_dup (q := qL) (by decide +kernel) rfl ?_
  exact dx_special (q := qL) (a := 0) (as := []) (st := [.inr (.inr 1)]) (i := 25) (y := 255) (v := none) (by decide +kernel) (by decide) ⟨dp_init, dMs_mem dp_init rfl, ⟨2, by simp, by decide +kernel⟩, ⟨by decide +kernel, by decide +kernel⟩, by decide +kernel, by decide⟩ rfl rfl hM g1 g2 a1 a2 (by decide) g
/-- the whole law, over a script of so many ints -/
theorem law_start {A : Nat → Nat} (hA : ∀ j, xs j = Int32.ofNat (A j)) (hL : Ln < 1000) : GX bq Ln xs l D b 0 [(0, .inr (.inr (Nat.succ dT2)))] [] (0, 0, []) := by
  refine lw_0 fun hw => lw_8 hL hw rfl fun h1 z1 y1 w1 g1 => ?_
  refine lw_27 w1 z1 (fun h2 z2 y2 w2 g2 => ⟨BQ_0 w2 (fun j hj => ?_) ?_, z2, ?_, ?_, ?_⟩) fun h3 hF3 => ?_
  · rw [g2, if_neg (by omega), if_neg (by omega), g1, if_neg (by omega)]
  · rw [g2, if_neg (by omega), if_neg (by omega), g1, if_pos rfl]
  · rw [y2, y1]; rfl
  · rw [g2, if_neg (by omega), if_pos rfl]
  · rw [g2, if_pos rfl]
  · refine lw_loop hA (by omega) (by omega) hL (fun h hH => lw_223 (by omega) h hH) (min Ln 20) 0 (by omega) h3 ⟨0, 0, hF3, fun j hj => by omega, fun j hj => by omega⟩
end LWV


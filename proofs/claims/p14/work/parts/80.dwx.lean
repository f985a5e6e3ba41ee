/-! ===== the law's own rows: it knows its script, too ===== -/
def dT2 : Nat := 1125899906842624
def lwX (bq Ln : Nat) (xs : Nat → Int32) (b : Nat → Nat) (s : State) : Prop := va_X bq Ln xs s s.heap ∧ bq < b 0 ∧ b 0 = s.heap.size ∧ b dT2 = bq
def dWpX (bq Ln : Nat) (xs : Nat → Int32) (l : Launch) (D : dD) (b : Nat → Nat) (q : dMI) (d pc : Nat) (L : dL) (st : List dV) (h : dH) (r : Option dV) (h' : dH) : Prop :=
  ∀ (p : Program) (e : Env) (R : Room) (s : State) (m : MethodId) (args : Array Value) (below : List Frame) (meth : Method) (c : Code) (H : Heap) (locs : List Loc) (cells slots mc ms : Nat) (ls : Array Slot),
    lwX bq Ln xs b s → dCx p s m args meth c q D b → dRl D b h H → dS b s.heap H locs → lv_has ls q.2.2.2.1 (dLv b L) → dRm R d mc ms → mc + h.1 = cells + h'.1 → ms + h.2.1 = slots + h'.2.1 →
    W p l e R s m args below meth c H locs cells slots (dE D b r h' below args s mc ms) (F0 m pc ls (st.map (dv b)))
section DWX
variable {bq Ln : Nat} {xs : Nat → Int32} {l : Launch} {D : dD} {b : Nat → Nat} {q t : dMI} {d pc i y : Nat} {L : dL} {st as : List dV} {h h1 : dH} {r v : Option dV} {h' : dH} {a n ct ci k : Nat}
theorem dx_iconst {n : Int} {x : Nat} (hdg : decode q.2.2.1 pc = .ok (.iconst n, 1)) (hv : Int32.ofInt n = Int32.ofNat x) (G : dWpX bq Ln xs l D b q d (pc + 1) L (.inl x :: st) h r h') : dWpX bq Ln xs l D b q d pc L st h r h' := by
  intro p e R s m args below meth c H locs cells slots mc ms ls XX C hR hS hl hm e1 e2
  refine lv_iconst C.1 C.2.1 hdg hv ?_
  exact G p e R s m args below meth c H locs cells slots mc ms ls XX C hR hS hl hm e1 e2
theorem dx_bipush {n : Int} {x : Nat} (hdg : decode q.2.2.1 pc = .ok (.bipush n, 2)) (hv : (Int8.ofInt n).toInt32 = Int32.ofNat x) (G : dWpX bq Ln xs l D b q d (pc + 2) L (.inl x :: st) h r h') : dWpX bq Ln xs l D b q d pc L st h r h' := by
  intro p e R s m args below meth c H locs cells slots mc ms ls XX C hR hS hl hm e1 e2
  refine lv_bipush C.1 C.2.1 hdg hv ?_
  exact G p e R s m args below meth c H locs cells slots mc ms ls XX C hR hS hl hm e1 e2
theorem dx_sipush {n : Int} {x : Nat} (hdg : decode q.2.2.1 pc = .ok (.sipush n, 3)) (hv : (Int16.ofInt n).toInt32 = Int32.ofNat x) (G : dWpX bq Ln xs l D b q d (pc + 3) L (.inl x :: st) h r h') : dWpX bq Ln xs l D b q d pc L st h r h' := by
  intro p e R s m args below meth c H locs cells slots mc ms ls XX C hR hS hl hm e1 e2
  refine lv_sipush C.1 C.2.1 hdg hv ?_
  exact G p e R s m args below meth c H locs cells slots mc ms ls XX C hR hS hl hm e1 e2
theorem dx_ldc {i x : Nat} (hdg : decode q.2.2.1 pc = .ok (.ldc i, 2)) (ho : q.1 < 14) (hx : (i, x) ∈ dKT q.1) (G : dWpX bq Ln xs l D b q d (pc + 2) L (.inl x :: st) h r h') : dWpX bq Ln xs l D b q d pc L st h r h' := by
  intro p e R s m args below meth c H locs cells slots mc ms ls XX C hR hS hl hm e1 e2
  have hw : Cond.constant (cR q.1) i (Int32.ofNat x) ∈ dTs q := List.mem_cons_of_mem _ (dTB_l ho (by unfold dWL; simp only [List.mem_append]; exact Or.inr (Or.inl (List.mem_map.mpr ⟨(i, x), hx, rfl⟩))))
  refine lv_ldc C.1 C.2.1 C.2.2.2.1 (C.2.2.2.2.1 _ hw) hdg ?_
  exact G p e R s m args below meth c H locs cells slots mc ms ls XX C hR hS hl hm e1 e2
theorem dx_iload_n {n : Fin 4} {x v : Nat} (hdg : decode q.2.2.1 pc = .ok (.iload_n n, 1)) (hi : (n : Nat) = x) (hv : dlk L x = some (.inl v)) (G : dWpX bq Ln xs l D b q d (pc + 1) L (.inl v :: st) h r h') : dWpX bq Ln xs l D b q d pc L st h r h' := by
  intro p e R s m args below meth c H locs cells slots mc ms ls XX C hR hS hl hm e1 e2
  refine lv_iload_n C.1 C.2.1 hdg hi (dlk_at hl hv) ?_
  exact G p e R s m args below meth c H locs cells slots mc ms ls XX C hR hS hl hm e1 e2
theorem dx_iload {x v : Nat} (hdg : decode q.2.2.1 pc = .ok (.iload x, 2)) (hv : dlk L x = some (.inl v)) (G : dWpX bq Ln xs l D b q d (pc + 2) L (.inl v :: st) h r h') : dWpX bq Ln xs l D b q d pc L st h r h' := by
  intro p e R s m args below meth c H locs cells slots mc ms ls XX C hR hS hl hm e1 e2
  refine lv_iload C.1 C.2.1 hdg (dlk_at hl hv) ?_
  exact G p e R s m args below meth c H locs cells slots mc ms ls XX C hR hS hl hm e1 e2
theorem dx_aload_n {n : Fin 4} {x v : Nat} (hdg : decode q.2.2.1 pc = .ok (.aload_n n, 1)) (hi : (n : Nat) = x) (hv : dlk L x = some (.inr (.inr (Nat.succ v)))) (G : dWpX bq Ln xs l D b q d (pc + 1) L (.inr (.inr (Nat.succ v)) :: st) h r h') : dWpX bq Ln xs l D b q d pc L st h r h' := by
  intro p e R s m args below meth c H locs cells slots mc ms ls XX C hR hS hl hm e1 e2
  refine lv_aload_n C.1 C.2.1 hdg hi (dlk_at hl hv) ?_
  exact G p e R s m args below meth c H locs cells slots mc ms ls XX C hR hS hl hm e1 e2
theorem dx_aload {x v : Nat} (hdg : decode q.2.2.1 pc = .ok (.aload x, 2)) (hv : dlk L x = some (.inr (.inr (Nat.succ v)))) (G : dWpX bq Ln xs l D b q d (pc + 2) L (.inr (.inr (Nat.succ v)) :: st) h r h') : dWpX bq Ln xs l D b q d pc L st h r h' := by
  intro p e R s m args below meth c H locs cells slots mc ms ls XX C hR hS hl hm e1 e2
  refine lv_aload C.1 C.2.1 hdg (dlk_at hl hv) ?_
  exact G p e R s m args below meth c H locs cells slots mc ms ls XX C hR hS hl hm e1 e2
theorem dx_istore_n {n : Fin 4} {x v : Nat} (hdg : decode q.2.2.1 pc = .ok (.istore_n n, 1)) (hi : (n : Nat) = x) (hn : x < q.2.2.2.1) (G : dWpX bq Ln xs l D b q d (pc + 1) ((x, .inl v) :: L.filter (dp1 x)) st h r h') : dWpX bq Ln xs l D b q d pc L (.inl v :: st) h r h' := by
  intro p e R s m args below meth c H locs cells slots mc ms ls XX C hR hS hl hm e1 e2
  refine lv_istore_n C.1 C.2.1 hdg hi hl hn (dflt1 b x (.inl v) L) (fun ls2 hl2 => ?_)
  exact G p e R s m args below meth c H locs cells slots mc ms ls2 XX C hR hS hl2 hm e1 e2
theorem dx_istore {x v : Nat} (hdg : decode q.2.2.1 pc = .ok (.istore x, 2)) (hn : x < q.2.2.2.1) (G : dWpX bq Ln xs l D b q d (pc + 2) ((x, .inl v) :: L.filter (dp1 x)) st h r h') : dWpX bq Ln xs l D b q d pc L (.inl v :: st) h r h' := by
  intro p e R s m args below meth c H locs cells slots mc ms ls XX C hR hS hl hm e1 e2
  refine lv_istore C.1 C.2.1 hdg hl hn (dflt1 b x (.inl v) L) (fun ls2 hl2 => ?_)
  exact G p e R s m args below meth c H locs cells slots mc ms ls2 XX C hR hS hl2 hm e1 e2
theorem dx_astore_n {n : Fin 4} {x v : Nat} (hdg : decode q.2.2.1 pc = .ok (.astore_n n, 1)) (hi : (n : Nat) = x) (hn : x < q.2.2.2.1) (G : dWpX bq Ln xs l D b q d (pc + 1) ((x, .inr (.inr (Nat.succ v))) :: L.filter (dp1 x)) st h r h') : dWpX bq Ln xs l D b q d pc L (.inr (.inr (Nat.succ v)) :: st) h r h' := by
  intro p e R s m args below meth c H locs cells slots mc ms ls XX C hR hS hl hm e1 e2
  refine lv_astore_n C.1 C.2.1 hdg hi hl hn (dflt1 b x (.inr (.inr (Nat.succ v))) L) (fun ls2 hl2 => ?_)
  exact G p e R s m args below meth c H locs cells slots mc ms ls2 XX C hR hS hl2 hm e1 e2
theorem dx_astore {x v : Nat} (hdg : decode q.2.2.1 pc = .ok (.astore x, 2)) (hn : x < q.2.2.2.1) (G : dWpX bq Ln xs l D b q d (pc + 2) ((x, .inr (.inr (Nat.succ v))) :: L.filter (dp1 x)) st h r h') : dWpX bq Ln xs l D b q d pc L (.inr (.inr (Nat.succ v)) :: st) h r h' := by
  intro p e R s m args below meth c H locs cells slots mc ms ls XX C hR hS hl hm e1 e2
  refine lv_astore C.1 C.2.1 hdg hl hn (dflt1 b x (.inr (.inr (Nat.succ v))) L) (fun ls2 hl2 => ?_)
  exact G p e R s m args below meth c H locs cells slots mc ms ls2 XX C hR hS hl2 hm e1 e2
theorem dx_iinc {i v w : Nat} {n : Int} (hdg : decode q.2.2.1 pc = .ok (.iinc i n, 3)) (hw : Int32.ofInt n = Int32.ofNat w) (hv : dlk L i = some (.inl v)) (hn : i < q.2.2.2.1) (G : dWpX bq Ln xs l D b q d (pc + 3) ((i, .inl (dAdd v w)) :: L.filter (dp1 i)) st h r h') : dWpX bq Ln xs l D b q d pc L st h r h' := by
  intro p e R s m args below meth c H locs cells slots mc ms ls XX C hR hS hl hm e1 e2
  obtain ⟨k, hk, hk2⟩ := List.getElem_of_mem (List.mem_map.mpr ⟨(i, (.inl v : dV)), dlk_mem hv, rfl⟩ : (i, dv b (.inl v)) ∈ dLv b L)
  refine lv_iinc (k := k) (x := Int32.ofNat v) (v := Int32.ofNat (dAdd v w)) C.1 C.2.1 hdg hl (show (List.map (fun e => (e.1, dv b e.2)) L)[k]? = _ from by rw [List.getElem?_eq_getElem hk, hk2]; rfl) (by rw [hw, di_add]) hn (dflt1 b i (.inl (dAdd v w)) L) (fun ls2 hl2 => ?_)
  exact G p e R s m args below meth c H locs cells slots mc ms ls2 XX C hR hS hl2 hm e1 e2
theorem dx_iand {x y : Nat} (hdg : decode q.2.2.1 pc = .ok (.iand, 1)) (G : dWpX bq Ln xs l D b q d (pc + 1) L (.inl (dAnd x y) :: st) h r h') : dWpX bq Ln xs l D b q d pc L (.inl y :: .inl x :: st) h r h' := by
  intro p e R s m args below meth c H locs cells slots mc ms ls XX C hR hS hl hm e1 e2
  refine lv_iand C.1 C.2.1 hdg ?_
  rw [di_and]
  exact G p e R s m args below meth c H locs cells slots mc ms ls XX C hR hS hl hm e1 e2
theorem dx_ior {x y : Nat} (hdg : decode q.2.2.1 pc = .ok (.ior, 1)) (G : dWpX bq Ln xs l D b q d (pc + 1) L (.inl (dOr x y) :: st) h r h') : dWpX bq Ln xs l D b q d pc L (.inl y :: .inl x :: st) h r h' := by
  intro p e R s m args below meth c H locs cells slots mc ms ls XX C hR hS hl hm e1 e2
  refine lv_ior C.1 C.2.1 hdg ?_
  rw [di_or]
  exact G p e R s m args below meth c H locs cells slots mc ms ls XX C hR hS hl hm e1 e2
theorem dx_ishl {x y : Nat} (hdg : decode q.2.2.1 pc = .ok (.ishl, 1)) (G : dWpX bq Ln xs l D b q d (pc + 1) L (.inl (dShl x y) :: st) h r h') : dWpX bq Ln xs l D b q d pc L (.inl y :: .inl x :: st) h r h' := by
  intro p e R s m args below meth c H locs cells slots mc ms ls XX C hR hS hl hm e1 e2
  refine lv_ishl C.1 C.2.1 hdg ?_
  rw [di_shl]
  exact G p e R s m args below meth c H locs cells slots mc ms ls XX C hR hS hl hm e1 e2
theorem dx_ishr {x y : Nat} (hdg : decode q.2.2.1 pc = .ok (.ishr, 1)) (G : dWpX bq Ln xs l D b q d (pc + 1) L (.inl (dShr x y) :: st) h r h') : dWpX bq Ln xs l D b q d pc L (.inl y :: .inl x :: st) h r h' := by
  intro p e R s m args below meth c H locs cells slots mc ms ls XX C hR hS hl hm e1 e2
  refine lv_ishr C.1 C.2.1 hdg ?_
  rw [di_shr]
  exact G p e R s m args below meth c H locs cells slots mc ms ls XX C hR hS hl hm e1 e2
theorem dx_irem {x y : Nat} (hz : dZ y = false) (hdg : decode q.2.2.1 pc = .ok (.irem, 1)) (G : dWpX bq Ln xs l D b q d (pc + 1) L (.inl (dRem x y) :: st) h r h') : dWpX bq Ln xs l D b q d pc L (.inl y :: .inl x :: st) h r h' := by
  intro p e R s m args below meth c H locs cells slots mc ms ls XX C hR hS hl hm e1 e2
  refine lv_irem C.1 C.2.1 hdg (di_z hz) ?_
  rw [di_rem]
  exact G p e R s m args below meth c H locs cells slots mc ms ls XX C hR hS hl hm e1 e2
theorem dx_icmp {cn : ClassFile.Cond} {off : Int} {x a k : Nat} (hdg : decode q.2.2.1 pc = .ok (.if_icmp cn off, 3)) (ht : (pc : Int) + off = (x : Int)) (G1 : dcd cn a k = true → dWpX bq Ln xs l D b q d x L st h r h') (G2 : dcd cn a k = false → dWpX bq Ln xs l D b q d (pc + 3) L st h r h') : dWpX bq Ln xs l D b q d pc L (.inl k :: .inl a :: st) h r h' := by
  intro p e R s m args below meth c H locs cells slots mc ms ls XX C hR hS hl hm e1 e2
  cases cn
  · exact lv_icmp_eq C.1 C.2.1 hdg ht (fun z => G1 (dcd_eq_t z) p e R s m args below meth c H locs cells slots mc ms ls XX C hR hS hl hm e1 e2) (fun z => G2 (dcd_eq_f z) p e R s m args below meth c H locs cells slots mc ms ls XX C hR hS hl hm e1 e2)
  · exact lv_icmp_ne C.1 C.2.1 hdg ht (fun z => G1 (dcd_ne_t z) p e R s m args below meth c H locs cells slots mc ms ls XX C hR hS hl hm e1 e2) (fun z => G2 (dcd_ne_f z) p e R s m args below meth c H locs cells slots mc ms ls XX C hR hS hl hm e1 e2)
  · exact lv_icmp_lt C.1 C.2.1 hdg ht (fun z => G1 (dcd_lt_t z) p e R s m args below meth c H locs cells slots mc ms ls XX C hR hS hl hm e1 e2) (fun z => G2 (dcd_lt_f z) p e R s m args below meth c H locs cells slots mc ms ls XX C hR hS hl hm e1 e2)
  · exact lv_icmp_ge C.1 C.2.1 hdg ht (fun z => G1 (dcd_ge_t z) p e R s m args below meth c H locs cells slots mc ms ls XX C hR hS hl hm e1 e2) (fun z => G2 (dcd_ge_f z) p e R s m args below meth c H locs cells slots mc ms ls XX C hR hS hl hm e1 e2)
  · exact lv_icmp_gt C.1 C.2.1 hdg ht (fun z => G1 (dcd_gt_t z) p e R s m args below meth c H locs cells slots mc ms ls XX C hR hS hl hm e1 e2) (fun z => G2 (dcd_gt_f z) p e R s m args below meth c H locs cells slots mc ms ls XX C hR hS hl hm e1 e2)
  · exact lv_icmp_le C.1 C.2.1 hdg ht (fun z => G1 (dcd_le_t z) p e R s m args below meth c H locs cells slots mc ms ls XX C hR hS hl hm e1 e2) (fun z => G2 (dcd_le_f z) p e R s m args below meth c H locs cells slots mc ms ls XX C hR hS hl hm e1 e2)
theorem dx_goto {off : Int} {x : Nat} (hdg : decode q.2.2.1 pc = .ok (.goto off, 3)) (ht : (pc : Int) + off = (x : Int)) (G : dWpX bq Ln xs l D b q d x L st h r h') : dWpX bq Ln xs l D b q d pc L st h r h' := by
  intro p e R s m args below meth c H locs cells slots mc ms ls XX C hR hS hl hm e1 e2
  refine lv_goto C.1 C.2.1 hdg ht ?_
  exact G p e R s m args below meth c H locs cells slots mc ms ls XX C hR hS hl hm e1 e2
theorem dx_dup {v : dV} (hdg : decode q.2.2.1 pc = .ok (.dup, 1)) (hv : disl v = false) (G : dWpX bq Ln xs l D b q d (pc + 1) L (v :: v :: st) h r h') : dWpX bq Ln xs l D b q d pc L (v :: st) h r h' := by
  intro p e R s m args below meth c H locs cells slots mc ms ls XX C hR hS hl hm e1 e2
  refine lv_dup C.1 C.2.1 hdg (by rw [dcat1, hv]; rfl) ?_
  exact G p e R s m args below meth c H locs cells slots mc ms ls XX C hR hS hl hm e1 e2
theorem dx_alen {kd : Nat} (hdg : decode q.2.2.1 pc = .ok (.arraylength, 1)) (hk : kd < 4) (hc : hat h a = some (kd, n, ct)) (G : dWpX bq Ln xs l D b q d (pc + 1) L (.inl n :: st) h r h') : dWpX bq Ln xs l D b q d pc L (.inr (.inr (Nat.succ a)) :: st) h r h' := by
  intro p e R s m args below meth c H locs cells slots mc ms ls XX C hR hS hl hm e1 e2
  refine W.alen (n := Int32.ofNat n) C.1 C.2.1 ((hR.2.2 a _ hc).arr hk) ((C.2.2.2.2.2.2.2.2.1.2.1 kd hk).1 n (dEl kd ct)) (by rw [arrV_size]; try rfl) rfl rfl hdg ?_
  exact G p e R s m args below meth c H locs cells slots mc ms ls XX C hR hS hl hm e1 e2
theorem dx_iaload {i x : Nat} (hdg : decode q.2.2.1 pc = .ok (.iaload, 1)) (hc : hat h a = some (0, n, ct)) (hx : x % 4294967296 = i) (h1 : i < n) (h2 : i < 2147483648) (G : dWpX bq Ln xs l D b q d (pc + 1) L (.inl (wd 32 ct i) :: st) h r h') : dWpX bq Ln xs l D b q d pc L (.inl x :: .inr (.inr (Nat.succ a)) :: st) h r h' := by
  intro p e R s m args below meth c H locs cells slots mc ms ls XX C hR hS hl hm e1 e2
  subst hx
  have hi := dix h1 h2
  refine W.iald (v := dEl 0 ct (x % 4294967296)) C.1 C.2.1 ((hR.2.2 a _ hc).arr (by decide)) ((C.2.2.2.2.2.2.2.2.1.2.1 0 (by decide)).1 n (dEl 0 ct)) (fun z => by cases z) (by rw [arrV_size]; exact hi.1) (by rw [hi.2, arrV_read _ _ h1]) rfl rfl hdg ?_
  exact G p e R s m args below meth c H locs cells slots mc ms ls XX C hR hS hl hm e1 e2
theorem dx_iastore {i x v : Nat} (hdg : decode q.2.2.1 pc = .ok (.iastore, 1)) (hc : hat h a = some (0, n, ct)) (hx : x % 4294967296 = i) (g1 : i < n) (g2 : i < 2147483648) (z1 : h1.1 = h.1) (z2 : h1.2.1 = h.2.1) (hw1 : hwf h1) (eh : ∀ j, hat h1 j = if j = a then some (0, n, wst 32 ct i (v % 4294967296)) else hat h j) (G : dWpX bq Ln xs l D b q d (pc + 1) L st h1 r h') : dWpX bq Ln xs l D b q d pc L (.inl v :: .inl x :: .inr (.inr (Nat.succ a)) :: st) h r h' := by
  intro p e R s m args below meth c H locs cells slots mc ms ls XX C hR hS hl hm e1 e2
  subst hx
  have hi := dix g1 g2
  refine W.iast C.1 C.2.1 ((hR.2.2 a _ hc).arr (by decide)) ((C.2.2.2.2.2.2.2.2.1.2.1 0 (by decide)).1 n (dEl 0 ct)) (fun z => by cases z) (by rw [arrV_size]; exact hi.1) rfl rfl hdg fun H1 x1 x2 x3 => ?_
  rw [hi.2] at x1 ⊢
  refine G p e R s m args below meth c H1 _ cells slots mc ms ls XX C (hR.set hc x2 x3 (Or.inl ⟨show 0 < 4 by decide, ?_⟩) z1 hw1 eh) (hS.put x3 (by have := hR.at (Nat.le_of_lt (hat_lt hR.2.1 hc)); omega)) hl hm (by omega) (by omega)
  rw [x1, arrV_store]
  congr 2
  funext j
  have hlt : v % 4294967296 < 2 ^ 32 := by omega
  by_cases hj : j = x % 4294967296
  · simp only [updV, if_pos hj, dEl, wd_wst j hlt]
    exact ds_v0 v
  · simp only [updV, if_neg hj, dEl, wd_wst j hlt]
theorem dx_new {i : Nat} (hn : h.1 < 1073741824) (hdg : decode q.2.2.1 pc = .ok (.new i, 3)) (ho : q.1 < 14) (hx : (i, ci) ∈ dCT q.1) (hci : ci < 13) (z1 : h1.1 = h.1 + 1) (z2 : h1.2.1 = h.2.1 + cN ci) (hw1 : hwf h1) (eh : ∀ j, hat h1 j = if j = h.1 then some (ci + 4, cN ci, 0) else hat h j) (y1 : h1.1 ≤ h'.1) (y2 : h1.2.1 ≤ h'.2.1) (G : dWpX bq Ln xs l D b q d (pc + 3) L (.inr (.inr (Nat.succ h.1)) :: st) h1 r h') : dWpX bq Ln xs l D b q d pc L st h r h' := by
  intro p e R s m args below meth c H locs cells slots mc ms ls XX C hR hS hl hm e1 e2
  have hts := C.2.2.2.2.1
  have hin : ∀ w ∈ u_ws (cR ci) (cT ci) (cN ci), w ∈ dTs q := fun w hw => List.mem_cons_of_mem _ (dTB_u hci hw)
  have hKn := C.2.2.2.2.2.2.2.2.1.1.1 ci _ (dCl_at ci hci)
  have w1 : Cond.classLink (cR q.1) i (cR ci) ∈ dTs q := List.mem_cons_of_mem _ (dTB_l ho (by unfold dWL; exact List.mem_append.mpr (Or.inl (List.mem_map.mpr ⟨(i, ci), hx, rfl⟩))))
  have w2 : Cond.instantiable (cR ci) (cN ci) ∈ dTs q := List.mem_cons_of_mem _ (dTB_n hci (by simp))
  have w3 : Cond.initialized (cR ci) ∈ dTs q := List.mem_cons_of_mem _ (dTB_n hci (by simp))
  refine W.newcK C.1 C.2.1 C.2.2.2.1 (hts _ w1) (hts _ w2) (hts _ w3) rfl hdg (by have := hm.2.2.1; omega) (by have := hm.2.2.2; omega) hKn.2.1 rfl fun H1 kC hkC x1 x2 x3 => ?_
  rw [show (Value.ref H.size : Value) = dv b (.inr (.inr (Nat.succ h.1))) by rw [hR.1.1, ← hR.at (Nat.le_refl _)]; rfl]
  refine G p e R s m args below meth c H1 locs (cells + 1) (slots + cN ci) mc ms ls XX C (hR.push hn x2 x3 (Or.inr (Or.inl ⟨ci, hci, rfl, ?_⟩)) z1 hw1 eh) (hS.push hR.1.1 x3) hl hm (by omega) (by omega)
  refine (u_born (cY ci) hts hin hKn hkC x1 (cT_ty ci hci)).to (fun j hj => ?_)
  show _ = dv b (fv _ (wd 64 0 j))
  rw [wd_0, dcast (w := 0) (cY_tc ci hci j hj)]
theorem dx_newarray {t : ArrayType} {kd x N : Nat} (hn : h.1 < 1073741824) (hdg : decode q.2.2.1 pc = .ok (.newarray t, 2)) (hk : kd < 4) (ht : newarray.typeOf t = dTy kd) (hN : x % 4294967296 = N) (hle : N ≤ 67108864) (z1 : h1.1 = h.1 + 1) (z2 : h1.2.1 = h.2.1 + N) (hw1 : hwf h1) (eh : ∀ j, hat h1 j = if j = h.1 then some (kd, N, 0) else hat h j) (y1 : h1.1 ≤ h'.1) (y2 : h1.2.1 ≤ h'.2.1) (G : dWpX bq Ln xs l D b q d (pc + 2) L (.inr (.inr (Nat.succ h.1)) :: st) h1 r h') : dWpX bq Ln xs l D b q d pc L (.inl x :: st) h r h' := by
  intro p e R s m args below meth c H locs cells slots mc ms ls XX C hR hS hl hm e1 e2
  have hts := C.2.2.2.2.1
  have hi := dix (i := x) (n := N + 1) (by omega) (by omega)
  have w1 : Cond.arrayClass (newarray.typeOf t) ∈ dTs q := by
    rw [ht]
    rcases (show kd = 0 ∨ kd = 1 ∨ kd = 2 ∨ kd = 3 by omega) with rfl | rfl | rfl | rfl <;> exact List.mem_cons_of_mem _ (List.mem_append.mpr (Or.inl (by simp [dTy])))
  refine va_newaK C.1 C.2.1 (hts _ w1) rfl hdg rfl (fun z => hi.1 (Or.inl z)) (hi.2.trans hN) ?_ (by have := hm.2.2.1; omega) (by have := hm.2.2.2; omega) rfl fun H1 cA x1 x2 x3 hAr hNm => ?_
  · rw [ht]
    rcases (show kd = 0 ∨ kd = 1 ∨ kd = 2 ∨ kd = 3 by omega) with rfl | rfl | rfl | rfl <;> (simp only [dTy, componentBytes]; omega)
  · have hcA : cA = D.2 kd := by
      rw [ht] at hNm
      exact Option.some.inj (hNm.symm.trans (C.2.2.2.2.2.2.2.2.1.2.1 kd hk).2)
    subst hcA
    rw [show (Value.ref H.size : Value) = dv b (.inr (.inr (Nat.succ h.1))) by rw [hR.1.1, ← hR.at (Nat.le_refl _)]; rfl]
    refine G p e R s m args below meth c H1 locs (cells + 1) (slots + N) mc ms ls XX C (hR.push hn x2 x3 (Or.inl ⟨hk, ?_⟩) z1 hw1 eh) (hS.push hR.1.1 x3) hl hm (by omega) (by omega)
    rw [x1, ht]
    congr 2
    funext j
    exact (dEl_0 hk).symm
theorem dx_static (hdg : decode q.2.2.1 pc = .ok (.invokestatic i, 3)) (ho : q.1 < 14) (K : dlnk q t i y as [0]) (hM : dMet l D b t d as h v h1) (g1 : h.1 ≤ h1.1) (g2 : h.2.1 ≤ h1.2.1) (y1 : h1.1 ≤ h'.1) (y2 : h1.2.1 ≤ h'.2.1) (hc : dcat st ≤ 8) (G : dWpX bq Ln xs l D b q (d + 1) (pc + 3) L (dpush v st) h1 r h') : dWpX bq Ln xs l D b q (d + 1) pc L (as.reverse ++ st) h r h' := by
  intro p e R s m args below meth c H locs cells slots mc ms ls XX C hR hS hl hm e1 e2
  obtain ⟨k1, k2, ⟨k, hk, hk2⟩, k4, k5, k6⟩ := K
  simp at hk; subst hk
  have hts := C.2.2.2.2.1
  have hG := dTs_c q (dMs_sub k2)
  have hw : ∀ w ∈ dWM q.1 (i, y, 0), w.before args s = true := fun w hw => hts w (List.mem_cons_of_mem _ (dTB_m ho hk2 hw))
  rw [dWM_0 k1] at hw
  have a1 := hw (.methodLink (cR q.1) i t.2.1) (by simp)
  have a2 := hw (.static t.2.1) (by simp)
  have a3 := hw (.initialized t.2.1.cls) (by simp)
  have cb := callB_of (R := R) (own := cR q.1) (index := i) (y := t.2.1) (rm := { frames := d, cells := h1.1 - h.1, slots := h1.2.1 - h.2.1, locals := d * 64 }) as.length hts hG (dTs_p k2) rfl rfl a3 a1 ⟨k4.1, k4.2, k5⟩ (droom hm k6)
  rw [dmap_rev]
  refine ds_after (va_runS ⟨C.1, C.2.1, C.2.2.1, C.2.2.2.1, hts⟩ hM ⟨cb, a2⟩ ⟨dblind, fun U hU hW => ⟨rfl, by rw [hU]; exact hR, by rw [hU]; exact dKK.warm hW (dKK.kept hS.2.1 C.2.2.2.2.2.2.2.2.1)⟩⟩ rfl (List.length_map _) hl.1 rfl (lv_room (by rw [dcat_eq]; exact hc)) hdg ⟨by have := hm.2.2.1; omega, by have := hm.2.2.2; omega⟩) hS fun H1 locs1 hR1 hS1 => ?_
  rw [← dpush_map]
  exact G p e R s m args below meth c H1 locs1 _ _ mc ms ls XX C hR1 hS1 hl hm (by omega) (by omega)
theorem dx_special (hdg : decode q.2.2.1 pc = .ok (.invokespecial i, 3)) (ho : q.1 < 14) (K : dlnk q t i y as [2]) (hin : t.2.1.name = "<init>") (hrt : t.2.2.2.2 = none) (hM : dMet l D b t d (.inr (.inr (Nat.succ a)) :: as) h v h1) (g1 : h.1 ≤ h1.1) (g2 : h.2.1 ≤ h1.2.1) (y1 : h1.1 ≤ h'.1) (y2 : h1.2.1 ≤ h'.2.1) (hc : dcat st ≤ 8) (G : dWpX bq Ln xs l D b q (d + 1) (pc + 3) L (dpush v st) h1 r h') : dWpX bq Ln xs l D b q (d + 1) pc L (as.reverse ++ .inr (.inr (Nat.succ a)) :: st) h r h' := by
  intro p e R s m args below meth c H locs cells slots mc ms ls XX C hR hS hl hm e1 e2
  obtain ⟨k1, k2, ⟨k, hk, hk2⟩, k4, k5, k6⟩ := K
  simp at hk; subst hk
  have hts := C.2.2.2.2.1
  have hG := dTs_c q (dMs_sub k2)
  have hw : ∀ w ∈ dWM q.1 (i, y, 2), w.before args s = true := fun w hw => hts w (List.mem_cons_of_mem _ (dTB_m ho hk2 hw))
  rw [dWM_2 k1] at hw
  have a1 := hw (.methodLink (cR q.1) i t.2.1) (by simp)
  have a2 := hw (.instanceMethod t.2.1) (by simp)
  have a3 := hw (.initialized t.2.1.cls) (by simp)
  have hrw : dTs t = Cond.code t.2.1 t.2.2.1 t.2.2.2.1 none :: dTB := by rw [← hrt]; exact dTs_p k2
  have cb := callB_of (R := R) (own := cR q.1) (index := i) (y := t.2.1) (rm := { frames := d, cells := h1.1 - h.1, slots := h1.2.1 - h.2.1, locals := d * 64 }) as.length hts hG hrw rfl rfl a3 a1 ⟨k4.1, k4.2, k5⟩ (droom hm k6)
  rw [dmap_rev2]
  refine ds_after (va_runI (b := b a) (As := as.map (dv b)) ⟨C.1, C.2.1, C.2.2.1, C.2.2.2.1, hts⟩ hM ⟨cb, hin, a2⟩ ⟨dblind, fun U hU hW => ⟨rfl, by rw [hU]; exact hR, by rw [hU]; exact dKK.warm hW (dKK.kept hS.2.1 C.2.2.2.2.2.2.2.2.1)⟩⟩ rfl (List.length_map _) hl.1 rfl (lv_room (by rw [dcat_eq]; exact hc)) hdg ⟨by have := hm.2.2.1; omega, by have := hm.2.2.2; omega⟩) hS fun H1 locs1 hR1 hS1 => ?_
  rw [← dpush_map]
  exact G p e R s m args below meth c H1 locs1 _ _ mc ms ls XX C hR1 hS1 hl hm (by omega) (by omega)
theorem dx_weak {L2 : dL} (hs : ∀ e ∈ L2, e ∈ L) (G : dWpX bq Ln xs l D b q d pc L2 st h r h') : dWpX bq Ln xs l D b q d pc L st h r h' := by
  intro p e R s m args below meth c H locs cells slots mc ms ls XX C hR hS hl hm e1 e2
  refine G p e R s m args below meth c H locs cells slots mc ms ls XX C hR hS ⟨hl.1, hl.2.1, fun q hq => ?_⟩ hm e1 e2
  obtain ⟨x, hx, rfl⟩ := List.mem_map.mp hq
  exact hl.2.2 _ (List.mem_map.mpr ⟨x, hs x hx, rfl⟩)
theorem dx_word (G : dWp l D b q d pc L st h r h') : dWpX bq Ln xs l D b q d pc L st h r h' := by
  intro p e R s m args below meth c H locs cells slots mc ms ls XX C hR hS hl hm e1 e2
  exact G p e R s m args below meth c H locs cells slots mc ms ls C hR hS hl hm e1 e2
theorem dx_S {s : State} {H : Heap} {locs : List Loc} (XX : lwX bq Ln xs b s) (hR : dRl D b h H) (hS : dS b s.heap H locs) : va_S (fun q => b 0 ≤ q) s.heap H locs := ⟨by rw [hR.1.1, XX.2.2.1]; omega, fun q _ h2 => hS.2.1 q (Nat.not_le.mp h2), hS.2.2⟩
theorem dx_slen (hdg : decode q.2.2.1 pc = .ok (.arraylength, 1)) (G : dWpX bq Ln xs l D b q d (pc + 1) L (.inl Ln :: st) h r h') : dWpX bq Ln xs l D b q d pc L (.inr (.inr (Nat.succ dT2)) :: st) h r h' := by
  intro p e R s m args below meth c H locs cells slots mc ms ls XX C hR hS hl hm e1 e2
  have hg := G p e R s m args below meth c H locs cells slots mc ms ls XX C hR hS hl hm e1 e2
  show W p l e R s m args below meth c H locs cells slots _ (F0 m pc ls (.ref (b dT2) :: st.map (dv b)))
  rw [XX.2.2.2]
  exact va_slen C.1 C.2.1 XX.1 (by rw [← XX.2.2.1]; exact XX.2.1) (Nat.not_le.mpr XX.2.1) (dx_S XX hR hS) hdg hg
theorem dx_sld {A : Nat → Nat} (hA : ∀ k, xs k = Int32.ofNat (A k)) {j : Nat} (hj : j < Ln) (hL : Ln < 2147483648) (hdg : decode q.2.2.1 pc = .ok (.iaload, 1)) (G : dWpX bq Ln xs l D b q d (pc + 1) L (.inl (A j) :: st) h r h') : dWpX bq Ln xs l D b q d pc L (.inl j :: .inr (.inr (Nat.succ dT2)) :: st) h r h' := by
  intro p e R s m args below meth c H locs cells slots mc ms ls XX C hR hS hl hm e1 e2
  have hg := G p e R s m args below meth c H locs cells slots mc ms ls XX C hR hS hl hm e1 e2
  have hm9 : j % 4294967296 = j := Nat.mod_eq_of_lt (by omega)
  have hi := dix (i := j) (n := Ln) (by rw [hm9]; exact hj) (by rw [hm9]; omega)
  show W p l e R s m args below meth c H locs cells slots _ (F0 m pc ls (.int (Int32.ofNat j) :: .ref (b dT2) :: st.map (dv b)))
  rw [XX.2.2.2]
  refine va_sld C.1 C.2.1 XX.1 (by rw [← XX.2.2.1]; exact XX.2.1) (Nat.not_le.mpr XX.2.1) (dx_S XX hR hS) hi.1 hdg ?_
  rw [hi.2, hm9, hA]
  exact hg
end DWX

/-! ===== String.indexOf of a text of a constant ===== -/
abbrev cJ0_indexOf_0f7a4 : ByteArray := prog_22_method_79_code
def yJ0_indexOf_0f7a4 : MethodName := ⟨RJ0, "indexOf", "(I)I"⟩
abbrev cJ0_indexOf_7cf53 : ByteArray := prog_22_method_80_code
def yJ0_indexOf_7cf53 : MethodName := ⟨RJ0, "indexOf", "(II)I"⟩
abbrev cJ1_canEncode_9a6ad : ByteArray := prog_23_method_4_code
def yJ1_canEncode_9a6ad : MethodName := ⟨RJ1, "canEncode", "(I)Z"⟩
abbrev cJ1_indexOf_4cfef : ByteArray := prog_23_method_22_code
def yJ1_indexOf_4cfef : MethodName := ⟨RJ1, "indexOf", "([BIII)I"⟩
abbrev cJ1_indexOfChar_4cfef : ByteArray := prog_23_method_23_code
def yJ1_indexOfChar_4cfef : MethodName := ⟨RJ1, "indexOfChar", "([BIII)I"⟩
theorem dJ0_indexOf_0f7a4_0 : decode cJ0_indexOf_0f7a4 0 = .ok (.aload_n 0, 1) := by decide +kernel
theorem dJ0_indexOf_0f7a4_1 : decode cJ0_indexOf_0f7a4 1 = .ok (.iload_n 1, 1) := by decide +kernel
theorem dJ0_indexOf_0f7a4_2 : decode cJ0_indexOf_0f7a4 2 = .ok (.iconst 0, 1) := by decide +kernel
theorem dJ0_indexOf_0f7a4_3 : decode cJ0_indexOf_0f7a4 3 = .ok (.invokevirtual 633, 3) := by decide +kernel
theorem dJ0_indexOf_0f7a4_6 : decode cJ0_indexOf_0f7a4 6 = .ok (.ireturn, 1) := by decide +kernel
theorem dJ0_indexOf_7cf53_0 : decode cJ0_indexOf_7cf53 0 = .ok (.aload_n 0, 1) := by decide +kernel
theorem dJ0_indexOf_7cf53_1 : decode cJ0_indexOf_7cf53 1 = .ok (.invokevirtual 492, 3) := by decide +kernel
theorem dJ0_indexOf_7cf53_4 : decode cJ0_indexOf_7cf53 4 = .ok (.ifCond .eq 19, 3) := by decide +kernel
theorem dJ0_indexOf_7cf53_7 : decode cJ0_indexOf_7cf53 7 = .ok (.aload_n 0, 1) := by decide +kernel
theorem dJ0_indexOf_7cf53_8 : decode cJ0_indexOf_7cf53 8 = .ok (.getfield 9, 3) := by decide +kernel
theorem dJ0_indexOf_7cf53_11 : decode cJ0_indexOf_7cf53 11 = .ok (.iload_n 1, 1) := by decide +kernel
theorem dJ0_indexOf_7cf53_12 : decode cJ0_indexOf_7cf53 12 = .ok (.iload_n 2, 1) := by decide +kernel
theorem dJ0_indexOf_7cf53_13 : decode cJ0_indexOf_7cf53 13 = .ok (.aload_n 0, 1) := by decide +kernel
theorem dJ0_indexOf_7cf53_14 : decode cJ0_indexOf_7cf53 14 = .ok (.invokevirtual 505, 3) := by decide +kernel
theorem dJ0_indexOf_7cf53_17 : decode cJ0_indexOf_7cf53 17 = .ok (.invokestatic 637, 3) := by decide +kernel
theorem dJ0_indexOf_7cf53_20 : decode cJ0_indexOf_7cf53 20 = .ok (.goto 16, 3) := by decide +kernel
theorem dJ0_indexOf_7cf53_23 : decode cJ0_indexOf_7cf53 23 = .ok (.aload_n 0, 1) := by decide +kernel
theorem dJ0_indexOf_7cf53_24 : decode cJ0_indexOf_7cf53 24 = .ok (.getfield 9, 3) := by decide +kernel
theorem dJ0_indexOf_7cf53_27 : decode cJ0_indexOf_7cf53 27 = .ok (.iload_n 1, 1) := by decide +kernel
theorem dJ0_indexOf_7cf53_28 : decode cJ0_indexOf_7cf53 28 = .ok (.iload_n 2, 1) := by decide +kernel
theorem dJ0_indexOf_7cf53_29 : decode cJ0_indexOf_7cf53 29 = .ok (.aload_n 0, 1) := by decide +kernel
theorem dJ0_indexOf_7cf53_30 : decode cJ0_indexOf_7cf53 30 = .ok (.invokevirtual 505, 3) := by decide +kernel
theorem dJ0_indexOf_7cf53_33 : decode cJ0_indexOf_7cf53 33 = .ok (.invokestatic 640, 3) := by decide +kernel
theorem dJ0_indexOf_7cf53_36 : decode cJ0_indexOf_7cf53 36 = .ok (.ireturn, 1) := by decide +kernel
theorem dJ1_canEncode_9a6ad_0 : decode cJ1_canEncode_9a6ad 0 = .ok (.iload_n 0, 1) := by decide +kernel
theorem dJ1_canEncode_9a6ad_1 : decode cJ1_canEncode_9a6ad 1 = .ok (.ifCond .lt 14, 3) := by decide +kernel
theorem dJ1_canEncode_9a6ad_4 : decode cJ1_canEncode_9a6ad 4 = .ok (.iload_n 0, 1) := by decide +kernel
theorem dJ1_canEncode_9a6ad_5 : decode cJ1_canEncode_9a6ad 5 = .ok (.sipush 255, 3) := by decide +kernel
theorem dJ1_canEncode_9a6ad_8 : decode cJ1_canEncode_9a6ad 8 = .ok (.if_icmp .gt 7, 3) := by decide +kernel
theorem dJ1_canEncode_9a6ad_11 : decode cJ1_canEncode_9a6ad 11 = .ok (.iconst 1, 1) := by decide +kernel
theorem dJ1_canEncode_9a6ad_12 : decode cJ1_canEncode_9a6ad 12 = .ok (.goto 4, 3) := by decide +kernel
theorem dJ1_canEncode_9a6ad_15 : decode cJ1_canEncode_9a6ad 15 = .ok (.iconst 0, 1) := by decide +kernel
theorem dJ1_canEncode_9a6ad_16 : decode cJ1_canEncode_9a6ad 16 = .ok (.ireturn, 1) := by decide +kernel
theorem dJ1_indexOf_4cfef_0 : decode cJ1_indexOf_4cfef 0 = .ok (.iload_n 1, 1) := by decide +kernel
theorem dJ1_indexOf_4cfef_1 : decode cJ1_indexOf_4cfef 1 = .ok (.invokestatic 88, 3) := by decide +kernel
theorem dJ1_indexOf_4cfef_4 : decode cJ1_indexOf_4cfef 4 = .ok (.ifCond .ne 5, 3) := by decide +kernel
theorem dJ1_indexOf_4cfef_7 : decode cJ1_indexOf_4cfef 7 = .ok (.iconst (-1), 1) := by decide +kernel
theorem dJ1_indexOf_4cfef_8 : decode cJ1_indexOf_4cfef 8 = .ok (.ireturn, 1) := by decide +kernel
theorem dJ1_indexOf_4cfef_9 : decode cJ1_indexOf_4cfef 9 = .ok (.iload_n 2, 1) := by decide +kernel
theorem dJ1_indexOf_4cfef_10 : decode cJ1_indexOf_4cfef 10 = .ok (.iconst 0, 1) := by decide +kernel
theorem dJ1_indexOf_4cfef_11 : decode cJ1_indexOf_4cfef 11 = .ok (.invokestatic 92, 3) := by decide +kernel
theorem dJ1_indexOf_4cfef_14 : decode cJ1_indexOf_4cfef 14 = .ok (.istore_n 2, 1) := by decide +kernel
theorem dJ1_indexOf_4cfef_15 : decode cJ1_indexOf_4cfef 15 = .ok (.iload_n 3, 1) := by decide +kernel
theorem dJ1_indexOf_4cfef_16 : decode cJ1_indexOf_4cfef 16 = .ok (.aload_n 0, 1) := by decide +kernel
theorem dJ1_indexOf_4cfef_17 : decode cJ1_indexOf_4cfef 17 = .ok (.arraylength, 1) := by decide +kernel
theorem dJ1_indexOf_4cfef_18 : decode cJ1_indexOf_4cfef 18 = .ok (.invokestatic 38, 3) := by decide +kernel
theorem dJ1_indexOf_4cfef_21 : decode cJ1_indexOf_4cfef 21 = .ok (.istore_n 3, 1) := by decide +kernel
theorem dJ1_indexOf_4cfef_22 : decode cJ1_indexOf_4cfef 22 = .ok (.iload_n 2, 1) := by decide +kernel
theorem dJ1_indexOf_4cfef_23 : decode cJ1_indexOf_4cfef 23 = .ok (.iload_n 3, 1) := by decide +kernel
theorem dJ1_indexOf_4cfef_24 : decode cJ1_indexOf_4cfef 24 = .ok (.if_icmp .lt 5, 3) := by decide +kernel
theorem dJ1_indexOf_4cfef_27 : decode cJ1_indexOf_4cfef 27 = .ok (.iconst (-1), 1) := by decide +kernel
theorem dJ1_indexOf_4cfef_28 : decode cJ1_indexOf_4cfef 28 = .ok (.ireturn, 1) := by decide +kernel
theorem dJ1_indexOf_4cfef_29 : decode cJ1_indexOf_4cfef 29 = .ok (.aload_n 0, 1) := by decide +kernel
theorem dJ1_indexOf_4cfef_30 : decode cJ1_indexOf_4cfef 30 = .ok (.iload_n 1, 1) := by decide +kernel
theorem dJ1_indexOf_4cfef_31 : decode cJ1_indexOf_4cfef 31 = .ok (.iload_n 2, 1) := by decide +kernel
theorem dJ1_indexOf_4cfef_32 : decode cJ1_indexOf_4cfef 32 = .ok (.iload_n 3, 1) := by decide +kernel
theorem dJ1_indexOf_4cfef_33 : decode cJ1_indexOf_4cfef 33 = .ok (.invokestatic 95, 3) := by decide +kernel
theorem dJ1_indexOf_4cfef_36 : decode cJ1_indexOf_4cfef 36 = .ok (.ireturn, 1) := by decide +kernel
theorem dJ1_indexOfChar_4cfef_0 : decode cJ1_indexOfChar_4cfef 0 = .ok (.iload_n 1, 1) := by decide +kernel
theorem dJ1_indexOfChar_4cfef_1 : decode cJ1_indexOfChar_4cfef 1 = .ok (.i2b, 1) := by decide +kernel
theorem dJ1_indexOfChar_4cfef_2 : decode cJ1_indexOfChar_4cfef 2 = .ok (.istore 4, 2) := by decide +kernel
theorem dJ1_indexOfChar_4cfef_4 : decode cJ1_indexOfChar_4cfef 4 = .ok (.iload_n 2, 1) := by decide +kernel
theorem dJ1_indexOfChar_4cfef_5 : decode cJ1_indexOfChar_4cfef 5 = .ok (.istore 5, 2) := by decide +kernel
theorem dJ1_indexOfChar_4cfef_7 : decode cJ1_indexOfChar_4cfef 7 = .ok (.iload 5, 2) := by decide +kernel
theorem dJ1_indexOfChar_4cfef_9 : decode cJ1_indexOfChar_4cfef 9 = .ok (.iload_n 3, 1) := by decide +kernel
theorem dJ1_indexOfChar_4cfef_10 : decode cJ1_indexOfChar_4cfef 10 = .ok (.if_icmp .ge 21, 3) := by decide +kernel
theorem dJ1_indexOfChar_4cfef_13 : decode cJ1_indexOfChar_4cfef 13 = .ok (.aload_n 0, 1) := by decide +kernel
theorem dJ1_indexOfChar_4cfef_14 : decode cJ1_indexOfChar_4cfef 14 = .ok (.iload 5, 2) := by decide +kernel
theorem dJ1_indexOfChar_4cfef_16 : decode cJ1_indexOfChar_4cfef 16 = .ok (.baload, 1) := by decide +kernel
theorem dJ1_indexOfChar_4cfef_17 : decode cJ1_indexOfChar_4cfef 17 = .ok (.iload 4, 2) := by decide +kernel
theorem dJ1_indexOfChar_4cfef_19 : decode cJ1_indexOfChar_4cfef 19 = .ok (.if_icmp .ne 6, 3) := by decide +kernel
theorem dJ1_indexOfChar_4cfef_22 : decode cJ1_indexOfChar_4cfef 22 = .ok (.iload 5, 2) := by decide +kernel
theorem dJ1_indexOfChar_4cfef_24 : decode cJ1_indexOfChar_4cfef 24 = .ok (.ireturn, 1) := by decide +kernel
theorem dJ1_indexOfChar_4cfef_25 : decode cJ1_indexOfChar_4cfef 25 = .ok (.iinc 5 1, 3) := by decide +kernel
theorem dJ1_indexOfChar_4cfef_28 : decode cJ1_indexOfChar_4cfef 28 = .ok (.goto (-21), 3) := by decide +kernel
theorem dJ1_indexOfChar_4cfef_31 : decode cJ1_indexOfChar_4cfef 31 = .ok (.iconst (-1), 1) := by decide +kernel
theorem dJ1_indexOfChar_4cfef_32 : decode cJ1_indexOfChar_4cfef 32 = .ok (.ireturn, 1) := by decide +kernel
def dTI : List Cond := dTJ ++ [.code yJ0_indexOf_0f7a4 cJ0_indexOf_0f7a4 2 (some .int), .instanceMethod yJ0_indexOf_0f7a4, .selects RJ0 yJ0_indexOf_0f7a4 yJ0_indexOf_0f7a4, .methodLink RJ0 633 yJ0_indexOf_7cf53, .instanceMethod yJ0_indexOf_7cf53, .selects RJ0 yJ0_indexOf_7cf53 yJ0_indexOf_7cf53, .code yJ0_indexOf_7cf53 cJ0_indexOf_7cf53 3 (some .int), .methodLink RJ0 505 yJ0_length_8abf5, .methodLink RJ0 637 yJ1_indexOf_4cfef, .static yJ1_indexOf_4cfef, .code yJ1_indexOf_4cfef cJ1_indexOf_4cfef 4 (some .int), .methodLink RJ1 92 Lib.Math.max.name, .static Lib.Math.max.name, .initialized "java/lang/Math", .code Lib.Math.max.name Lib.Math.max.code 2 (some .int), .methodLink RJ1 38 Lib.Math.min.name, .static Lib.Math.min.name, .code Lib.Math.min.name Lib.Math.min.code 2 (some .int), .methodLink RJ1 88 yJ1_canEncode_9a6ad, .static yJ1_canEncode_9a6ad, .code yJ1_canEncode_9a6ad cJ1_canEncode_9a6ad 1 (some .boolean), .methodLink RJ1 95 yJ1_indexOfChar_4cfef, .static yJ1_indexOfChar_4cfef, .code yJ1_indexOfChar_4cfef cJ1_indexOfChar_4cfef 6 (some .int)]
theorem dTI_good : dTI.all goodWord = true := by decide +kernel
theorem dTI_j {w : Cond} (h : w ∈ dTJ) : w ∈ dTI := List.mem_append.mpr (Or.inl h)
theorem dGI2 {Ts : List Cond} {k : Cond} (hT : ∀ w ∈ dTI, w ∈ Ts) (hk : k ∈ dTI) : GoodIn Ts (k :: dTI) := by
  intro w hw
  have h : w ∈ dTI := by
    rcases List.mem_cons.mp hw with rfl | h
    · exact hk
    · exact h
  exact ⟨hT w h, good_of_word (List.all_eq_true.mp dTI_good w h)⟩
/-- the place of the first byte t, from i on, n places -/
def dIx (B : List Int32) (t : Int32) : Nat → Nat → Int32
  | 0, _ => -1
  | n + 1, i => if B.getD i 0 = t then Int32.ofNat i else dIx B t n (i + 1)
section JI
variable (l : Launch) {A : Nat → Prop} {N : Nat} {len : List Nat} {byt : List (List Int32)} {adK adV : Nat → Nat}
theorem jt_canE {i : Int32} : Met l yJ1_canEncode_9a6ad (Cond.code yJ1_canEncode_9a6ad cJ1_canEncode_9a6ad 1 (some .boolean) :: dTI) (k2_rm 0 0) (va_Pc [.int i] (fun U => dTxt A N len byt adK adV U U.heap)) (dQp (some (.int (if i < 0 ∨ 255 < i then 0 else 1)))) 0 0 (fun _ => False) := by
  refine Met.ofW (cc := cJ1_canEncode_9a6ad) (maxL := 1) (ret := some .boolean) (by decide) rfl ?_
  intro p e s m args below meth c s₁ B hml hv
  obtain ⟨rfl, hT⟩ := hv
  have hx := B.exec
  have hb := B.bytes
  have hr := B.returns
  have hlocks := B.notSynchronized
  have hl := lv_entry ([.int i]) (n := 1) (Nat.le_of_ble_eq_true rfl)
  rw [lg_entry_eq]
  generalize (lg_sl ([.int i]) ++ List.replicate (1 - (lg_sl ([.int i])).length) Slot.unset).toArray = ls at hl ⊢
  have hl : lv_has ls 1 [(0, .int i)] := hl
  refine lv_iload_n hx hb dJ1_canEncode_9a6ad_0 rfl (lv_at hl 0 rfl) ?_
  refine lv_if_lt (tgt := 15) hx hb dJ1_canEncode_9a6ad_1 (by decide) (fun h => ?_) (fun h => ?_)
  · refine lv_iconst (v := 0) hx hb dJ1_canEncode_9a6ad_15 (by decide) ?_
    refine W.zret hx hb hr (by decide) (fun t ht hW => ⟨?_, ht⟩) (fun _ h => by cases h) dJ1_canEncode_9a6ad_16 hlocks
    rw [if_pos (Or.inl h)]
  · refine lv_iload_n hx hb dJ1_canEncode_9a6ad_4 rfl (lv_at hl 0 rfl) ?_
    refine lv_sipush (v := 255) hx hb dJ1_canEncode_9a6ad_5 (by decide) ?_
    refine lv_icmp_gt (tgt := 15) hx hb dJ1_canEncode_9a6ad_8 (by decide) (fun h2 => ?_) (fun h2 => ?_)
    · refine lv_iconst (v := 0) hx hb dJ1_canEncode_9a6ad_15 (by decide) ?_
      refine W.zret hx hb hr (by decide) (fun t ht hW => ⟨?_, ht⟩) (fun _ h => by cases h) dJ1_canEncode_9a6ad_16 hlocks
      rw [if_pos (Or.inr h2)]
    · refine lv_iconst (v := 1) hx hb dJ1_canEncode_9a6ad_11 (by decide) ?_
      refine lv_goto (tgt := 16) hx hb dJ1_canEncode_9a6ad_12 (by decide) ?_
      refine W.zret hx hb hr (by decide) (fun t ht hW => ⟨?_, ht⟩) (fun _ h => by cases h) dJ1_canEncode_9a6ad_16 hlocks
      rw [if_neg (fun z => z.elim h h2)]
theorem jt_iChar {z : Nat} (hz : z < N) {i t : Int32} (ht : i.toInt8.toInt32 = t) (hn : len.getD z 0 < 2147483648) : Met l yJ1_indexOfChar_4cfef (Cond.code yJ1_indexOfChar_4cfef cJ1_indexOfChar_4cfef 6 (some .int) :: dTI) (k2_rm 0 0) (va_Pc [.ref (adV z), .int i, .int 0, .int (Int32.ofNat (len.getD z 0))] (fun U => dTxt A N len byt adK adV U U.heap)) (dQp (some (.int (dIx (byt.getD z []) t (len.getD z 0) 0)))) 0 0 (fun _ => False) := by
  refine Met.ofW (cc := cJ1_indexOfChar_4cfef) (maxL := 6) (ret := some .int) (by decide) rfl ?_
  intro p e s m args below meth c s₁ B hml hv
  obtain ⟨rfl, hT⟩ := hv
  obtain ⟨hZ, hQ, hE⟩ := id hT
  have hx := B.exec
  have hb := B.bytes
  have hr := B.returns
  have hlocks := B.notSynchronized
  have hS : va_S A s.heap s.heap [] := va_S.rf
  have hl := lv_entry ([.ref (adV z), .int i, .int 0, .int (Int32.ofNat (len.getD z 0))]) (n := 6) (Nat.le_of_ble_eq_true rfl)
  rw [lg_entry_eq]
  generalize (lg_sl ([.ref (adV z), .int i, .int 0, .int (Int32.ofNat (len.getD z 0))]) ++ List.replicate (6 - (lg_sl ([.ref (adV z), .int i, .int 0, .int (Int32.ofNat (len.getD z 0))])).length) Slot.unset).toArray = ls at hl ⊢
  have hl : lv_has ls 6 [(0, .ref (adV z)), (1, .int i), (2, .int 0), (3, .int (Int32.ofNat (len.getD z 0)))] := hl
  refine lv_iload_n hx hb dJ1_indexOfChar_4cfef_0 rfl (lv_at hl 1 rfl) ?_
  refine lv_i2b (v := t) hx hb dJ1_indexOfChar_4cfef_1 ht ?_
  refine lv_istore hx hb dJ1_indexOfChar_4cfef_2 hl (by decide) rfl fun ls1 hl1 => ?_
  have hl1 : lv_has ls1 6 [(4, .int t), (0, .ref (adV z)), (1, .int i), (2, .int 0), (3, .int (Int32.ofNat (len.getD z 0)))] := hl1
  refine lv_iload_n hx hb dJ1_indexOfChar_4cfef_4 rfl (lv_at hl1 3 rfl) ?_
  refine lv_istore hx hb dJ1_indexOfChar_4cfef_5 hl1 (by decide) rfl fun ls2 hl2 => ?_
  have hl2 : lv_has ls2 6 [(5, .int (Int32.ofNat 0)), (4, .int t), (0, .ref (adV z)), (1, .int i), (2, .int 0), (3, .int (Int32.ofNat (len.getD z 0)))] := hl2
  have loop : ∀ (n k : Nat) (ls : Array Slot), k + n = len.getD z 0 → lv_has ls 6 [(5, .int (Int32.ofNat k)), (4, .int t), (0, .ref (adV z)), (1, .int i), (2, .int 0), (3, .int (Int32.ofNat (len.getD z 0)))] → W p l e (headSpec (Cond.code yJ1_indexOfChar_4cfef cJ1_indexOfChar_4cfef 6 (some .int) :: dTI) (k2_rm 0 0)).room s m ([Value.ref (adV z), .int i, .int 0, .int (Int32.ofNat (len.getD z 0))]).toArray below meth c s.heap [] 0 0 (MQ below (dQp (some (.int (dIx (byt.getD z []) t n k)))) ([Value.ref (adV z), .int i, .int 0, .int (Int32.ofNat (len.getD z 0))]).toArray s 0 0 (fun _ => False)) (F0 m 7 ls []) := by
    intro n
    induction n with
    | zero =>
      intro k ls hk hl
      refine lv_iload hx hb dJ1_indexOfChar_4cfef_7 (lv_at hl 0 rfl) ?_
      refine lv_iload_n hx hb dJ1_indexOfChar_4cfef_9 rfl (lv_at hl 5 rfl) ?_
      refine lv_icmp_ge (tgt := 31) hx hb dJ1_indexOfChar_4cfef_10 (by decide) (fun _ => ?_) (fun h => absurd ?_ h)
      · refine lv_iconst (v := -1) hx hb dJ1_indexOfChar_4cfef_31 (by decide) ?_
        exact W.iret hx hb hr (fun t ht hW => ⟨rfl, ht⟩) (fun _ h => by cases h) dJ1_indexOfChar_4cfef_32 hlocks
      · rw [show k = len.getD z 0 by omega]; exact Int32.le_refl _
    | succ n ih =>
      intro k ls hk hl
      refine lv_iload hx hb dJ1_indexOfChar_4cfef_7 (lv_at hl 0 rfl) ?_
      refine lv_iload_n hx hb dJ1_indexOfChar_4cfef_9 rfl (lv_at hl 5 rfl) ?_
      refine lv_icmp_ge (tgt := 31) hx hb dJ1_indexOfChar_4cfef_10 (by decide) (fun h => ?_) (fun _ => ?_)
      · exfalso
        rw [Int32.le_iff_toInt_le, di_iv, di_iv] at h
        split at h <;> split at h <;> omega
      · refine lv_aload_n hx hb dJ1_indexOfChar_4cfef_13 rfl (lv_at hl 2 rfl) ?_
        refine lv_iload hx hb dJ1_indexOfChar_4cfef_14 (lv_at hl 0 rfl) ?_
        have hkc : (Int32.ofNat k).toNatClampNeg = k := by
          show (Int32.ofNat k).toInt.toNat = k
          rw [di_iv]
          split <;> omega
        have hin : vp_in (Int32.ofNat k) (len.getD z 0) := by
          intro h
          rcases h with h | h
          · rw [Int32.lt_iff_toInt_lt, di_iv] at h
            have : (0 : Int32).toInt = 0 := by decide
            rw [this] at h
            split at h <;> omega
          · rw [hkc] at h; omega
        refine va_tb (v := .int ((byt.getD z []).getD k 0)) hx hb (hE.1 z hz).2.2.2 hS hin (by rw [hkc]) dJ1_indexOfChar_4cfef_16 ?_
        refine lv_iload hx hb dJ1_indexOfChar_4cfef_17 (lv_at hl 1 rfl) ?_
        refine lv_icmp_ne (tgt := 25) hx hb dJ1_indexOfChar_4cfef_19 (by decide) (fun h => ?_) (fun h => ?_)
        · refine lv_iinc (k := 0) (v := Int32.ofNat (k + 1)) hx hb dJ1_indexOfChar_4cfef_25 hl rfl (by
            show Int32.ofNat k + Int32.ofNat 1 = _
            rw [di_add]
            exact di_imod _) (by decide) rfl fun ls3 hl3 => ?_
          refine lv_goto (tgt := 7) hx hb dJ1_indexOfChar_4cfef_28 (by decide) ?_
          have g := ih (k + 1) ls3 (by omega) hl3
          rw [show dIx (byt.getD z []) t (n + 1) k = dIx (byt.getD z []) t n (k + 1) from by show (if _ then _ else _) = _; rw [if_neg h]]
          exact g
        · refine lv_iload hx hb dJ1_indexOfChar_4cfef_22 (lv_at hl 0 rfl) ?_
          rw [show dIx (byt.getD z []) t (n + 1) k = Int32.ofNat k from by show (if _ then _ else _) = _; rw [if_pos h]]
          exact W.iret hx hb hr (fun t ht hW => ⟨rfl, ht⟩) (fun _ h => by cases h) dJ1_indexOfChar_4cfef_24 hlocks
  exact loop _ 0 ls2 (by omega) hl2
/-- what indexOf answers -/
def dIxF (B : List Int32) (n : Nat) (i : Int32) : Int32 := if i < 0 ∨ 255 < i then -1 else dIx B i.toInt8.toInt32 n 0
theorem jt_iLat {z : Nat} (hz : z < N) {i : Int32} (hn : len.getD z 0 < 2147483648) : Met l yJ1_indexOf_4cfef (Cond.code yJ1_indexOf_4cfef cJ1_indexOf_4cfef 4 (some .int) :: dTI) (k2_rm 1 60) (va_Pc [.ref (adV z), .int i, .int 0, .int (Int32.ofNat (len.getD z 0))] (fun U => dTxt A N len byt adK adV U U.heap)) (dQp (some (.int (dIxF (byt.getD z []) (len.getD z 0) i)))) 0 0 (fun _ => False) := by
  refine Met.ofW (cc := cJ1_indexOf_4cfef) (maxL := 4) (ret := some .int) (by decide) rfl ?_
  intro p e s m args below meth c s₁ B hml hv
  obtain ⟨rfl, hT⟩ := hv
  obtain ⟨hZ, hQ, hE⟩ := id hT
  have hx := B.exec
  have hb := B.bytes
  have hr := B.returns
  have hts := atoms_spec (ws := Cond.code yJ1_indexOf_4cfef cJ1_indexOf_4cfef 4 (some .int) :: dTI) B.pre
  have hown : s.vm.findClass RJ1 = some m.cls := findClass_of_methodNamed B.named
  have hlocks := B.notSynchronized
  have hS : va_S A s.heap s.heap [] := va_S.rf
  have hl := lv_entry ([.ref (adV z), .int i, .int 0, .int (Int32.ofNat (len.getD z 0))]) (n := 4) (Nat.le_of_ble_eq_true rfl)
  rw [lg_entry_eq]
  generalize (lg_sl ([.ref (adV z), .int i, .int 0, .int (Int32.ofNat (len.getD z 0))]) ++ List.replicate (4 - (lg_sl ([.ref (adV z), .int i, .int 0, .int (Int32.ofNat (len.getD z 0))])).length) Slot.unset).toArray = ls at hl ⊢
  have hl : lv_has ls 4 [(0, .ref (adV z)), (1, .int i), (2, .int 0), (3, .int (Int32.ofNat (len.getD z 0)))] := hl
  refine lv_iload_n hx hb dJ1_indexOf_4cfef_0 rfl (lv_at hl 1 rfl) ?_
  have cb := callB_of (R := k2_rm 1 60) (own := RJ1) (index := 88) (y := yJ1_canEncode_9a6ad) (rm := k2_rm 0 0) 1 hts (dGI2 (k := Cond.code yJ1_canEncode_9a6ad cJ1_canEncode_9a6ad 1 (some .boolean)) (fun w h => List.mem_cons_of_mem _ h) (by decide +kernel)) rfl rfl rfl (hts (.initialized RJ1) (by decide +kernel)) (hts (.methodLink RJ1 88 yJ1_canEncode_9a6ad) (by decide +kernel)) ⟨by decide, by decide, by decide +kernel⟩ ⟨by decide, by decide⟩
  refine dt_after (va_runS (As := [.int i]) (rest := []) ⟨hx, hb, hml, hown, hts⟩ (jt_canE l (A := A) (N := N) (len := len) (byt := byt) (adK := adK) (adV := adV)) ⟨cb, hts (.static yJ1_canEncode_9a6ad) (by decide +kernel)⟩ ⟨dTblind, fun U hU hW => ⟨rfl, by show dTxt A N len byt adK adV U U.heap; rw [hU]; exact hT.moved hW.alike⟩⟩ rfl rfl hl.1 rfl (lv_room (Nat.le_of_ble_eq_true rfl)) dJ1_indexOf_4cfef_1 ⟨Nat.le_refl _, Nat.le_refl _⟩) ?_
  have key : W p l e (headSpec (Cond.code yJ1_indexOf_4cfef cJ1_indexOf_4cfef 4 (some .int) :: dTI) (k2_rm 1 60)).room s m ([Value.ref (adV z), .int i, .int 0, .int (Int32.ofNat (len.getD z 0))]).toArray below meth c s.heap [] 0 0 (MQ below (dQp (some (.int (dIx (byt.getD z []) i.toInt8.toInt32 (len.getD z 0) 0)))) ([Value.ref (adV z), .int i, .int 0, .int (Int32.ofNat (len.getD z 0))]).toArray s 0 0 (fun _ => False)) (F0 m 9 ls []) := by
    refine lv_iload_n hx hb dJ1_indexOf_4cfef_9 rfl (lv_at hl 2 rfl) ?_
    refine lv_iconst (v := 0) hx hb dJ1_indexOf_4cfef_10 (by decide) ?_
    refine va_mmax hx hb (hml.trans hl.1.symm) hown (hts (.methodLink RJ1 92 Lib.Math.max.name) (by decide +kernel)) (hts (.static Lib.Math.max.name) (by decide +kernel)) (hts (.initialized "java/lang/Math") (by decide +kernel)) (hts (.code Lib.Math.max.name Lib.Math.max.code 2 (some .int)) (by decide +kernel)) (by decide) (by decide) (Nat.zero_le _) (Nat.zero_le _) dJ1_indexOf_4cfef_11 ?_
    rw [show (if (0 : Int32) < 0 then (0 : Int32) else 0) = 0 from by decide]
    refine lv_istore_n (i := 2) hx hb dJ1_indexOf_4cfef_14 rfl hl (by decide) rfl fun ls1 hl1 => ?_
    have hl1 : lv_has ls1 4 [(2, .int 0), (0, .ref (adV z)), (1, .int i), (3, .int (Int32.ofNat (len.getD z 0)))] := hl1
    refine lv_iload_n hx hb dJ1_indexOf_4cfef_15 rfl (lv_at hl1 3 rfl) ?_
    refine lv_aload_n hx hb dJ1_indexOf_4cfef_16 rfl (lv_at hl1 1 rfl) ?_
    refine va_tlen hx hb (hE.1 z hz).2.2.2 hS rfl dJ1_indexOf_4cfef_17 ?_
    refine va_mmin hx hb (hml.trans hl1.1.symm) hown (hts (.methodLink RJ1 38 Lib.Math.min.name) (by decide +kernel)) (hts (.static Lib.Math.min.name) (by decide +kernel)) (hts (.initialized "java/lang/Math") (by decide +kernel)) (hts (.code Lib.Math.min.name Lib.Math.min.code 2 (some .int)) (by decide +kernel)) (by decide) (by decide) (Nat.zero_le _) (Nat.zero_le _) dJ1_indexOf_4cfef_18 ?_
    rw [ite_self]
    refine lv_istore_n (i := 3) hx hb dJ1_indexOf_4cfef_21 rfl hl1 (by decide) rfl fun ls2 hl2 => ?_
    have hl2 : lv_has ls2 4 [(3, .int (Int32.ofNat (len.getD z 0))), (2, .int 0), (0, .ref (adV z)), (1, .int i)] := hl2
    refine lv_iload_n hx hb dJ1_indexOf_4cfef_22 rfl (lv_at hl2 1 rfl) ?_
    refine lv_iload_n hx hb dJ1_indexOf_4cfef_23 rfl (lv_at hl2 0 rfl) ?_
    refine lv_icmp_lt (tgt := 29) hx hb dJ1_indexOf_4cfef_24 (by decide) (fun _ => ?_) (fun h => ?_)
    · refine lv_aload_n hx hb dJ1_indexOf_4cfef_29 rfl (lv_at hl2 2 rfl) ?_
      refine lv_iload_n hx hb dJ1_indexOf_4cfef_30 rfl (lv_at hl2 3 rfl) ?_
      refine lv_iload_n hx hb dJ1_indexOf_4cfef_31 rfl (lv_at hl2 1 rfl) ?_
      refine lv_iload_n hx hb dJ1_indexOf_4cfef_32 rfl (lv_at hl2 0 rfl) ?_
      have cb2 := callB_of (R := k2_rm 1 60) (own := RJ1) (index := 95) (y := yJ1_indexOfChar_4cfef) (rm := k2_rm 0 0) 4 hts (dGI2 (k := Cond.code yJ1_indexOfChar_4cfef cJ1_indexOfChar_4cfef 6 (some .int)) (fun w h => List.mem_cons_of_mem _ h) (by decide +kernel)) rfl rfl rfl (hts (.initialized RJ1) (by decide +kernel)) (hts (.methodLink RJ1 95 yJ1_indexOfChar_4cfef) (by decide +kernel)) ⟨by decide, by decide, by decide +kernel⟩ ⟨by decide, by decide⟩
      refine dt_after (va_runS (As := [.ref (adV z), .int i, .int 0, .int (Int32.ofNat (len.getD z 0))]) (rest := []) ⟨hx, hb, hml, hown, hts⟩ (jt_iChar l (A := A) (N := N) (len := len) (byt := byt) (adK := adK) (adV := adV) hz rfl hn) ⟨cb2, hts (.static yJ1_indexOfChar_4cfef) (by decide +kernel)⟩ ⟨dTblind, fun U hU hW => ⟨rfl, by show dTxt A N len byt adK adV U U.heap; rw [hU]; exact hT.moved hW.alike⟩⟩ rfl rfl hl2.1 rfl (lv_room (Nat.le_of_ble_eq_true rfl)) dJ1_indexOf_4cfef_33 ⟨Nat.le_refl _, Nat.le_refl _⟩) ?_
      exact W.iret hx hb hr (fun t ht hW => ⟨rfl, ht⟩) (fun _ h => by cases h) dJ1_indexOf_4cfef_36 hlocks
    · have h0 : len.getD z 0 = 0 := by
        rw [Int32.lt_iff_toInt_lt, di_iv] at h
        have : (0 : Int32).toInt = 0 := by decide
        rw [this] at h
        split at h <;> omega
      refine lv_iconst (v := -1) hx hb dJ1_indexOf_4cfef_27 (by decide) ?_
      refine W.iret hx hb hr (fun t ht hW => ⟨?_, ht⟩) (fun _ h => by cases h) dJ1_indexOf_4cfef_28 hlocks
      rw [h0]; rfl
  by_cases hi : i < 0 ∨ 255 < i
  · rw [if_pos hi]
    refine lv_if_ne (tgt := 9) (rest := []) hx hb dJ1_indexOf_4cfef_4 (by decide) (fun h => absurd rfl h) (fun _ => ?_)
    refine lv_iconst (v := -1) hx hb dJ1_indexOf_4cfef_7 (by decide) ?_
    refine W.iret hx hb hr (fun t ht hW => ⟨?_, ht⟩) (fun _ h => by cases h) dJ1_indexOf_4cfef_8 hlocks
    rw [dIxF, if_pos hi]
  · rw [if_neg hi]
    refine lv_if_ne (tgt := 9) (rest := []) hx hb dJ1_indexOf_4cfef_4 (by decide) (fun _ => ?_) (fun h => absurd h (by decide))
    rw [dIxF, if_neg hi]
    exact key
theorem jt_iOf2 {z : Nat} (hz : z < N) {i : Int32} (hn : len.getD z 0 < 2147483648) : Met l yJ0_indexOf_7cf53 (Cond.code yJ0_indexOf_7cf53 cJ0_indexOf_7cf53 3 (some .int) :: dTI) (k2_rm 2 100) (va_Pc [.ref (adK z), .int i, .int 0] (fun U => dTxt A N len byt adK adV U U.heap)) (dQp (some (.int (dIxF (byt.getD z []) (len.getD z 0) i)))) 0 0 (fun _ => False) := by
  refine Met.ofW (cc := cJ0_indexOf_7cf53) (maxL := 3) (ret := some .int) (by decide) rfl ?_
  intro p e s m args below meth c s₁ B hml hv
  obtain ⟨rfl, hT⟩ := hv
  obtain ⟨hZ, hQ, hE⟩ := id hT
  have hx := B.exec
  have hb := B.bytes
  have hr := B.returns
  have hts := atoms_spec (ws := Cond.code yJ0_indexOf_7cf53 cJ0_indexOf_7cf53 3 (some .int) :: dTI) B.pre
  have hown : s.vm.findClass RJ0 = some m.cls := findClass_of_methodNamed B.named
  have hlocks := B.notSynchronized
  have hS : va_S A s.heap s.heap [] := va_S.rf
  have hl := lv_entry ([.ref (adK z), .int i, .int 0]) (n := 3) (Nat.le_of_ble_eq_true rfl)
  rw [lg_entry_eq]
  generalize (lg_sl ([.ref (adK z), .int i, .int 0]) ++ List.replicate (3 - (lg_sl ([.ref (adK z), .int i, .int 0])).length) Slot.unset).toArray = ls at hl ⊢
  have hl : lv_has ls 3 [(0, .ref (adK z)), (1, .int i), (2, .int 0)] := hl
  refine lv_aload_n hx hb dJ0_indexOf_7cf53_0 rfl (lv_at hl 0 rfl) ?_
  have cb := callB_of (R := k2_rm 2 100) (own := RJ0) (index := 492) (y := yJ0_isLatin1_aae02) (rm := k2_rm 0 0) 0 hts (dGJ (k := Cond.code yJ0_isLatin1_aae02 cJ0_isLatin1_aae02 1 (some .boolean)) (fun w h => List.mem_cons_of_mem _ (dTI_j h)) (by decide +kernel)) rfl rfl rfl (hts (.initialized RJ0) (by decide +kernel)) (hts (.methodLink RJ0 492 yJ0_isLatin1_aae02) (by decide +kernel)) ⟨by decide, by decide, by decide +kernel⟩ ⟨by decide, by decide⟩
  refine dt_after (va_runV (C := RJ0) (b := adK z) (As := []) (rest := []) ⟨hx, hb, hml, hown, hts⟩ (jt_isLatin1 l (A := A) (N := N) (len := len) (byt := byt) (adK := adK) (adV := adV) hz) ⟨cb, hts (.instanceMethod yJ0_isLatin1_aae02) (by decide +kernel), hts (.selects RJ0 yJ0_isLatin1_aae02 yJ0_isLatin1_aae02) (by decide +kernel)⟩ ⟨dTblind, dVS_recv hE hz hS, fun U hU hW => ⟨rfl, by show dTxt A N len byt adK adV U U.heap; rw [hU]; exact hT.moved hW.alike⟩⟩ rfl rfl hl.1 rfl (lv_room (Nat.le_of_ble_eq_true rfl)) dJ0_indexOf_7cf53_1 ⟨Nat.le_refl _, Nat.le_refl _⟩) ?_
  refine lv_if_eq (tgt := 23) (rest := []) hx hb dJ0_indexOf_7cf53_4 (by decide) (fun h => absurd h (by decide)) (fun _ => ?_)
  refine lv_aload_n hx hb dJ0_indexOf_7cf53_7 rfl (lv_at hl 0 rfl) ?_
  refine vk_getf hx hb (hE.1 z hz).2.2.1 hS hown (hts (.fieldLink RJ0 9 "java/lang/String" "value" "[B") (by decide +kernel)) (fun _ h => h) dJ0_indexOf_7cf53_8 ?_
  refine lv_iload_n hx hb dJ0_indexOf_7cf53_11 rfl (lv_at hl 1 rfl) ?_
  refine lv_iload_n hx hb dJ0_indexOf_7cf53_12 rfl (lv_at hl 2 rfl) ?_
  refine lv_aload_n hx hb dJ0_indexOf_7cf53_13 rfl (lv_at hl 0 rfl) ?_
  have cb2 := callB_of (R := k2_rm 2 100) (own := RJ0) (index := 505) (y := yJ0_length_8abf5) (rm := k2_rm 1 22) 0 hts (dGJ (k := Cond.code yJ0_length_8abf5 cJ0_length_8abf5 1 (some .int)) (fun w h => List.mem_cons_of_mem _ (dTI_j h)) (by decide +kernel)) rfl rfl rfl (hts (.initialized RJ0) (by decide +kernel)) (hts (.methodLink RJ0 505 yJ0_length_8abf5) (by decide +kernel)) ⟨by decide, by decide, by decide +kernel⟩ ⟨by decide, by decide⟩
  refine dt_after (va_runV (C := RJ0) (b := adK z) (As := []) (rest := [.int 0, .int i, .ref (adV z)]) ⟨hx, hb, hml, hown, hts⟩ (jt_length l (A := A) (N := N) (len := len) (byt := byt) (adK := adK) (adV := adV) hz) ⟨cb2, hts (.instanceMethod yJ0_length_8abf5) (by decide +kernel), hts (.selects RJ0 yJ0_length_8abf5 yJ0_length_8abf5) (by decide +kernel)⟩ ⟨dTblind, dVS_recv hE hz hS, fun U hU hW => ⟨rfl, by show dTxt A N len byt adK adV U U.heap; rw [hU]; exact hT.moved hW.alike⟩⟩ rfl rfl hl.1 rfl (lv_room (Nat.le_of_ble_eq_true rfl)) dJ0_indexOf_7cf53_14 ⟨Nat.le_refl _, Nat.le_refl _⟩) ?_
  have cb3 := callB_of (R := k2_rm 2 100) (own := RJ0) (index := 637) (y := yJ1_indexOf_4cfef) (rm := k2_rm 1 60) 4 hts (dGI2 (k := Cond.code yJ1_indexOf_4cfef cJ1_indexOf_4cfef 4 (some .int)) (fun w h => List.mem_cons_of_mem _ h) (by decide +kernel)) rfl rfl rfl (hts (.initialized RJ1) (by decide +kernel)) (hts (.methodLink RJ0 637 yJ1_indexOf_4cfef) (by decide +kernel)) ⟨by decide, by decide, by decide +kernel⟩ ⟨by decide, by decide⟩
  refine dt_after (va_runS (As := [.ref (adV z), .int i, .int 0, .int (Int32.ofNat (len.getD z 0))]) (rest := []) ⟨hx, hb, hml, hown, hts⟩ (jt_iLat l (A := A) (N := N) (len := len) (byt := byt) (adK := adK) (adV := adV) hz hn) ⟨cb3, hts (.static yJ1_indexOf_4cfef) (by decide +kernel)⟩ ⟨dTblind, fun U hU hW => ⟨rfl, by show dTxt A N len byt adK adV U U.heap; rw [hU]; exact hT.moved hW.alike⟩⟩ rfl rfl hl.1 rfl (lv_room (Nat.le_of_ble_eq_true rfl)) dJ0_indexOf_7cf53_17 ⟨Nat.le_refl _, Nat.le_refl _⟩) ?_
  refine lv_goto (tgt := 36) hx hb dJ0_indexOf_7cf53_20 (by decide) ?_
  exact W.iret hx hb hr (fun t ht hW => ⟨rfl, ht⟩) (fun _ h => by cases h) dJ0_indexOf_7cf53_36 hlocks
theorem jt_iOf {z : Nat} (hz : z < N) {i : Int32} (hn : len.getD z 0 < 2147483648) : Met l yJ0_indexOf_0f7a4 (Cond.code yJ0_indexOf_0f7a4 cJ0_indexOf_0f7a4 2 (some .int) :: dTI) (k2_rm 3 140) (va_Pc [.ref (adK z), .int i] (fun U => dTxt A N len byt adK adV U U.heap)) (dQp (some (.int (dIxF (byt.getD z []) (len.getD z 0) i)))) 0 0 (fun _ => False) := by
  refine Met.ofW (cc := cJ0_indexOf_0f7a4) (maxL := 2) (ret := some .int) (by decide) rfl ?_
  intro p e s m args below meth c s₁ B hml hv
  obtain ⟨rfl, hT⟩ := hv
  obtain ⟨hZ, hQ, hE⟩ := id hT
  have hx := B.exec
  have hb := B.bytes
  have hr := B.returns
  have hts := atoms_spec (ws := Cond.code yJ0_indexOf_0f7a4 cJ0_indexOf_0f7a4 2 (some .int) :: dTI) B.pre
  have hown : s.vm.findClass RJ0 = some m.cls := findClass_of_methodNamed B.named
  have hlocks := B.notSynchronized
  have hS : va_S A s.heap s.heap [] := va_S.rf
  have hl := lv_entry ([.ref (adK z), .int i]) (n := 2) (Nat.le_of_ble_eq_true rfl)
  rw [lg_entry_eq]
  generalize (lg_sl ([.ref (adK z), .int i]) ++ List.replicate (2 - (lg_sl ([.ref (adK z), .int i])).length) Slot.unset).toArray = ls at hl ⊢
  have hl : lv_has ls 2 [(0, .ref (adK z)), (1, .int i)] := hl
  refine lv_aload_n hx hb dJ0_indexOf_0f7a4_0 rfl (lv_at hl 0 rfl) ?_
  refine lv_iload_n hx hb dJ0_indexOf_0f7a4_1 rfl (lv_at hl 1 rfl) ?_
  refine lv_iconst (v := 0) hx hb dJ0_indexOf_0f7a4_2 (by decide) ?_
  have cb := callB_of (R := k2_rm 3 140) (own := RJ0) (index := 633) (y := yJ0_indexOf_7cf53) (rm := k2_rm 2 100) 2 hts (dGI2 (k := Cond.code yJ0_indexOf_7cf53 cJ0_indexOf_7cf53 3 (some .int)) (fun w h => List.mem_cons_of_mem _ h) (by decide +kernel)) rfl rfl rfl (hts (.initialized RJ0) (by decide +kernel)) (hts (.methodLink RJ0 633 yJ0_indexOf_7cf53) (by decide +kernel)) ⟨by decide, by decide, by decide +kernel⟩ ⟨by decide, by decide⟩
  refine dt_after (va_runV (C := RJ0) (b := adK z) (As := [.int i, .int 0]) (rest := []) ⟨hx, hb, hml, hown, hts⟩ (jt_iOf2 l (A := A) (N := N) (len := len) (byt := byt) (adK := adK) (adV := adV) hz hn) ⟨cb, hts (.instanceMethod yJ0_indexOf_7cf53) (by decide +kernel), hts (.selects RJ0 yJ0_indexOf_7cf53 yJ0_indexOf_7cf53) (by decide +kernel)⟩ ⟨dTblind, dVS_recv hE hz hS, fun U hU hW => ⟨rfl, by show dTxt A N len byt adK adV U U.heap; rw [hU]; exact hT.moved hW.alike⟩⟩ rfl rfl hl.1 rfl (lv_room (Nat.le_of_ble_eq_true rfl)) dJ0_indexOf_0f7a4_3 ⟨Nat.le_refl _, Nat.le_refl _⟩) ?_
  exact W.iret hx hb hr (fun t ht hW => ⟨rfl, ht⟩) (fun _ h => by cases h) dJ0_indexOf_0f7a4_6 hlocks
end JI

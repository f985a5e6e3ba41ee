/-! ===== 25.feed: piece 0 ===== -/
set_option maxRecDepth 100000 in
set_option maxHeartbeats 40000000 in
theorem ksx_feed (a0 a1 a2 a3 a4 f : Nat) (hw : hwf kh19) : ∃ h9 : dH, drun dProg (f + 77) 40 284 0 [(0, .inr (.inr 1)), (1, .inl a0), (2, .inl a1), (3, .inl a2), (4, .inl a3), (5, .inl a4)] [] kh19 = some (some (.inl 20), h9) ∧ h9.1 = kh19.1 ∧ h9.2.1 = kh19.2.1 ∧ hwf h9 ∧ ∀ j, 126 ≤ j → hat h9 j = hat kh19 j := by
  have f0_0 : hat kh19 0 = some (16, 12, 0x77000000000000006d000000000000006b000000000000005e000000000000005800000000000000570000000000000055000000000000002c000000000000000300000000ffffffff00000000000000000000000000000002ab9081a8392e1915) := by decide +kernel
  have f0_1 : hat kh19 1 = some (2, 3000, 0) := by decide +kernel
  have q1 : kh19.1 = kh19.1 := rfl
  have q2 : kh19.2.1 = kh19.2.1 := rfl
  have qa : ∀ j, 126 ≤ j → hat kh19 j = hat kh19 j := fun _ _ => rfl
  show dGoal (fun z => ∃ h9 : dH, z = some (some (.inl 20), h9) ∧ h9.1 = kh19.1 ∧ h9.2.1 = kh19.2.1 ∧ hwf h9 ∧ ∀ j, 126 ≤ j → hat h9 j = hat kh19 j) [] _
  refine grun (c := o_aload 284 0 (o_getfield 284 12292 (o_int 284 20 (o_bin dAdd 284 0 (o_int 284 3000 (o_icmp .le 284 15 (o_int 284 4294967295 (o_ireturn 284 1 (djmp 284 15))))))))) (by rfl) ?_
  refine gst (s_aload rfl) ?_
  refine gst (s_getfield (w := .inl 0) f0_0 rfl (by decide +kernel)) ?_
  refine gst s_int ?_
  refine gst (s_bin (v := 20) rfl) ?_
  refine gst s_int ?_
  refine gst (s_icmp_t rfl) ?_
  refine grun (c := o_aload 284 0 (o_iload 284 1 (o_virtual 284 4834076 (o_aload 284 0 (o_iload 284 2 (o_virtual 284 4834076 (o_aload 284 0 (o_iload 284 3 (o_virtual 284 4834076 (o_aload 284 0 (o_iload 284 4 (o_virtual 284 4834076 (o_aload 284 0 (o_iload 284 5 (o_virtual 284 4834076 (o_aload 284 0 (o_getfield 284 12292 (o_ireturn 284 1 (djmp 284 47))))))))))))))))))) (by rfl) ?_
  refine gst (s_aload rfl) ?_
  refine gst (s_iload rfl) ?_
  refine gvirtual (as := [_]) (fun _ => rfl) f0_0 rfl rfl rfl ?_
  refine grun (c := o_int 295 24 (o_istore 295 2 (djmp 295 3))) (by rfl) ?_
  refine gst s_int ?_
  refine gst (s_istore (u := [(0, .inr (.inr 1)), (1, _)]) rfl) ?_
  refine gst s_jmp ?_
  refine grun (c := o_iload 295 2 (o_if .lt 295 37 (o_aload 295 0 (o_getfield 295 12291 (o_aload 295 0 (o_getfield 295 12292 (o_iload 295 1 (o_iload 295 2 (o_bin dShr 295 0 (o_static 295 4948796 (o_aload 295 0 (o_dup 295 0 (o_getfield 295 12292 (o_int 295 1 (o_bin dAdd 295 0 (o_putfield 295 12292 (o_iinc 295 12884901880 (o_goto 295 3 (djmp 295 37))))))))))))))))))) (by rfl) ?_
  refine gst (s_iload rfl) ?_
  refine gst (s_if_f rfl) ?_
  refine gst (s_aload rfl) ?_
  refine gst (s_getfield (w := .inr (.inr 2)) f0_0 rfl (by decide +kernel)) ?_
  refine gst (s_aload rfl) ?_
  refine gst (s_getfield (w := .inl 0) f0_0 rfl (by decide +kernel)) ?_
  refine gst (s_iload rfl) ?_
  refine gst (s_iload rfl) ?_
  refine gst (s_bin rfl) ?_
  refine gstatic (as := [.inr (.inr 2), .inl 0, _]) (fun _ => rfl) rfl rfl ?_
  refine grun (c := o_iload 302 1 (o_if .lt 302 15 (o_iload 302 1 (o_aload 302 0 (o_alen 302 0 (o_icmp .ge 302 15 (o_aload 302 0 (o_iload 302 1 (o_iload 302 2 (o_un dI2b 302 0 (o_bastore 302 0 (djmp 302 15)))))))))))) (by rfl) ?_
  refine gst (s_iload rfl) ?_
  refine gst (s_if_f rfl) ?_
  refine gst (s_iload rfl) ?_
  refine gst (s_aload rfl) ?_
  refine gst (s_alen f0_1 rfl) ?_
  refine gst (s_icmp_f rfl) ?_
  refine gst (s_aload rfl) ?_
  refine gst (s_iload rfl) ?_
  refine gst (s_iload rfl) ?_
  refine gst (s_un rfl) ?_
  refine gbastore (j := 0) hw f0_1 rfl (by decide) (by decide) ?_
  intro h1 z1 u1 w1 a1
  have f1_0 := (a1 0).trans ((if_neg (by decide)).trans f0_0)
  have f1_1 : ∃ ct, hat h1 1 = some (2, 3000, ct) := ⟨_, by rw [a1 1, if_pos rfl]⟩
  obtain ⟨ct1_1, f1_1⟩ := f1_1
  replace q1 := z1.trans q1
  replace q2 := u1.trans q2
  replace qa : ∀ j, 126 ≤ j → hat h1 j = hat kh19 j := fun j hj => (a1 j).trans ((if_neg (show ¬ j = 1 by omega)).trans (qa j hj))
  refine gst s_jmp ?_
  refine grun (c := o_return 302 0 (djmp 302 16)) (by rfl) ?_
  refine gst s_return ?_
  refine gbacks0 ?_
  refine gst (s_aload rfl) ?_
  refine gst (s_dup rfl) ?_
  refine gst (s_getfield (w := .inl 0) f1_0 rfl (by decide +kernel)) ?_
  refine gst s_int ?_
  refine gst (s_bin (v := 1) rfl) ?_
  refine gputfield (w := 1) w1 f1_0 rfl (fun k => fe_0 rfl k) ?_
  intro h2 z2 u2 w2 a2
  have f2_0 : hat h2 0 = some (16, 12, 0x77000000000000006d000000000000006b000000000000005e000000000000005800000000000000570000000000000055000000000000002c000000000000000300000000ffffffff00000000000000010000000000000002cb7aa65e9e317e71) := by rw [a2 0, if_pos rfl]; exact congrArg (fun z => some (16, 12, z)) (by decide +kernel)
  have f2_1 := (a2 1).trans ((if_neg (by decide)).trans f1_1)
  replace q1 := z2.trans q1
  replace q2 := u2.trans q2
  replace qa : ∀ j, 126 ≤ j → hat h2 j = hat kh19 j := fun j hj => (a2 j).trans ((if_neg (show ¬ j = 0 by omega)).trans (qa j hj))
  refine gst (s_iinc (v := 16) (u := [(0, .inr (.inr 1)), (1, _)]) rfl rfl rfl) ?_
  refine gst s_goto ?_
  refine grun (c := o_iload 295 2 (o_if .lt 295 37 (o_aload 295 0 (o_getfield 295 12291 (o_aload 295 0 (o_getfield 295 12292 (o_iload 295 1 (o_iload 295 2 (o_bin dShr 295 0 (o_static 295 4948796 (o_aload 295 0 (o_dup 295 0 (o_getfield 295 12292 (o_int 295 1 (o_bin dAdd 295 0 (o_putfield 295 12292 (o_iinc 295 12884901880 (o_goto 295 3 (djmp 295 37))))))))))))))))))) (by rfl) ?_
  refine gst (s_iload rfl) ?_
  refine gst (s_if_f rfl) ?_
  refine gst (s_aload rfl) ?_
  refine gst (s_getfield (w := .inr (.inr 2)) f2_0 rfl (by decide +kernel)) ?_
  refine gst (s_aload rfl) ?_
  refine gst (s_getfield (w := .inl 1) f2_0 rfl (by decide +kernel)) ?_
  refine gst (s_iload rfl) ?_
  refine gst (s_iload rfl) ?_
  refine gst (s_bin rfl) ?_
  refine gstatic (as := [.inr (.inr 2), .inl 1, _]) (fun _ => rfl) rfl rfl ?_
  refine grun (c := o_iload 302 1 (o_if .lt 302 15 (o_iload 302 1 (o_aload 302 0 (o_alen 302 0 (o_icmp .ge 302 15 (o_aload 302 0 (o_iload 302 1 (o_iload 302 2 (o_un dI2b 302 0 (o_bastore 302 0 (djmp 302 15)))))))))))) (by rfl) ?_
  refine gst (s_iload rfl) ?_
  refine gst (s_if_f rfl) ?_
  refine gst (s_iload rfl) ?_
  refine gst (s_aload rfl) ?_
  refine gst (s_alen f2_1 rfl) ?_
  refine gst (s_icmp_f rfl) ?_
  refine gst (s_aload rfl) ?_
  refine gst (s_iload rfl) ?_
  refine gst (s_iload rfl) ?_
  refine gst (s_un rfl) ?_
  refine gbastore (j := 1) w2 f2_1 rfl (by decide) (by decide) ?_
  intro h3 z3 u3 w3 a3
  have f3_0 := (a3 0).trans ((if_neg (by decide)).trans f2_0)
  have f3_1 : ∃ ct, hat h3 1 = some (2, 3000, ct) := ⟨_, by rw [a3 1, if_pos rfl]⟩
  obtain ⟨ct3_1, f3_1⟩ := f3_1
  replace q1 := z3.trans q1
  replace q2 := u3.trans q2
  replace qa : ∀ j, 126 ≤ j → hat h3 j = hat kh19 j := fun j hj => (a3 j).trans ((if_neg (show ¬ j = 1 by omega)).trans (qa j hj))
  refine gst s_jmp ?_
  refine grun (c := o_return 302 0 (djmp 302 16)) (by rfl) ?_
  refine gst s_return ?_
  refine gbacks0 ?_
  refine gst (s_aload rfl) ?_
  refine gst (s_dup rfl) ?_
  refine gst (s_getfield (w := .inl 1) f3_0 rfl (by decide +kernel)) ?_
  refine gst s_int ?_
  refine gst (s_bin (v := 2) rfl) ?_
  refine gputfield (w := 2) w3 f3_0 rfl (fun k => fe_0 rfl k) ?_
  intro h4 z4 u4 w4 a4
  have f4_0 : hat h4 0 = some (16, 12, 0x77000000000000006d000000000000006b000000000000005e000000000000005800000000000000570000000000000055000000000000002c000000000000000300000000ffffffff000000000000000200000000000000026a44ce457710d7dd) := by rw [a4 0, if_pos rfl]; exact congrArg (fun z => some (16, 12, z)) (by decide +kernel)
  have f4_1 := (a4 1).trans ((if_neg (by decide)).trans f3_1)
  replace q1 := z4.trans q1
  replace q2 := u4.trans q2
  replace qa : ∀ j, 126 ≤ j → hat h4 j = hat kh19 j := fun j hj => (a4 j).trans ((if_neg (show ¬ j = 0 by omega)).trans (qa j hj))
  refine gst (s_iinc (v := 8) (u := [(0, .inr (.inr 1)), (1, _)]) rfl rfl rfl) ?_
  refine gst s_goto ?_
  refine grun (c := o_iload 295 2 (o_if .lt 295 37 (o_aload 295 0 (o_getfield 295 12291 (o_aload 295 0 (o_getfield 295 12292 (o_iload 295 1 (o_iload 295 2 (o_bin dShr 295 0 (o_static 295 4948796 (o_aload 295 0 (o_dup 295 0 (o_getfield 295 12292 (o_int 295 1 (o_bin dAdd 295 0 (o_putfield 295 12292 (o_iinc 295 12884901880 (o_goto 295 3 (djmp 295 37))))))))))))))))))) (by rfl) ?_
  refine gst (s_iload rfl) ?_
  refine gst (s_if_f rfl) ?_
  refine gst (s_aload rfl) ?_
  refine gst (s_getfield (w := .inr (.inr 2)) f4_0 rfl (by decide +kernel)) ?_
  refine gst (s_aload rfl) ?_
  refine gst (s_getfield (w := .inl 2) f4_0 rfl (by decide +kernel)) ?_
  refine gst (s_iload rfl) ?_
  refine gst (s_iload rfl) ?_
  refine gst (s_bin rfl) ?_
  refine gstatic (as := [.inr (.inr 2), .inl 2, _]) (fun _ => rfl) rfl rfl ?_
  refine grun (c := o_iload 302 1 (o_if .lt 302 15 (o_iload 302 1 (o_aload 302 0 (o_alen 302 0 (o_icmp .ge 302 15 (o_aload 302 0 (o_iload 302 1 (o_iload 302 2 (o_un dI2b 302 0 (o_bastore 302 0 (djmp 302 15)))))))))))) (by rfl) ?_
  refine gst (s_iload rfl) ?_
  refine gst (s_if_f rfl) ?_
  refine gst (s_iload rfl) ?_
  refine gst (s_aload rfl) ?_
  refine gst (s_alen f4_1 rfl) ?_
  refine gst (s_icmp_f rfl) ?_
  refine gst (s_aload rfl) ?_
  refine gst (s_iload rfl) ?_
  refine gst (s_iload rfl) ?_
  refine gst (s_un rfl) ?_
  refine gbastore (j := 2) w4 f4_1 rfl (by decide) (by decide) ?_
  intro h5 z5 u5 w5 a5
  have f5_0 := (a5 0).trans ((if_neg (by decide)).trans f4_0)
  have f5_1 : ∃ ct, hat h5 1 = some (2, 3000, ct) := ⟨_, by rw [a5 1, if_pos rfl]⟩
  obtain ⟨ct5_1, f5_1⟩ := f5_1
  replace q1 := z5.trans q1
  replace q2 := u5.trans q2
  replace qa : ∀ j, 126 ≤ j → hat h5 j = hat kh19 j := fun j hj => (a5 j).trans ((if_neg (show ¬ j = 1 by omega)).trans (qa j hj))
  refine gst s_jmp ?_
  refine grun (c := o_return 302 0 (djmp 302 16)) (by rfl) ?_
  refine gst s_return ?_
  refine gbacks0 ?_
  refine gst (s_aload rfl) ?_
  refine gst (s_dup rfl) ?_
  refine gst (s_getfield (w := .inl 2) f5_0 rfl (by decide +kernel)) ?_
  refine gst s_int ?_
  refine gst (s_bin (v := 3) rfl) ?_
  refine gputfield (w := 3) w5 f5_0 rfl (fun k => fe_0 rfl k) ?_
  intro h6 z6 u6 w6 a6
  have f6_0 : hat h6 0 = some (16, 12, 0x77000000000000006d000000000000006b000000000000005e000000000000005800000000000000570000000000000055000000000000002c000000000000000300000000ffffffff00000000000000030000000000000002892ef64bcc702f39) := by rw [a6 0, if_pos rfl]; exact congrArg (fun z => some (16, 12, z)) (by decide +kernel)
  have f6_1 := (a6 1).trans ((if_neg (by decide)).trans f5_1)
  replace q1 := z6.trans q1
  replace q2 := u6.trans q2
  replace qa : ∀ j, 126 ≤ j → hat h6 j = hat kh19 j := fun j hj => (a6 j).trans ((if_neg (show ¬ j = 0 by omega)).trans (qa j hj))
  refine gst (s_iinc (v := 0) (u := [(0, .inr (.inr 1)), (1, _)]) rfl rfl rfl) ?_
  refine gst s_goto ?_
  refine grun (c := o_iload 295 2 (o_if .lt 295 37 (o_aload 295 0 (o_getfield 295 12291 (o_aload 295 0 (o_getfield 295 12292 (o_iload 295 1 (o_iload 295 2 (o_bin dShr 295 0 (o_static 295 4948796 (o_aload 295 0 (o_dup 295 0 (o_getfield 295 12292 (o_int 295 1 (o_bin dAdd 295 0 (o_putfield 295 12292 (o_iinc 295 12884901880 (o_goto 295 3 (djmp 295 37))))))))))))))))))) (by rfl) ?_
  refine gst (s_iload rfl) ?_
  refine gst (s_if_f rfl) ?_
  refine gst (s_aload rfl) ?_
  refine gst (s_getfield (w := .inr (.inr 2)) f6_0 rfl (by decide +kernel)) ?_
  refine gst (s_aload rfl) ?_
  refine gst (s_getfield (w := .inl 3) f6_0 rfl (by decide +kernel)) ?_
  refine gst (s_iload rfl) ?_
  refine gst (s_iload rfl) ?_
  refine gst (s_bin rfl) ?_
  refine gstatic (as := [.inr (.inr 2), .inl 3, _]) (fun _ => rfl) rfl rfl ?_
  refine grun (c := o_iload 302 1 (o_if .lt 302 15 (o_iload 302 1 (o_aload 302 0 (o_alen 302 0 (o_icmp .ge 302 15 (o_aload 302 0 (o_iload 302 1 (o_iload 302 2 (o_un dI2b 302 0 (o_bastore 302 0 (djmp 302 15)))))))))))) (by rfl) ?_
  refine gst (s_iload rfl) ?_
  refine gst (s_if_f rfl) ?_
  refine gst (s_iload rfl) ?_
  refine gst (s_aload rfl) ?_
  refine gst (s_alen f6_1 rfl) ?_
  refine gst (s_icmp_f rfl) ?_
  refine gst (s_aload rfl) ?_
  refine gst (s_iload rfl) ?_
  refine gst (s_iload rfl) ?_
  refine gst (s_un rfl) ?_
  refine gbastore (j := 3) w6 f6_1 rfl (by decide) (by decide) ?_
  intro h7 z7 u7 w7 a7
  have f7_0 := (a7 0).trans ((if_neg (by decide)).trans f6_0)
  have f7_1 : ∃ ct, hat h7 1 = some (2, 3000, ct) := ⟨_, by rw [a7 1, if_pos rfl]⟩
  obtain ⟨ct7_1, f7_1⟩ := f7_1
  replace q1 := z7.trans q1
  replace q2 := u7.trans q2
  replace qa : ∀ j, 126 ≤ j → hat h7 j = hat kh19 j := fun j hj => (a7 j).trans ((if_neg (show ¬ j = 1 by omega)).trans (qa j hj))
  refine gst s_jmp ?_
  refine grun (c := o_return 302 0 (djmp 302 16)) (by rfl) ?_
  refine gst s_return ?_
  refine gbacks0 ?_
  refine gst (s_aload rfl) ?_
  refine gst (s_dup rfl) ?_
  refine gst (s_getfield (w := .inl 3) f7_0 rfl (by decide +kernel)) ?_
  refine gst s_int ?_
  refine gst (s_bin (v := 4) rfl) ?_
  refine gputfield (w := 4) w7 f7_0 rfl (fun k => fe_0 rfl k) ?_
  intro h8 z8 u8 w8 a8
  have f8_0 : hat h8 0 = some (16, 12, 0x77000000000000006d000000000000006b000000000000005e000000000000005800000000000000570000000000000055000000000000002c000000000000000300000000ffffffff0000000000000004000000000000000228381e72a5538485) := by rw [a8 0, if_pos rfl]; exact congrArg (fun z => some (16, 12, z)) (by decide +kernel)
  have f8_1 := (a8 1).trans ((if_neg (by decide)).trans f7_1)
  replace q1 := z8.trans q1
  replace q2 := u8.trans q2
  replace qa : ∀ j, 126 ≤ j → hat h8 j = hat kh19 j := fun j hj => (a8 j).trans ((if_neg (show ¬ j = 0 by omega)).trans (qa j hj))
  refine gst (s_iinc (v := 4294967288) (u := [(0, .inr (.inr 1)), (1, _)]) rfl rfl rfl) ?_
  refine gst s_goto ?_
  refine grun (c := o_iload 295 2 (o_if .lt 295 37 (o_aload 295 0 (o_getfield 295 12291 (o_aload 295 0 (o_getfield 295 12292 (o_iload 295 1 (o_iload 295 2 (o_bin dShr 295 0 (o_static 295 4948796 (o_aload 295 0 (o_dup 295 0 (o_getfield 295 12292 (o_int 295 1 (o_bin dAdd 295 0 (o_putfield 295 12292 (o_iinc 295 12884901880 (o_goto 295 3 (djmp 295 37))))))))))))))))))) (by rfl) ?_
  refine gst (s_iload rfl) ?_
  refine gst (s_if_t rfl) ?_
  refine grun (c := o_return 295 0 (djmp 295 38)) (by rfl) ?_
  refine gst s_return ?_
  refine gbackv0 ?_
  refine gst (s_aload rfl) ?_
  refine gst (s_iload rfl) ?_
  refine gvirtual (as := [_]) (fun _ => rfl) f8_0 rfl rfl rfl ?_
  refine grun (c := o_int 295 24 (o_istore 295 2 (djmp 295 3))) (by rfl) ?_
  refine gst s_int ?_
  refine gst (s_istore (u := [(0, .inr (.inr 1)), (1, _)]) rfl) ?_
  refine gst s_jmp ?_
  refine grun (c := o_iload 295 2 (o_if .lt 295 37 (o_aload 295 0 (o_getfield 295 12291 (o_aload 295 0 (o_getfield 295 12292 (o_iload 295 1 (o_iload 295 2 (o_bin dShr 295 0 (o_static 295 4948796 (o_aload 295 0 (o_dup 295 0 (o_getfield 295 12292 (o_int 295 1 (o_bin dAdd 295 0 (o_putfield 295 12292 (o_iinc 295 12884901880 (o_goto 295 3 (djmp 295 37))))))))))))))))))) (by rfl) ?_
  refine gst (s_iload rfl) ?_
  refine gst (s_if_f rfl) ?_
  refine gst (s_aload rfl) ?_
  refine gst (s_getfield (w := .inr (.inr 2)) f8_0 rfl (by decide +kernel)) ?_
  refine gst (s_aload rfl) ?_
  refine gst (s_getfield (w := .inl 4) f8_0 rfl (by decide +kernel)) ?_
  refine gst (s_iload rfl) ?_
  refine gst (s_iload rfl) ?_
  refine gst (s_bin rfl) ?_
  refine gstatic (as := [.inr (.inr 2), .inl 4, _]) (fun _ => rfl) rfl rfl ?_
  refine grun (c := o_iload 302 1 (o_if .lt 302 15 (o_iload 302 1 (o_aload 302 0 (o_alen 302 0 (o_icmp .ge 302 15 (o_aload 302 0 (o_iload 302 1 (o_iload 302 2 (o_un dI2b 302 0 (o_bastore 302 0 (djmp 302 15)))))))))))) (by rfl) ?_
  refine gst (s_iload rfl) ?_
  refine gst (s_if_f rfl) ?_
  refine gst (s_iload rfl) ?_
  refine gst (s_aload rfl) ?_
  refine gst (s_alen f8_1 rfl) ?_
  refine gst (s_icmp_f rfl) ?_
  refine gst (s_aload rfl) ?_
  refine gst (s_iload rfl) ?_
  refine gst (s_iload rfl) ?_
  refine gst (s_un rfl) ?_
  refine gbastore (j := 4) w8 f8_1 rfl (by decide) (by decide) ?_
  intro h9 z9 u9 w9 a9
  have f9_0 := (a9 0).trans ((if_neg (by decide)).trans f8_0)
  have f9_1 : ∃ ct, hat h9 1 = some (2, 3000, ct) := ⟨_, by rw [a9 1, if_pos rfl]⟩
  obtain ⟨ct9_1, f9_1⟩ := f9_1
  replace q1 := z9.trans q1
  replace q2 := u9.trans q2
  replace qa : ∀ j, 126 ≤ j → hat h9 j = hat kh19 j := fun j hj => (a9 j).trans ((if_neg (show ¬ j = 1 by omega)).trans (qa j hj))
  refine gst s_jmp ?_
  refine grun (c := o_return 302 0 (djmp 302 16)) (by rfl) ?_
  refine gst s_return ?_
  refine gbacks0 ?_
  refine gst (s_aload rfl) ?_
  refine gst (s_dup rfl) ?_
  refine gst (s_getfield (w := .inl 4) f9_0 rfl (by decide +kernel)) ?_
  refine gst s_int ?_
  refine gst (s_bin (v := 5) rfl) ?_
  refine gputfield (w := 5) w9 f9_0 rfl (fun k => fe_0 rfl k) ?_
  intro h10 z10 u10 w10 a10
  have f10_0 : hat h10 0 = some (16, 12, 0x77000000000000006d000000000000006b000000000000005e000000000000005800000000000000570000000000000055000000000000002c000000000000000300000000ffffffff000000000000000500000000000000024f0246797ab31de1) := by rw [a10 0, if_pos rfl]; exact congrArg (fun z => some (16, 12, z)) (by decide +kernel)
  have f10_1 := (a10 1).trans ((if_neg (by decide)).trans f9_1)
  replace q1 := z10.trans q1
  replace q2 := u10.trans q2
  replace qa : ∀ j, 126 ≤ j → hat h10 j = hat kh19 j := fun j hj => (a10 j).trans ((if_neg (show ¬ j = 0 by omega)).trans (qa j hj))
  refine gst (s_iinc (v := 16) (u := [(0, .inr (.inr 1)), (1, _)]) rfl rfl rfl) ?_
  refine gst s_goto ?_
  refine grun (c := o_iload 295 2 (o_if .lt 295 37 (o_aload 295 0 (o_getfield 295 12291 (o_aload 295 0 (o_getfield 295 12292 (o_iload 295 1 (o_iload 295 2 (o_bin dShr 295 0 (o_static 295 4948796 (o_aload 295 0 (o_dup 295 0 (o_getfield 295 12292 (o_int 295 1 (o_bin dAdd 295 0 (o_putfield 295 12292 (o_iinc 295 12884901880 (o_goto 295 3 (djmp 295 37))))))))))))))))))) (by rfl) ?_
  refine gst (s_iload rfl) ?_
  refine gst (s_if_f rfl) ?_
  refine gst (s_aload rfl) ?_
  refine gst (s_getfield (w := .inr (.inr 2)) f10_0 rfl (by decide +kernel)) ?_
  refine gst (s_aload rfl) ?_
  refine gst (s_getfield (w := .inl 5) f10_0 rfl (by decide +kernel)) ?_
  refine gst (s_iload rfl) ?_
  refine gst (s_iload rfl) ?_
  refine gst (s_bin rfl) ?_
  refine gstatic (as := [.inr (.inr 2), .inl 5, _]) (fun _ => rfl) rfl rfl ?_
  refine grun (c := o_iload 302 1 (o_if .lt 302 15 (o_iload 302 1 (o_aload 302 0 (o_alen 302 0 (o_icmp .ge 302 15 (o_aload 302 0 (o_iload 302 1 (o_iload 302 2 (o_un dI2b 302 0 (o_bastore 302 0 (djmp 302 15)))))))))))) (by rfl) ?_
  refine gst (s_iload rfl) ?_
  refine gst (s_if_f rfl) ?_
  refine gst (s_iload rfl) ?_
  refine gst (s_aload rfl) ?_
  refine gst (s_alen f10_1 rfl) ?_
  refine gst (s_icmp_f rfl) ?_
  refine gst (s_aload rfl) ?_
  refine gst (s_iload rfl) ?_
  refine gst (s_iload rfl) ?_
  refine gst (s_un rfl) ?_
  refine gbastore (j := 5) w10 f10_1 rfl (by decide) (by decide) ?_
  intro h11 z11 u11 w11 a11
  have f11_0 := (a11 0).trans ((if_neg (by decide)).trans f10_0)
  have f11_1 : ∃ ct, hat h11 1 = some (2, 3000, ct) := ⟨_, by rw [a11 1, if_pos rfl]⟩
  obtain ⟨ct11_1, f11_1⟩ := f11_1
  replace q1 := z11.trans q1
  replace q2 := u11.trans q2
  replace qa : ∀ j, 126 ≤ j → hat h11 j = hat kh19 j := fun j hj => (a11 j).trans ((if_neg (show ¬ j = 1 by omega)).trans (qa j hj))
  refine gst s_jmp ?_
  refine grun (c := o_return 302 0 (djmp 302 16)) (by rfl) ?_
  refine gst s_return ?_
  refine gbacks0 ?_
  refine gst (s_aload rfl) ?_
  refine gst (s_dup rfl) ?_
  refine gst (s_getfield (w := .inl 5) f11_0 rfl (by decide +kernel)) ?_
  refine gst s_int ?_
  refine gst (s_bin (v := 6) rfl) ?_
  refine gputfield (w := 6) w11 f11_0 rfl (fun k => fe_0 rfl k) ?_
  intro h12 z12 u12 w12 a12
  have f12_0 : hat h12 0 = some (16, 12, 0x77000000000000006d000000000000006b000000000000005e000000000000005800000000000000570000000000000055000000000000002c000000000000000300000000ffffffff00000000000000060000000000000002eeec6e6fd392754d) := by rw [a12 0, if_pos rfl]; exact congrArg (fun z => some (16, 12, z)) (by decide +kernel)
  have f12_1 := (a12 1).trans ((if_neg (by decide)).trans f11_1)
  replace q1 := z12.trans q1
  replace q2 := u12.trans q2
  replace qa : ∀ j, 126 ≤ j → hat h12 j = hat kh19 j := fun j hj => (a12 j).trans ((if_neg (show ¬ j = 0 by omega)).trans (qa j hj))
  refine gst (s_iinc (v := 8) (u := [(0, .inr (.inr 1)), (1, _)]) rfl rfl rfl) ?_
  refine gst s_goto ?_
  refine grun (c := o_iload 295 2 (o_if .lt 295 37 (o_aload 295 0 (o_getfield 295 12291 (o_aload 295 0 (o_getfield 295 12292 (o_iload 295 1 (o_iload 295 2 (o_bin dShr 295 0 (o_static 295 4948796 (o_aload 295 0 (o_dup 295 0 (o_getfield 295 12292 (o_int 295 1 (o_bin dAdd 295 0 (o_putfield 295 12292 (o_iinc 295 12884901880 (o_goto 295 3 (djmp 295 37))))))))))))))))))) (by rfl) ?_
  refine gst (s_iload rfl) ?_
  refine gst (s_if_f rfl) ?_
  refine gst (s_aload rfl) ?_
  refine gst (s_getfield (w := .inr (.inr 2)) f12_0 rfl (by decide +kernel)) ?_
  refine gst (s_aload rfl) ?_
  refine gst (s_getfield (w := .inl 6) f12_0 rfl (by decide +kernel)) ?_
  refine gst (s_iload rfl) ?_
  refine gst (s_iload rfl) ?_
  refine gst (s_bin rfl) ?_
  refine gstatic (as := [.inr (.inr 2), .inl 6, _]) (fun _ => rfl) rfl rfl ?_
  refine grun (c := o_iload 302 1 (o_if .lt 302 15 (o_iload 302 1 (o_aload 302 0 (o_alen 302 0 (o_icmp .ge 302 15 (o_aload 302 0 (o_iload 302 1 (o_iload 302 2 (o_un dI2b 302 0 (o_bastore 302 0 (djmp 302 15)))))))))))) (by rfl) ?_
  refine gst (s_iload rfl) ?_
  refine gst (s_if_f rfl) ?_
  refine gst (s_iload rfl) ?_
  refine gst (s_aload rfl) ?_
  refine gst (s_alen f12_1 rfl) ?_
  refine gst (s_icmp_f rfl) ?_
  refine gst (s_aload rfl) ?_
  refine gst (s_iload rfl) ?_
  refine gst (s_iload rfl) ?_
  refine gst (s_un rfl) ?_
  refine gbastore (j := 6) w12 f12_1 rfl (by decide) (by decide) ?_
  intro h13 z13 u13 w13 a13
  have f13_0 := (a13 0).trans ((if_neg (by decide)).trans f12_0)
  have f13_1 : ∃ ct, hat h13 1 = some (2, 3000, ct) := ⟨_, by rw [a13 1, if_pos rfl]⟩
  obtain ⟨ct13_1, f13_1⟩ := f13_1
  replace q1 := z13.trans q1
  replace q2 := u13.trans q2
  replace qa : ∀ j, 126 ≤ j → hat h13 j = hat kh19 j := fun j hj => (a13 j).trans ((if_neg (show ¬ j = 1 by omega)).trans (qa j hj))
  refine gst s_jmp ?_
  refine grun (c := o_return 302 0 (djmp 302 16)) (by rfl) ?_
  refine gst s_return ?_
  refine gbacks0 ?_
  refine gst (s_aload rfl) ?_
  refine gst (s_dup rfl) ?_
  refine gst (s_getfield (w := .inl 6) f13_0 rfl (by decide +kernel)) ?_
  refine gst s_int ?_
  refine gst (s_bin (v := 7) rfl) ?_
  refine gputfield (w := 7) w13 f13_0 rfl (fun k => fe_0 rfl k) ?_
  intro h14 z14 u14 w14 a14
  have f14_0 : hat h14 0 = some (16, 12, 0x77000000000000006d000000000000006b000000000000005e000000000000005800000000000000570000000000000055000000000000002c000000000000000300000000ffffffff000000000000000700000000000000020df79616a8f5caa9) := by rw [a14 0, if_pos rfl]; exact congrArg (fun z => some (16, 12, z)) (by decide +kernel)
  have f14_1 := (a14 1).trans ((if_neg (by decide)).trans f13_1)
  replace q1 := z14.trans q1
  replace q2 := u14.trans q2
  replace qa : ∀ j, 126 ≤ j → hat h14 j = hat kh19 j := fun j hj => (a14 j).trans ((if_neg (show ¬ j = 0 by omega)).trans (qa j hj))
  refine gst (s_iinc (v := 0) (u := [(0, .inr (.inr 1)), (1, _)]) rfl rfl rfl) ?_
  refine gst s_goto ?_
  refine grun (c := o_iload 295 2 (o_if .lt 295 37 (o_aload 295 0 (o_getfield 295 12291 (o_aload 295 0 (o_getfield 295 12292 (o_iload 295 1 (o_iload 295 2 (o_bin dShr 295 0 (o_static 295 4948796 (o_aload 295 0 (o_dup 295 0 (o_getfield 295 12292 (o_int 295 1 (o_bin dAdd 295 0 (o_putfield 295 12292 (o_iinc 295 12884901880 (o_goto 295 3 (djmp 295 37))))))))))))))))))) (by rfl) ?_
  refine gst (s_iload rfl) ?_
  refine gst (s_if_f rfl) ?_
  refine gst (s_aload rfl) ?_
  refine gst (s_getfield (w := .inr (.inr 2)) f14_0 rfl (by decide +kernel)) ?_
  refine gst (s_aload rfl) ?_
  refine gst (s_getfield (w := .inl 7) f14_0 rfl (by decide +kernel)) ?_
  refine gst (s_iload rfl) ?_
  refine gst (s_iload rfl) ?_
  refine gst (s_bin rfl) ?_
  refine gstatic (as := [.inr (.inr 2), .inl 7, _]) (fun _ => rfl) rfl rfl ?_
  refine grun (c := o_iload 302 1 (o_if .lt 302 15 (o_iload 302 1 (o_aload 302 0 (o_alen 302 0 (o_icmp .ge 302 15 (o_aload 302 0 (o_iload 302 1 (o_iload 302 2 (o_un dI2b 302 0 (o_bastore 302 0 (djmp 302 15)))))))))))) (by rfl) ?_
  refine gst (s_iload rfl) ?_
  refine gst (s_if_f rfl) ?_
  refine gst (s_iload rfl) ?_
  refine gst (s_aload rfl) ?_
  refine gst (s_alen f14_1 rfl) ?_
  refine gst (s_icmp_f rfl) ?_
  refine gst (s_aload rfl) ?_
  refine gst (s_iload rfl) ?_
  refine gst (s_iload rfl) ?_
  refine gst (s_un rfl) ?_
  refine gbastore (j := 7) w14 f14_1 rfl (by decide) (by decide) ?_
  intro h15 z15 u15 w15 a15
  have f15_0 := (a15 0).trans ((if_neg (by decide)).trans f14_0)
  have f15_1 : ∃ ct, hat h15 1 = some (2, 3000, ct) := ⟨_, by rw [a15 1, if_pos rfl]⟩
  obtain ⟨ct15_1, f15_1⟩ := f15_1
  replace q1 := z15.trans q1
  replace q2 := u15.trans q2
  replace qa : ∀ j, 126 ≤ j → hat h15 j = hat kh19 j := fun j hj => (a15 j).trans ((if_neg (show ¬ j = 1 by omega)).trans (qa j hj))
  refine gst s_jmp ?_
  refine grun (c := o_return 302 0 (djmp 302 16)) (by rfl) ?_
  refine gst s_return ?_
  refine gbacks0 ?_
  refine gst (s_aload rfl) ?_
  refine gst (s_dup rfl) ?_
  refine gst (s_getfield (w := .inl 7) f15_0 rfl (by decide +kernel)) ?_
  refine gst s_int ?_
  refine gst (s_bin (v := 8) rfl) ?_
  refine gputfield (w := 8) w15 f15_0 rfl (fun k => fe_0 rfl k) ?_
  intro h16 z16 u16 w16 a16
  have f16_0 : hat h16 0 = some (16, 12, 0x77000000000000006d000000000000006b000000000000005e000000000000005800000000000000570000000000000055000000000000002c000000000000000300000000ffffffff00000000000000080000000000000002acc1be1d01d52235) := by rw [a16 0, if_pos rfl]; exact congrArg (fun z => some (16, 12, z)) (by decide +kernel)
  have f16_1 := (a16 1).trans ((if_neg (by decide)).trans f15_1)
  replace q1 := z16.trans q1
  replace q2 := u16.trans q2
  replace qa : ∀ j, 126 ≤ j → hat h16 j = hat kh19 j := fun j hj => (a16 j).trans ((if_neg (show ¬ j = 0 by omega)).trans (qa j hj))
  refine gst (s_iinc (v := 4294967288) (u := [(0, .inr (.inr 1)), (1, _)]) rfl rfl rfl) ?_
  refine gst s_goto ?_
  refine grun (c := o_iload 295 2 (o_if .lt 295 37 (o_aload 295 0 (o_getfield 295 12291 (o_aload 295 0 (o_getfield 295 12292 (o_iload 295 1 (o_iload 295 2 (o_bin dShr 295 0 (o_static 295 4948796 (o_aload 295 0 (o_dup 295 0 (o_getfield 295 12292 (o_int 295 1 (o_bin dAdd 295 0 (o_putfield 295 12292 (o_iinc 295 12884901880 (o_goto 295 3 (djmp 295 37))))))))))))))))))) (by rfl) ?_
  refine gst (s_iload rfl) ?_
  refine gst (s_if_t rfl) ?_
  refine grun (c := o_return 295 0 (djmp 295 38)) (by rfl) ?_
  refine gst s_return ?_
  refine gbackv0 ?_
  refine gst (s_aload rfl) ?_
  refine gst (s_iload rfl) ?_
  refine gvirtual (as := [_]) (fun _ => rfl) f16_0 rfl rfl rfl ?_
  refine grun (c := o_int 295 24 (o_istore 295 2 (djmp 295 3))) (by rfl) ?_
  refine gst s_int ?_
  refine gst (s_istore (u := [(0, .inr (.inr 1)), (1, _)]) rfl) ?_
  refine gst s_jmp ?_
  refine grun (c := o_iload 295 2 (o_if .lt 295 37 (o_aload 295 0 (o_getfield 295 12291 (o_aload 295 0 (o_getfield 295 12292 (o_iload 295 1 (o_iload 295 2 (o_bin dShr 295 0 (o_static 295 4948796 (o_aload 295 0 (o_dup 295 0 (o_getfield 295 12292 (o_int 295 1 (o_bin dAdd 295 0 (o_putfield 295 12292 (o_iinc 295 12884901880 (o_goto 295 3 (djmp 295 37))))))))))))))))))) (by rfl) ?_
  refine gst (s_iload rfl) ?_
  refine gst (s_if_f rfl) ?_
  refine gst (s_aload rfl) ?_
  refine gst (s_getfield (w := .inr (.inr 2)) f16_0 rfl (by decide +kernel)) ?_
  refine gst (s_aload rfl) ?_
  refine gst (s_getfield (w := .inl 8) f16_0 rfl (by decide +kernel)) ?_
  refine gst (s_iload rfl) ?_
  refine gst (s_iload rfl) ?_
  refine gst (s_bin rfl) ?_
  refine gstatic (as := [.inr (.inr 2), .inl 8, _]) (fun _ => rfl) rfl rfl ?_
  refine grun (c := o_iload 302 1 (o_if .lt 302 15 (o_iload 302 1 (o_aload 302 0 (o_alen 302 0 (o_icmp .ge 302 15 (o_aload 302 0 (o_iload 302 1 (o_iload 302 2 (o_un dI2b 302 0 (o_bastore 302 0 (djmp 302 15)))))))))))) (by rfl) ?_
  refine gst (s_iload rfl) ?_
  refine gst (s_if_f rfl) ?_
  refine gst (s_iload rfl) ?_
  refine gst (s_aload rfl) ?_
  refine gst (s_alen f16_1 rfl) ?_
  refine gst (s_icmp_f rfl) ?_
  refine gst (s_aload rfl) ?_
  refine gst (s_iload rfl) ?_
  refine gst (s_iload rfl) ?_
  refine gst (s_un rfl) ?_
  refine gbastore (j := 8) w16 f16_1 rfl (by decide) (by decide) ?_
  intro h17 z17 u17 w17 a17
  have f17_0 := (a17 0).trans ((if_neg (by decide)).trans f16_0)
  have f17_1 : ∃ ct, hat h17 1 = some (2, 3000, ct) := ⟨_, by rw [a17 1, if_pos rfl]⟩
  obtain ⟨ct17_1, f17_1⟩ := f17_1
  replace q1 := z17.trans q1
  replace q2 := u17.trans q2
  replace qa : ∀ j, 126 ≤ j → hat h17 j = hat kh19 j := fun j hj => (a17 j).trans ((if_neg (show ¬ j = 1 by omega)).trans (qa j hj))
  refine gst s_jmp ?_
  refine grun (c := o_return 302 0 (djmp 302 16)) (by rfl) ?_
  refine gst s_return ?_
  refine gbacks0 ?_
  refine gst (s_aload rfl) ?_
  refine gst (s_dup rfl) ?_
  refine gst (s_getfield (w := .inl 8) f17_0 rfl (by decide +kernel)) ?_
  refine gst s_int ?_
  refine gst (s_bin (v := 9) rfl) ?_
  refine gputfield (w := 9) w17 f17_0 rfl (fun k => fe_0 rfl k) ?_
  intro h18 z18 u18 w18 a18
  have f18_0 : hat h18 0 = some (16, 12, 0x77000000000000006d000000000000006b000000000000005e000000000000005800000000000000570000000000000055000000000000002c000000000000000300000000ffffffff00000000000000090000000000000002c3abe603d934bb91) := by rw [a18 0, if_pos rfl]; exact congrArg (fun z => some (16, 12, z)) (by decide +kernel)
  have f18_1 := (a18 1).trans ((if_neg (by decide)).trans f17_1)
  replace q1 := z18.trans q1
  replace q2 := u18.trans q2
  replace qa : ∀ j, 126 ≤ j → hat h18 j = hat kh19 j := fun j hj => (a18 j).trans ((if_neg (show ¬ j = 0 by omega)).trans (qa j hj))
  refine gst (s_iinc (v := 16) (u := [(0, .inr (.inr 1)), (1, _)]) rfl rfl rfl) ?_
  refine gst s_goto ?_
  refine grun (c := o_iload 295 2 (o_if .lt 295 37 (o_aload 295 0 (o_getfield 295 12291 (o_aload 295 0 (o_getfield 295 12292 (o_iload 295 1 (o_iload 295 2 (o_bin dShr 295 0 (o_static 295 4948796 (o_aload 295 0 (o_dup 295 0 (o_getfield 295 12292 (o_int 295 1 (o_bin dAdd 295 0 (o_putfield 295 12292 (o_iinc 295 12884901880 (o_goto 295 3 (djmp 295 37))))))))))))))))))) (by rfl) ?_
  refine gst (s_iload rfl) ?_
  refine gst (s_if_f rfl) ?_
  refine gst (s_aload rfl) ?_
  refine gst (s_getfield (w := .inr (.inr 2)) f18_0 rfl (by decide +kernel)) ?_
  refine gst (s_aload rfl) ?_
  refine gst (s_getfield (w := .inl 9) f18_0 rfl (by decide +kernel)) ?_
  refine gst (s_iload rfl) ?_
  refine gst (s_iload rfl) ?_
  refine gst (s_bin rfl) ?_
  refine gstatic (as := [.inr (.inr 2), .inl 9, _]) (fun _ => rfl) rfl rfl ?_
  refine grun (c := o_iload 302 1 (o_if .lt 302 15 (o_iload 302 1 (o_aload 302 0 (o_alen 302 0 (o_icmp .ge 302 15 (o_aload 302 0 (o_iload 302 1 (o_iload 302 2 (o_un dI2b 302 0 (o_bastore 302 0 (djmp 302 15)))))))))))) (by rfl) ?_
  refine gst (s_iload rfl) ?_
  refine gst (s_if_f rfl) ?_
  refine gst (s_iload rfl) ?_
  refine gst (s_aload rfl) ?_
  refine gst (s_alen f18_1 rfl) ?_
  refine gst (s_icmp_f rfl) ?_
  refine gst (s_aload rfl) ?_
  refine gst (s_iload rfl) ?_
  refine gst (s_iload rfl) ?_
  refine gst (s_un rfl) ?_
  refine gbastore (j := 9) w18 f18_1 rfl (by decide) (by decide) ?_
  intro h19 z19 u19 w19 a19
  have f19_0 := (a19 0).trans ((if_neg (by decide)).trans f18_0)
  have f19_1 : ∃ ct, hat h19 1 = some (2, 3000, ct) := ⟨_, by rw [a19 1, if_pos rfl]⟩
  obtain ⟨ct19_1, f19_1⟩ := f19_1
  replace q1 := z19.trans q1
  replace q2 := u19.trans q2
  replace qa : ∀ j, 126 ≤ j → hat h19 j = hat kh19 j := fun j hj => (a19 j).trans ((if_neg (show ¬ j = 1 by omega)).trans (qa j hj))
  refine gst s_jmp ?_
  refine grun (c := o_return 302 0 (djmp 302 16)) (by rfl) ?_
  refine gst s_return ?_
  refine gbacks0 ?_
  refine gst (s_aload rfl) ?_
  refine gst (s_dup rfl) ?_
  refine gst (s_getfield (w := .inl 9) f19_0 rfl (by decide +kernel)) ?_
  refine gst s_int ?_
  refine gst (s_bin (v := 10) rfl) ?_
  refine gputfield (w := 10) w19 f19_0 rfl (fun k => fe_0 rfl k) ?_
  intro h20 z20 u20 w20 a20
  have f20_0 : hat h20 0 = some (16, 12, 0x77000000000000006d000000000000006b000000000000005e000000000000005800000000000000570000000000000055000000000000002c000000000000000300000000ffffffff000000000000000a000000000000000262b50e0abe1410fd) := by rw [a20 0, if_pos rfl]; exact congrArg (fun z => some (16, 12, z)) (by decide +kernel)
  have f20_1 := (a20 1).trans ((if_neg (by decide)).trans f19_1)
  replace q1 := z20.trans q1
  replace q2 := u20.trans q2
  replace qa : ∀ j, 126 ≤ j → hat h20 j = hat kh19 j := fun j hj => (a20 j).trans ((if_neg (show ¬ j = 0 by omega)).trans (qa j hj))
  refine gst (s_iinc (v := 8) (u := [(0, .inr (.inr 1)), (1, _)]) rfl rfl rfl) ?_
  refine gst s_goto ?_
  refine grun (c := o_iload 295 2 (o_if .lt 295 37 (o_aload 295 0 (o_getfield 295 12291 (o_aload 295 0 (o_getfield 295 12292 (o_iload 295 1 (o_iload 295 2 (o_bin dShr 295 0 (o_static 295 4948796 (o_aload 295 0 (o_dup 295 0 (o_getfield 295 12292 (o_int 295 1 (o_bin dAdd 295 0 (o_putfield 295 12292 (o_iinc 295 12884901880 (o_goto 295 3 (djmp 295 37))))))))))))))))))) (by rfl) ?_
  refine gst (s_iload rfl) ?_
  refine gst (s_if_f rfl) ?_
  refine gst (s_aload rfl) ?_
  refine gst (s_getfield (w := .inr (.inr 2)) f20_0 rfl (by decide +kernel)) ?_
  refine gst (s_aload rfl) ?_
  refine gst (s_getfield (w := .inl 10) f20_0 rfl (by decide +kernel)) ?_
  refine gst (s_iload rfl) ?_
  refine gst (s_iload rfl) ?_
  refine gst (s_bin rfl) ?_
  refine gstatic (as := [.inr (.inr 2), .inl 10, _]) (fun _ => rfl) rfl rfl ?_
  refine grun (c := o_iload 302 1 (o_if .lt 302 15 (o_iload 302 1 (o_aload 302 0 (o_alen 302 0 (o_icmp .ge 302 15 (o_aload 302 0 (o_iload 302 1 (o_iload 302 2 (o_un dI2b 302 0 (o_bastore 302 0 (djmp 302 15)))))))))))) (by rfl) ?_
  refine gst (s_iload rfl) ?_
  refine gst (s_if_f rfl) ?_
  refine gst (s_iload rfl) ?_
  refine gst (s_aload rfl) ?_
  refine gst (s_alen f20_1 rfl) ?_
  refine gst (s_icmp_f rfl) ?_
  refine gst (s_aload rfl) ?_
  refine gst (s_iload rfl) ?_
  refine gst (s_iload rfl) ?_
  refine gst (s_un rfl) ?_
  refine gbastore (j := 10) w20 f20_1 rfl (by decide) (by decide) ?_
  intro h21 z21 u21 w21 a21
  have f21_0 := (a21 0).trans ((if_neg (by decide)).trans f20_0)
  have f21_1 : ∃ ct, hat h21 1 = some (2, 3000, ct) := ⟨_, by rw [a21 1, if_pos rfl]⟩
  obtain ⟨ct21_1, f21_1⟩ := f21_1
  replace q1 := z21.trans q1
  replace q2 := u21.trans q2
  replace qa : ∀ j, 126 ≤ j → hat h21 j = hat kh19 j := fun j hj => (a21 j).trans ((if_neg (show ¬ j = 1 by omega)).trans (qa j hj))
  refine gst s_jmp ?_
  refine grun (c := o_return 302 0 (djmp 302 16)) (by rfl) ?_
  refine gst s_return ?_
  refine gbacks0 ?_
  refine gst (s_aload rfl) ?_
  refine gst (s_dup rfl) ?_
  refine gst (s_getfield (w := .inl 10) f21_0 rfl (by decide +kernel)) ?_
  refine gst s_int ?_
  refine gst (s_bin (v := 11) rfl) ?_
  refine gputfield (w := 11) w21 f21_0 rfl (fun k => fe_0 rfl k) ?_
  intro h22 z22 u22 w22 a22
  have f22_0 : hat h22 0 = some (16, 12, 0x77000000000000006d000000000000006b000000000000005e000000000000005800000000000000570000000000000055000000000000002c000000000000000300000000ffffffff000000000000000b0000000000000002819f363117776859) := by rw [a22 0, if_pos rfl]; exact congrArg (fun z => some (16, 12, z)) (by decide +kernel)
  have f22_1 := (a22 1).trans ((if_neg (by decide)).trans f21_1)
  replace q1 := z22.trans q1
  replace q2 := u22.trans q2
  replace qa : ∀ j, 126 ≤ j → hat h22 j = hat kh19 j := fun j hj => (a22 j).trans ((if_neg (show ¬ j = 0 by omega)).trans (qa j hj))
  refine gst (s_iinc (v := 0) (u := [(0, .inr (.inr 1)), (1, _)]) rfl rfl rfl) ?_
  refine gst s_goto ?_
  refine grun (c := o_iload 295 2 (o_if .lt 295 37 (o_aload 295 0 (o_getfield 295 12291 (o_aload 295 0 (o_getfield 295 12292 (o_iload 295 1 (o_iload 295 2 (o_bin dShr 295 0 (o_static 295 4948796 (o_aload 295 0 (o_dup 295 0 (o_getfield 295 12292 (o_int 295 1 (o_bin dAdd 295 0 (o_putfield 295 12292 (o_iinc 295 12884901880 (o_goto 295 3 (djmp 295 37))))))))))))))))))) (by rfl) ?_
  refine gst (s_iload rfl) ?_
  refine gst (s_if_f rfl) ?_
  refine gst (s_aload rfl) ?_
  refine gst (s_getfield (w := .inr (.inr 2)) f22_0 rfl (by decide +kernel)) ?_
  refine gst (s_aload rfl) ?_
  refine gst (s_getfield (w := .inl 11) f22_0 rfl (by decide +kernel)) ?_
  refine gst (s_iload rfl) ?_
  refine gst (s_iload rfl) ?_
  refine gst (s_bin rfl) ?_
  refine gstatic (as := [.inr (.inr 2), .inl 11, _]) (fun _ => rfl) rfl rfl ?_
  refine grun (c := o_iload 302 1 (o_if .lt 302 15 (o_iload 302 1 (o_aload 302 0 (o_alen 302 0 (o_icmp .ge 302 15 (o_aload 302 0 (o_iload 302 1 (o_iload 302 2 (o_un dI2b 302 0 (o_bastore 302 0 (djmp 302 15)))))))))))) (by rfl) ?_
  refine gst (s_iload rfl) ?_
  refine gst (s_if_f rfl) ?_
  refine gst (s_iload rfl) ?_
  refine gst (s_aload rfl) ?_
  refine gst (s_alen f22_1 rfl) ?_
  refine gst (s_icmp_f rfl) ?_
  refine gst (s_aload rfl) ?_
  refine gst (s_iload rfl) ?_
  refine gst (s_iload rfl) ?_
  refine gst (s_un rfl) ?_
  refine gbastore (j := 11) w22 f22_1 rfl (by decide) (by decide) ?_
  intro h23 z23 u23 w23 a23
  have f23_0 := (a23 0).trans ((if_neg (by decide)).trans f22_0)
  have f23_1 : ∃ ct, hat h23 1 = some (2, 3000, ct) := ⟨_, by rw [a23 1, if_pos rfl]⟩
  obtain ⟨ct23_1, f23_1⟩ := f23_1
  replace q1 := z23.trans q1
  replace q2 := u23.trans q2
  replace qa : ∀ j, 126 ≤ j → hat h23 j = hat kh19 j := fun j hj => (a23 j).trans ((if_neg (show ¬ j = 1 by omega)).trans (qa j hj))
  refine gst s_jmp ?_
  refine grun (c := o_return 302 0 (djmp 302 16)) (by rfl) ?_
  refine gst s_return ?_
  refine gbacks0 ?_
  refine gst (s_aload rfl) ?_
  refine gst (s_dup rfl) ?_
  refine gst (s_getfield (w := .inl 11) f23_0 rfl (by decide +kernel)) ?_
  refine gst s_int ?_
  refine gst (s_bin (v := 12) rfl) ?_
  refine gputfield (w := 12) w23 f23_0 rfl (fun k => fe_0 rfl k) ?_
  intro h24 z24 u24 w24 a24
  have f24_0 : hat h24 0 = some (16, 12, 0x77000000000000006d000000000000006b000000000000005e000000000000005800000000000000570000000000000055000000000000002c000000000000000300000000ffffffff000000000000000c000000000000000221695e27ec56c1a5) := by rw [a24 0, if_pos rfl]; exact congrArg (fun z => some (16, 12, z)) (by decide +kernel)
  have f24_1 := (a24 1).trans ((if_neg (by decide)).trans f23_1)
  replace q1 := z24.trans q1
  replace q2 := u24.trans q2
  replace qa : ∀ j, 126 ≤ j → hat h24 j = hat kh19 j := fun j hj => (a24 j).trans ((if_neg (show ¬ j = 0 by omega)).trans (qa j hj))
  refine gst (s_iinc (v := 4294967288) (u := [(0, .inr (.inr 1)), (1, _)]) rfl rfl rfl) ?_
  refine gst s_goto ?_
  refine grun (c := o_iload 295 2 (o_if .lt 295 37 (o_aload 295 0 (o_getfield 295 12291 (o_aload 295 0 (o_getfield 295 12292 (o_iload 295 1 (o_iload 295 2 (o_bin dShr 295 0 (o_static 295 4948796 (o_aload 295 0 (o_dup 295 0 (o_getfield 295 12292 (o_int 295 1 (o_bin dAdd 295 0 (o_putfield 295 12292 (o_iinc 295 12884901880 (o_goto 295 3 (djmp 295 37))))))))))))))))))) (by rfl) ?_
  refine gst (s_iload rfl) ?_
  refine gst (s_if_t rfl) ?_
  refine grun (c := o_return 295 0 (djmp 295 38)) (by rfl) ?_
  refine gst s_return ?_
  refine gbackv0 ?_
  refine gst (s_aload rfl) ?_
  refine gst (s_iload rfl) ?_
  refine gvirtual (as := [_]) (fun _ => rfl) f24_0 rfl rfl rfl ?_
  refine grun (c := o_int 295 24 (o_istore 295 2 (djmp 295 3))) (by rfl) ?_
  refine gst s_int ?_
  refine gst (s_istore (u := [(0, .inr (.inr 1)), (1, _)]) rfl) ?_
  refine gst s_jmp ?_
  refine grun (c := o_iload 295 2 (o_if .lt 295 37 (o_aload 295 0 (o_getfield 295 12291 (o_aload 295 0 (o_getfield 295 12292 (o_iload 295 1 (o_iload 295 2 (o_bin dShr 295 0 (o_static 295 4948796 (o_aload 295 0 (o_dup 295 0 (o_getfield 295 12292 (o_int 295 1 (o_bin dAdd 295 0 (o_putfield 295 12292 (o_iinc 295 12884901880 (o_goto 295 3 (djmp 295 37))))))))))))))))))) (by rfl) ?_
  refine gst (s_iload rfl) ?_
  refine gst (s_if_f rfl) ?_
  refine gst (s_aload rfl) ?_
  refine gst (s_getfield (w := .inr (.inr 2)) f24_0 rfl (by decide +kernel)) ?_
  refine gst (s_aload rfl) ?_
  refine gst (s_getfield (w := .inl 12) f24_0 rfl (by decide +kernel)) ?_
  refine gst (s_iload rfl) ?_
  refine gst (s_iload rfl) ?_
  refine gst (s_bin rfl) ?_
  refine gstatic (as := [.inr (.inr 2), .inl 12, _]) (fun _ => rfl) rfl rfl ?_
  refine grun (c := o_iload 302 1 (o_if .lt 302 15 (o_iload 302 1 (o_aload 302 0 (o_alen 302 0 (o_icmp .ge 302 15 (o_aload 302 0 (o_iload 302 1 (o_iload 302 2 (o_un dI2b 302 0 (o_bastore 302 0 (djmp 302 15)))))))))))) (by rfl) ?_
  refine gst (s_iload rfl) ?_
  refine gst (s_if_f rfl) ?_
  refine gst (s_iload rfl) ?_
  refine gst (s_aload rfl) ?_
  refine gst (s_alen f24_1 rfl) ?_
  refine gst (s_icmp_f rfl) ?_
  refine gst (s_aload rfl) ?_
  refine gst (s_iload rfl) ?_
  refine gst (s_iload rfl) ?_
  refine gst (s_un rfl) ?_
  refine gbastore (j := 12) w24 f24_1 rfl (by decide) (by decide) ?_
  intro h25 z25 u25 w25 a25
  have f25_0 := (a25 0).trans ((if_neg (by decide)).trans f24_0)
  have f25_1 : ∃ ct, hat h25 1 = some (2, 3000, ct) := ⟨_, by rw [a25 1, if_pos rfl]⟩
  obtain ⟨ct25_1, f25_1⟩ := f25_1
  replace q1 := z25.trans q1
  replace q2 := u25.trans q2
  replace qa : ∀ j, 126 ≤ j → hat h25 j = hat kh19 j := fun j hj => (a25 j).trans ((if_neg (show ¬ j = 1 by omega)).trans (qa j hj))
  refine gst s_jmp ?_
  refine grun (c := o_return 302 0 (djmp 302 16)) (by rfl) ?_
  refine gst s_return ?_
  refine gbacks0 ?_
  refine gst (s_aload rfl) ?_
  refine gst (s_dup rfl) ?_
  refine gst (s_getfield (w := .inl 12) f25_0 rfl (by decide +kernel)) ?_
  refine gst s_int ?_
  refine gst (s_bin (v := 13) rfl) ?_
  refine gputfield (w := 13) w25 f25_0 rfl (fun k => fe_0 rfl k) ?_
  intro h26 z26 u26 w26 a26
  have f26_0 : hat h26 0 = some (16, 12, 0x77000000000000006d000000000000006b000000000000005e000000000000005800000000000000570000000000000055000000000000002c000000000000000300000000ffffffff000000000000000d00000000000000024074862e45b65901) := by rw [a26 0, if_pos rfl]; exact congrArg (fun z => some (16, 12, z)) (by decide +kernel)
  have f26_1 := (a26 1).trans ((if_neg (by decide)).trans f25_1)
  replace q1 := z26.trans q1
  replace q2 := u26.trans q2
  replace qa : ∀ j, 126 ≤ j → hat h26 j = hat kh19 j := fun j hj => (a26 j).trans ((if_neg (show ¬ j = 0 by omega)).trans (qa j hj))
  refine gst (s_iinc (v := 16) (u := [(0, .inr (.inr 1)), (1, _)]) rfl rfl rfl) ?_
  refine gst s_goto ?_
  refine grun (c := o_iload 295 2 (o_if .lt 295 37 (o_aload 295 0 (o_getfield 295 12291 (o_aload 295 0 (o_getfield 295 12292 (o_iload 295 1 (o_iload 295 2 (o_bin dShr 295 0 (o_static 295 4948796 (o_aload 295 0 (o_dup 295 0 (o_getfield 295 12292 (o_int 295 1 (o_bin dAdd 295 0 (o_putfield 295 12292 (o_iinc 295 12884901880 (o_goto 295 3 (djmp 295 37))))))))))))))))))) (by rfl) ?_
  refine gst (s_iload rfl) ?_
  refine gst (s_if_f rfl) ?_
  refine gst (s_aload rfl) ?_
  refine gst (s_getfield (w := .inr (.inr 2)) f26_0 rfl (by decide +kernel)) ?_
  refine gst (s_aload rfl) ?_
  refine gst (s_getfield (w := .inl 13) f26_0 rfl (by decide +kernel)) ?_
  refine gst (s_iload rfl) ?_
  refine gst (s_iload rfl) ?_
  refine gst (s_bin rfl) ?_
  refine gstatic (as := [.inr (.inr 2), .inl 13, _]) (fun _ => rfl) rfl rfl ?_
  refine grun (c := o_iload 302 1 (o_if .lt 302 15 (o_iload 302 1 (o_aload 302 0 (o_alen 302 0 (o_icmp .ge 302 15 (o_aload 302 0 (o_iload 302 1 (o_iload 302 2 (o_un dI2b 302 0 (o_bastore 302 0 (djmp 302 15)))))))))))) (by rfl) ?_
  refine gst (s_iload rfl) ?_
  refine gst (s_if_f rfl) ?_
  refine gst (s_iload rfl) ?_
  refine gst (s_aload rfl) ?_
  refine gst (s_alen f26_1 rfl) ?_
  refine gst (s_icmp_f rfl) ?_
  refine gst (s_aload rfl) ?_
  refine gst (s_iload rfl) ?_
  refine gst (s_iload rfl) ?_
  refine gst (s_un rfl) ?_
  refine gbastore (j := 13) w26 f26_1 rfl (by decide) (by decide) ?_
  intro h27 z27 u27 w27 a27
  have f27_0 := (a27 0).trans ((if_neg (by decide)).trans f26_0)
  have f27_1 : ∃ ct, hat h27 1 = some (2, 3000, ct) := ⟨_, by rw [a27 1, if_pos rfl]⟩
  obtain ⟨ct27_1, f27_1⟩ := f27_1
  replace q1 := z27.trans q1
  replace q2 := u27.trans q2
  replace qa : ∀ j, 126 ≤ j → hat h27 j = hat kh19 j := fun j hj => (a27 j).trans ((if_neg (show ¬ j = 1 by omega)).trans (qa j hj))
  refine gst s_jmp ?_
  refine grun (c := o_return 302 0 (djmp 302 16)) (by rfl) ?_
  refine gst s_return ?_
  refine gbacks0 ?_
  refine gst (s_aload rfl) ?_
  refine gst (s_dup rfl) ?_
  refine gst (s_getfield (w := .inl 13) f27_0 rfl (by decide +kernel)) ?_
  refine gst s_int ?_
  refine gst (s_bin (v := 14) rfl) ?_
  refine gputfield (w := 14) w27 f27_0 rfl (fun k => fe_0 rfl k) ?_
  intro h28 z28 u28 w28 a28
  have f28_0 : hat h28 0 = some (16, 12, 0x77000000000000006d000000000000006b000000000000005e000000000000005800000000000000570000000000000055000000000000002c000000000000000300000000ffffffff000000000000000e0000000000000002e75eaed51a99be6d) := by rw [a28 0, if_pos rfl]; exact congrArg (fun z => some (16, 12, z)) (by decide +kernel)
  have f28_1 := (a28 1).trans ((if_neg (by decide)).trans f27_1)
  replace q1 := z28.trans q1
  replace q2 := u28.trans q2
  replace qa : ∀ j, 126 ≤ j → hat h28 j = hat kh19 j := fun j hj => (a28 j).trans ((if_neg (show ¬ j = 0 by omega)).trans (qa j hj))
  refine gst (s_iinc (v := 8) (u := [(0, .inr (.inr 1)), (1, _)]) rfl rfl rfl) ?_
  refine gst s_goto ?_
  refine grun (c := o_iload 295 2 (o_if .lt 295 37 (o_aload 295 0 (o_getfield 295 12291 (o_aload 295 0 (o_getfield 295 12292 (o_iload 295 1 (o_iload 295 2 (o_bin dShr 295 0 (o_static 295 4948796 (o_aload 295 0 (o_dup 295 0 (o_getfield 295 12292 (o_int 295 1 (o_bin dAdd 295 0 (o_putfield 295 12292 (o_iinc 295 12884901880 (o_goto 295 3 (djmp 295 37))))))))))))))))))) (by rfl) ?_
  refine gst (s_iload rfl) ?_
  refine gst (s_if_f rfl) ?_
  refine gst (s_aload rfl) ?_
  refine gst (s_getfield (w := .inr (.inr 2)) f28_0 rfl (by decide +kernel)) ?_
  refine gst (s_aload rfl) ?_
  refine gst (s_getfield (w := .inl 14) f28_0 rfl (by decide +kernel)) ?_
  refine gst (s_iload rfl) ?_
  refine gst (s_iload rfl) ?_
  refine gst (s_bin rfl) ?_
  refine gstatic (as := [.inr (.inr 2), .inl 14, _]) (fun _ => rfl) rfl rfl ?_
  refine grun (c := o_iload 302 1 (o_if .lt 302 15 (o_iload 302 1 (o_aload 302 0 (o_alen 302 0 (o_icmp .ge 302 15 (o_aload 302 0 (o_iload 302 1 (o_iload 302 2 (o_un dI2b 302 0 (o_bastore 302 0 (djmp 302 15)))))))))))) (by rfl) ?_
  refine gst (s_iload rfl) ?_
  refine gst (s_if_f rfl) ?_
  refine gst (s_iload rfl) ?_
  refine gst (s_aload rfl) ?_
  refine gst (s_alen f28_1 rfl) ?_
  refine gst (s_icmp_f rfl) ?_
  refine gst (s_aload rfl) ?_
  refine gst (s_iload rfl) ?_
  refine gst (s_iload rfl) ?_
  refine gst (s_un rfl) ?_
  refine gbastore (j := 14) w28 f28_1 rfl (by decide) (by decide) ?_
  intro h29 z29 u29 w29 a29
  have f29_0 := (a29 0).trans ((if_neg (by decide)).trans f28_0)
  have f29_1 : ∃ ct, hat h29 1 = some (2, 3000, ct) := ⟨_, by rw [a29 1, if_pos rfl]⟩
  obtain ⟨ct29_1, f29_1⟩ := f29_1
  replace q1 := z29.trans q1
  replace q2 := u29.trans q2
  replace qa : ∀ j, 126 ≤ j → hat h29 j = hat kh19 j := fun j hj => (a29 j).trans ((if_neg (show ¬ j = 1 by omega)).trans (qa j hj))
  refine gst s_jmp ?_
  refine grun (c := o_return 302 0 (djmp 302 16)) (by rfl) ?_
  refine gst s_return ?_
  refine gbacks0 ?_
  refine gst (s_aload rfl) ?_
  refine gst (s_dup rfl) ?_
  refine gst (s_getfield (w := .inl 14) f29_0 rfl (by decide +kernel)) ?_
  refine gst s_int ?_
  refine gst (s_bin (v := 15) rfl) ?_
  refine gputfield (w := 15) w29 f29_0 rfl (fun k => fe_0 rfl k) ?_
  intro h30 z30 u30 w30 a30
  have f30_0 : hat h30 0 = some (16, 12, 0x77000000000000006d000000000000006b000000000000005e000000000000005800000000000000570000000000000055000000000000002c000000000000000300000000ffffffff000000000000000f00000000000000020628d6dbf3f917c9) := by rw [a30 0, if_pos rfl]; exact congrArg (fun z => some (16, 12, z)) (by decide +kernel)
  have f30_1 := (a30 1).trans ((if_neg (by decide)).trans f29_1)
  replace q1 := z30.trans q1
  replace q2 := u30.trans q2
  replace qa : ∀ j, 126 ≤ j → hat h30 j = hat kh19 j := fun j hj => (a30 j).trans ((if_neg (show ¬ j = 0 by omega)).trans (qa j hj))
  refine gst (s_iinc (v := 0) (u := [(0, .inr (.inr 1)), (1, _)]) rfl rfl rfl) ?_
  refine gst s_goto ?_
  refine grun (c := o_iload 295 2 (o_if .lt 295 37 (o_aload 295 0 (o_getfield 295 12291 (o_aload 295 0 (o_getfield 295 12292 (o_iload 295 1 (o_iload 295 2 (o_bin dShr 295 0 (o_static 295 4948796 (o_aload 295 0 (o_dup 295 0 (o_getfield 295 12292 (o_int 295 1 (o_bin dAdd 295 0 (o_putfield 295 12292 (o_iinc 295 12884901880 (o_goto 295 3 (djmp 295 37))))))))))))))))))) (by rfl) ?_
  refine gst (s_iload rfl) ?_
  refine gst (s_if_f rfl) ?_
  refine gst (s_aload rfl) ?_
  refine gst (s_getfield (w := .inr (.inr 2)) f30_0 rfl (by decide +kernel)) ?_
  refine gst (s_aload rfl) ?_
  refine gst (s_getfield (w := .inl 15) f30_0 rfl (by decide +kernel)) ?_
  refine gst (s_iload rfl) ?_
  refine gst (s_iload rfl) ?_
  refine gst (s_bin rfl) ?_
  refine gstatic (as := [.inr (.inr 2), .inl 15, _]) (fun _ => rfl) rfl rfl ?_
  refine grun (c := o_iload 302 1 (o_if .lt 302 15 (o_iload 302 1 (o_aload 302 0 (o_alen 302 0 (o_icmp .ge 302 15 (o_aload 302 0 (o_iload 302 1 (o_iload 302 2 (o_un dI2b 302 0 (o_bastore 302 0 (djmp 302 15)))))))))))) (by rfl) ?_
  refine gst (s_iload rfl) ?_
  refine gst (s_if_f rfl) ?_
  refine gst (s_iload rfl) ?_
  refine gst (s_aload rfl) ?_
  refine gst (s_alen f30_1 rfl) ?_
  refine gst (s_icmp_f rfl) ?_
  refine gst (s_aload rfl) ?_
  refine gst (s_iload rfl) ?_
  refine gst (s_iload rfl) ?_
  refine gst (s_un rfl) ?_
  refine gbastore (j := 15) w30 f30_1 rfl (by decide) (by decide) ?_
  intro h31 z31 u31 w31 a31
  have f31_0 := (a31 0).trans ((if_neg (by decide)).trans f30_0)
  have f31_1 : ∃ ct, hat h31 1 = some (2, 3000, ct) := ⟨_, by rw [a31 1, if_pos rfl]⟩
  obtain ⟨ct31_1, f31_1⟩ := f31_1
  replace q1 := z31.trans q1
  replace q2 := u31.trans q2
  replace qa : ∀ j, 126 ≤ j → hat h31 j = hat kh19 j := fun j hj => (a31 j).trans ((if_neg (show ¬ j = 1 by omega)).trans (qa j hj))
  refine gst s_jmp ?_
  refine grun (c := o_return 302 0 (djmp 302 16)) (by rfl) ?_
  refine gst s_return ?_
  refine gbacks0 ?_
  refine gst (s_aload rfl) ?_
  refine gst (s_dup rfl) ?_
  refine gst (s_getfield (w := .inl 15) f31_0 rfl (by decide +kernel)) ?_
  refine gst s_int ?_
  refine gst (s_bin (v := 16) rfl) ?_
  refine gputfield (w := 16) w31 f31_0 rfl (fun k => fe_0 rfl k) ?_
  intro h32 z32 u32 w32 a32
  have f32_0 : hat h32 0 = some (16, 12, 0x77000000000000006d000000000000006b000000000000005e000000000000005800000000000000570000000000000055000000000000002c000000000000000300000000ffffffff00000000000000100000000000000002a532fec248d86f55) := by rw [a32 0, if_pos rfl]; exact congrArg (fun z => some (16, 12, z)) (by decide +kernel)
  have f32_1 := (a32 1).trans ((if_neg (by decide)).trans f31_1)
  replace q1 := z32.trans q1
  replace q2 := u32.trans q2
  replace qa : ∀ j, 126 ≤ j → hat h32 j = hat kh19 j := fun j hj => (a32 j).trans ((if_neg (show ¬ j = 0 by omega)).trans (qa j hj))
  refine gst (s_iinc (v := 4294967288) (u := [(0, .inr (.inr 1)), (1, _)]) rfl rfl rfl) ?_
  refine gst s_goto ?_
  refine grun (c := o_iload 295 2 (o_if .lt 295 37 (o_aload 295 0 (o_getfield 295 12291 (o_aload 295 0 (o_getfield 295 12292 (o_iload 295 1 (o_iload 295 2 (o_bin dShr 295 0 (o_static 295 4948796 (o_aload 295 0 (o_dup 295 0 (o_getfield 295 12292 (o_int 295 1 (o_bin dAdd 295 0 (o_putfield 295 12292 (o_iinc 295 12884901880 (o_goto 295 3 (djmp 295 37))))))))))))))))))) (by rfl) ?_
  refine gst (s_iload rfl) ?_
  refine gst (s_if_t rfl) ?_
  refine grun (c := o_return 295 0 (djmp 295 38)) (by rfl) ?_
  refine gst s_return ?_
  refine gbackv0 ?_
  refine gst (s_aload rfl) ?_
  refine gst (s_iload rfl) ?_
  refine gvirtual (as := [_]) (fun _ => rfl) f32_0 rfl rfl rfl ?_
  refine grun (c := o_int 295 24 (o_istore 295 2 (djmp 295 3))) (by rfl) ?_
  refine gst s_int ?_
  refine gst (s_istore (u := [(0, .inr (.inr 1)), (1, _)]) rfl) ?_
  refine gst s_jmp ?_
  refine grun (c := o_iload 295 2 (o_if .lt 295 37 (o_aload 295 0 (o_getfield 295 12291 (o_aload 295 0 (o_getfield 295 12292 (o_iload 295 1 (o_iload 295 2 (o_bin dShr 295 0 (o_static 295 4948796 (o_aload 295 0 (o_dup 295 0 (o_getfield 295 12292 (o_int 295 1 (o_bin dAdd 295 0 (o_putfield 295 12292 (o_iinc 295 12884901880 (o_goto 295 3 (djmp 295 37))))))))))))))))))) (by rfl) ?_
  refine gst (s_iload rfl) ?_
  refine gst (s_if_f rfl) ?_
  refine gst (s_aload rfl) ?_
  refine gst (s_getfield (w := .inr (.inr 2)) f32_0 rfl (by decide +kernel)) ?_
  refine gst (s_aload rfl) ?_
  refine gst (s_getfield (w := .inl 16) f32_0 rfl (by decide +kernel)) ?_
  refine gst (s_iload rfl) ?_
  refine gst (s_iload rfl) ?_
  refine gst (s_bin rfl) ?_
  refine gstatic (as := [.inr (.inr 2), .inl 16, _]) (fun _ => rfl) rfl rfl ?_
  refine grun (c := o_iload 302 1 (o_if .lt 302 15 (o_iload 302 1 (o_aload 302 0 (o_alen 302 0 (o_icmp .ge 302 15 (o_aload 302 0 (o_iload 302 1 (o_iload 302 2 (o_un dI2b 302 0 (o_bastore 302 0 (djmp 302 15)))))))))))) (by rfl) ?_
  refine gst (s_iload rfl) ?_
  refine gst (s_if_f rfl) ?_
  refine gst (s_iload rfl) ?_
  refine gst (s_aload rfl) ?_
  refine gst (s_alen f32_1 rfl) ?_
  refine gst (s_icmp_f rfl) ?_
  refine gst (s_aload rfl) ?_
  refine gst (s_iload rfl) ?_
  refine gst (s_iload rfl) ?_
  refine gst (s_un rfl) ?_
  refine gbastore (j := 16) w32 f32_1 rfl (by decide) (by decide) ?_
  intro h33 z33 u33 w33 a33
  have f33_0 := (a33 0).trans ((if_neg (by decide)).trans f32_0)
  have f33_1 : ∃ ct, hat h33 1 = some (2, 3000, ct) := ⟨_, by rw [a33 1, if_pos rfl]⟩
  obtain ⟨ct33_1, f33_1⟩ := f33_1
  replace q1 := z33.trans q1
  replace q2 := u33.trans q2
  replace qa : ∀ j, 126 ≤ j → hat h33 j = hat kh19 j := fun j hj => (a33 j).trans ((if_neg (show ¬ j = 1 by omega)).trans (qa j hj))
  refine gst s_jmp ?_
  refine grun (c := o_return 302 0 (djmp 302 16)) (by rfl) ?_
  refine gst s_return ?_
  refine gbacks0 ?_
  refine gst (s_aload rfl) ?_
  refine gst (s_dup rfl) ?_
  refine gst (s_getfield (w := .inl 16) f33_0 rfl (by decide +kernel)) ?_
  refine gst s_int ?_
  refine gst (s_bin (v := 17) rfl) ?_
  refine gputfield (w := 17) w33 f33_0 rfl (fun k => fe_0 rfl k) ?_
  intro h34 z34 u34 w34 a34
  have f34_0 : hat h34 0 = some (16, 12, 0x77000000000000006d000000000000006b000000000000005e000000000000005800000000000000570000000000000055000000000000002c000000000000000300000000ffffffff00000000000000110000000000000002c41c26c9203bc4b1) := by rw [a34 0, if_pos rfl]; exact congrArg (fun z => some (16, 12, z)) (by decide +kernel)
  have f34_1 := (a34 1).trans ((if_neg (by decide)).trans f33_1)
  replace q1 := z34.trans q1
  replace q2 := u34.trans q2
  replace qa : ∀ j, 126 ≤ j → hat h34 j = hat kh19 j := fun j hj => (a34 j).trans ((if_neg (show ¬ j = 0 by omega)).trans (qa j hj))
  refine gst (s_iinc (v := 16) (u := [(0, .inr (.inr 1)), (1, _)]) rfl rfl rfl) ?_
  refine gst s_goto ?_
  refine grun (c := o_iload 295 2 (o_if .lt 295 37 (o_aload 295 0 (o_getfield 295 12291 (o_aload 295 0 (o_getfield 295 12292 (o_iload 295 1 (o_iload 295 2 (o_bin dShr 295 0 (o_static 295 4948796 (o_aload 295 0 (o_dup 295 0 (o_getfield 295 12292 (o_int 295 1 (o_bin dAdd 295 0 (o_putfield 295 12292 (o_iinc 295 12884901880 (o_goto 295 3 (djmp 295 37))))))))))))))))))) (by rfl) ?_
  refine gst (s_iload rfl) ?_
  refine gst (s_if_f rfl) ?_
  refine gst (s_aload rfl) ?_
  refine gst (s_getfield (w := .inr (.inr 2)) f34_0 rfl (by decide +kernel)) ?_
  refine gst (s_aload rfl) ?_
  refine gst (s_getfield (w := .inl 17) f34_0 rfl (by decide +kernel)) ?_
  refine gst (s_iload rfl) ?_
  refine gst (s_iload rfl) ?_
  refine gst (s_bin rfl) ?_
  refine gstatic (as := [.inr (.inr 2), .inl 17, _]) (fun _ => rfl) rfl rfl ?_
  refine grun (c := o_iload 302 1 (o_if .lt 302 15 (o_iload 302 1 (o_aload 302 0 (o_alen 302 0 (o_icmp .ge 302 15 (o_aload 302 0 (o_iload 302 1 (o_iload 302 2 (o_un dI2b 302 0 (o_bastore 302 0 (djmp 302 15)))))))))))) (by rfl) ?_
  refine gst (s_iload rfl) ?_
  refine gst (s_if_f rfl) ?_
  refine gst (s_iload rfl) ?_
  refine gst (s_aload rfl) ?_
  refine gst (s_alen f34_1 rfl) ?_
  refine gst (s_icmp_f rfl) ?_
  refine gst (s_aload rfl) ?_
  refine gst (s_iload rfl) ?_
  refine gst (s_iload rfl) ?_
  refine gst (s_un rfl) ?_
  refine gbastore (j := 17) w34 f34_1 rfl (by decide) (by decide) ?_
  intro h35 z35 u35 w35 a35
  have f35_0 := (a35 0).trans ((if_neg (by decide)).trans f34_0)
  have f35_1 : ∃ ct, hat h35 1 = some (2, 3000, ct) := ⟨_, by rw [a35 1, if_pos rfl]⟩
  obtain ⟨ct35_1, f35_1⟩ := f35_1
  replace q1 := z35.trans q1
  replace q2 := u35.trans q2
  replace qa : ∀ j, 126 ≤ j → hat h35 j = hat kh19 j := fun j hj => (a35 j).trans ((if_neg (show ¬ j = 1 by omega)).trans (qa j hj))
  refine gst s_jmp ?_
  refine grun (c := o_return 302 0 (djmp 302 16)) (by rfl) ?_
  refine gst s_return ?_
  refine gbacks0 ?_
  refine gst (s_aload rfl) ?_
  refine gst (s_dup rfl) ?_
  refine gst (s_getfield (w := .inl 17) f35_0 rfl (by decide +kernel)) ?_
  refine gst s_int ?_
  refine gst (s_bin (v := 18) rfl) ?_
  refine gputfield (w := 18) w35 f35_0 rfl (fun k => fe_0 rfl k) ?_
  intro h36 z36 u36 w36 a36
  have f36_0 : hat h36 0 = some (16, 12, 0x77000000000000006d000000000000006b000000000000005e000000000000005800000000000000570000000000000055000000000000002c000000000000000300000000ffffffff000000000000001200000000000000027be64efff91b5c1d) := by rw [a36 0, if_pos rfl]; exact congrArg (fun z => some (16, 12, z)) (by decide +kernel)
  have f36_1 := (a36 1).trans ((if_neg (by decide)).trans f35_1)
  replace q1 := z36.trans q1
  replace q2 := u36.trans q2
  replace qa : ∀ j, 126 ≤ j → hat h36 j = hat kh19 j := fun j hj => (a36 j).trans ((if_neg (show ¬ j = 0 by omega)).trans (qa j hj))
  refine gst (s_iinc (v := 8) (u := [(0, .inr (.inr 1)), (1, _)]) rfl rfl rfl) ?_
  refine gst s_goto ?_
  refine grun (c := o_iload 295 2 (o_if .lt 295 37 (o_aload 295 0 (o_getfield 295 12291 (o_aload 295 0 (o_getfield 295 12292 (o_iload 295 1 (o_iload 295 2 (o_bin dShr 295 0 (o_static 295 4948796 (o_aload 295 0 (o_dup 295 0 (o_getfield 295 12292 (o_int 295 1 (o_bin dAdd 295 0 (o_putfield 295 12292 (o_iinc 295 12884901880 (o_goto 295 3 (djmp 295 37))))))))))))))))))) (by rfl) ?_
  refine gst (s_iload rfl) ?_
  refine gst (s_if_f rfl) ?_
  refine gst (s_aload rfl) ?_
  refine gst (s_getfield (w := .inr (.inr 2)) f36_0 rfl (by decide +kernel)) ?_
  refine gst (s_aload rfl) ?_
  refine gst (s_getfield (w := .inl 18) f36_0 rfl (by decide +kernel)) ?_
  refine gst (s_iload rfl) ?_
  refine gst (s_iload rfl) ?_
  refine gst (s_bin rfl) ?_
  refine gstatic (as := [.inr (.inr 2), .inl 18, _]) (fun _ => rfl) rfl rfl ?_
  refine grun (c := o_iload 302 1 (o_if .lt 302 15 (o_iload 302 1 (o_aload 302 0 (o_alen 302 0 (o_icmp .ge 302 15 (o_aload 302 0 (o_iload 302 1 (o_iload 302 2 (o_un dI2b 302 0 (o_bastore 302 0 (djmp 302 15)))))))))))) (by rfl) ?_
  refine gst (s_iload rfl) ?_
  refine gst (s_if_f rfl) ?_
  refine gst (s_iload rfl) ?_
  refine gst (s_aload rfl) ?_
  refine gst (s_alen f36_1 rfl) ?_
  refine gst (s_icmp_f rfl) ?_
  refine gst (s_aload rfl) ?_
  refine gst (s_iload rfl) ?_
  refine gst (s_iload rfl) ?_
  refine gst (s_un rfl) ?_
  refine gbastore (j := 18) w36 f36_1 rfl (by decide) (by decide) ?_
  intro h37 z37 u37 w37 a37
  have f37_0 := (a37 0).trans ((if_neg (by decide)).trans f36_0)
  have f37_1 : ∃ ct, hat h37 1 = some (2, 3000, ct) := ⟨_, by rw [a37 1, if_pos rfl]⟩
  obtain ⟨ct37_1, f37_1⟩ := f37_1
  replace q1 := z37.trans q1
  replace q2 := u37.trans q2
  replace qa : ∀ j, 126 ≤ j → hat h37 j = hat kh19 j := fun j hj => (a37 j).trans ((if_neg (show ¬ j = 1 by omega)).trans (qa j hj))
  refine gst s_jmp ?_
  refine grun (c := o_return 302 0 (djmp 302 16)) (by rfl) ?_
  refine gst s_return ?_
  refine gbacks0 ?_
  refine gst (s_aload rfl) ?_
  refine gst (s_dup rfl) ?_
  refine gst (s_getfield (w := .inl 18) f37_0 rfl (by decide +kernel)) ?_
  refine gst s_int ?_
  refine gst (s_bin (v := 19) rfl) ?_
  refine gputfield (w := 19) w37 f37_0 rfl (fun k => fe_0 rfl k) ?_
  intro h38 z38 u38 w38 a38
  have f38_0 : hat h38 0 = some (16, 12, 0x77000000000000006d000000000000006b000000000000005e000000000000005800000000000000570000000000000055000000000000002c000000000000000300000000ffffffff000000000000001300000000000000029af076e65e7ab579) := by rw [a38 0, if_pos rfl]; exact congrArg (fun z => some (16, 12, z)) (by decide +kernel)
  have f38_1 := (a38 1).trans ((if_neg (by decide)).trans f37_1)
  replace q1 := z38.trans q1
  replace q2 := u38.trans q2
  replace qa : ∀ j, 126 ≤ j → hat h38 j = hat kh19 j := fun j hj => (a38 j).trans ((if_neg (show ¬ j = 0 by omega)).trans (qa j hj))
  refine gst (s_iinc (v := 0) (u := [(0, .inr (.inr 1)), (1, _)]) rfl rfl rfl) ?_
  refine gst s_goto ?_
  refine grun (c := o_iload 295 2 (o_if .lt 295 37 (o_aload 295 0 (o_getfield 295 12291 (o_aload 295 0 (o_getfield 295 12292 (o_iload 295 1 (o_iload 295 2 (o_bin dShr 295 0 (o_static 295 4948796 (o_aload 295 0 (o_dup 295 0 (o_getfield 295 12292 (o_int 295 1 (o_bin dAdd 295 0 (o_putfield 295 12292 (o_iinc 295 12884901880 (o_goto 295 3 (djmp 295 37))))))))))))))))))) (by rfl) ?_
  refine gst (s_iload rfl) ?_
  refine gst (s_if_f rfl) ?_
  refine gst (s_aload rfl) ?_
  refine gst (s_getfield (w := .inr (.inr 2)) f38_0 rfl (by decide +kernel)) ?_
  refine gst (s_aload rfl) ?_
  refine gst (s_getfield (w := .inl 19) f38_0 rfl (by decide +kernel)) ?_
  refine gst (s_iload rfl) ?_
  refine gst (s_iload rfl) ?_
  refine gst (s_bin rfl) ?_
  refine gstatic (as := [.inr (.inr 2), .inl 19, _]) (fun _ => rfl) rfl rfl ?_
  refine grun (c := o_iload 302 1 (o_if .lt 302 15 (o_iload 302 1 (o_aload 302 0 (o_alen 302 0 (o_icmp .ge 302 15 (o_aload 302 0 (o_iload 302 1 (o_iload 302 2 (o_un dI2b 302 0 (o_bastore 302 0 (djmp 302 15)))))))))))) (by rfl) ?_
  refine gst (s_iload rfl) ?_
  refine gst (s_if_f rfl) ?_
  refine gst (s_iload rfl) ?_
  refine gst (s_aload rfl) ?_
  refine gst (s_alen f38_1 rfl) ?_
  refine gst (s_icmp_f rfl) ?_
  refine gst (s_aload rfl) ?_
  refine gst (s_iload rfl) ?_
  refine gst (s_iload rfl) ?_
  refine gst (s_un rfl) ?_
  refine gbastore (j := 19) w38 f38_1 rfl (by decide) (by decide) ?_
  intro h39 z39 u39 w39 a39
  have f39_0 := (a39 0).trans ((if_neg (by decide)).trans f38_0)
  have f39_1 : ∃ ct, hat h39 1 = some (2, 3000, ct) := ⟨_, by rw [a39 1, if_pos rfl]⟩
  obtain ⟨ct39_1, f39_1⟩ := f39_1
  replace q1 := z39.trans q1
  replace q2 := u39.trans q2
  replace qa : ∀ j, 126 ≤ j → hat h39 j = hat kh19 j := fun j hj => (a39 j).trans ((if_neg (show ¬ j = 1 by omega)).trans (qa j hj))
  refine gst s_jmp ?_
  refine grun (c := o_return 302 0 (djmp 302 16)) (by rfl) ?_
  refine gst s_return ?_
  refine gbacks0 ?_
  refine gst (s_aload rfl) ?_
  refine gst (s_dup rfl) ?_
  refine gst (s_getfield (w := .inl 19) f39_0 rfl (by decide +kernel)) ?_
  refine gst s_int ?_
  refine gst (s_bin (v := 20) rfl) ?_
  refine gputfield (w := 20) w39 f39_0 rfl (fun k => fe_0 rfl k) ?_
  intro h40 z40 u40 w40 a40
  have f40_0 : hat h40 0 = some (16, 12, 0x77000000000000006d000000000000006b000000000000005e000000000000005800000000000000570000000000000055000000000000002c000000000000000300000000ffffffff0000000000000014000000000000000239db9eed375a0ac5) := by rw [a40 0, if_pos rfl]; exact congrArg (fun z => some (16, 12, z)) (by decide +kernel)
  have f40_1 := (a40 1).trans ((if_neg (by decide)).trans f39_1)
  replace q1 := z40.trans q1
  replace q2 := u40.trans q2
  replace qa : ∀ j, 126 ≤ j → hat h40 j = hat kh19 j := fun j hj => (a40 j).trans ((if_neg (show ¬ j = 0 by omega)).trans (qa j hj))
  refine gst (s_iinc (v := 4294967288) (u := [(0, .inr (.inr 1)), (1, _)]) rfl rfl rfl) ?_
  refine gst s_goto ?_
  refine grun (c := o_iload 295 2 (o_if .lt 295 37 (o_aload 295 0 (o_getfield 295 12291 (o_aload 295 0 (o_getfield 295 12292 (o_iload 295 1 (o_iload 295 2 (o_bin dShr 295 0 (o_static 295 4948796 (o_aload 295 0 (o_dup 295 0 (o_getfield 295 12292 (o_int 295 1 (o_bin dAdd 295 0 (o_putfield 295 12292 (o_iinc 295 12884901880 (o_goto 295 3 (djmp 295 37))))))))))))))))))) (by rfl) ?_
  refine gst (s_iload rfl) ?_
  refine gst (s_if_t rfl) ?_
  refine grun (c := o_return 295 0 (djmp 295 38)) (by rfl) ?_
  refine gst s_return ?_
  refine gbackv0 ?_
  refine gst (s_aload rfl) ?_
  refine gst (s_getfield (w := .inl 20) f40_0 rfl (by decide +kernel)) ?_
  refine gst (s_ireturn rfl) ?_
  exact ⟨_, rfl, q1, q2, w40, qa⟩

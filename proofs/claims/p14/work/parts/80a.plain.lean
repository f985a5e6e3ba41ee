/-! ===== the same, whatever the launch says of throwables: no class here makes one ===== -/
set_option maxHeartbeats 4000000 in
theorem dj_op {l : Launch} {D : dD} {b : Nat → Nat} {rec : dRec} (ihr : ∀ d y pc L st h r h', rec d y pc L st h = some (r, h') → hwf h → dG l D b d y pc L st h r h') {y : Nat} {q : dMI} (hq : dMis[y]? = some q) {ins : Instr} {len x pc : Nat} (hi : diB q pc (ins, len, x) = true) {nxt : dCode} (ihn : ∀ d L st h r h', nxt rec d L st h = some (r, h') → hwf h → dG l D b d y (pc + len) L st h r h') {o : dOp} (hop : dop ins x = some o)
    {d : Nat} {L : dL} {st : List dV} {h : dH} {r : Option dV} {h' : dH} (hr : o y x nxt rec d L st h = some (r, h')) (hw : hwf h) : dG l D b d y pc L st h r h' := by
  have ho := (dM_f hq).1
  have hi2 : decode q.2.2.1 pc = .ok (ins, len) ∧ dxB q pc ins len x = true := by
    simp only [diB, Bool.and_eq_true, decide_eq_true_eq] at hi
    exact hi
  obtain ⟨hdg, hx⟩ := hi2
  have QQ : ∀ {q2 : dMI}, dMis[y]? = some q2 → q2 = q := fun e => Option.some.inj (e.symm.trans hq)
  cases ins
  case iconst n =>
    delta dop at hop
    dsimp only at hop
    cases hop
    delta o_int at hr
    try dsimp only at hr
    simp only [dxB, Bool.and_eq_true, Bool.or_eq_true, decide_eq_true_eq, Nat.beq_eq, Nat.blt_eq, Nat.ble_eq, Bool.not_eq_true'] at hx
    obtain ⟨hx, rfl⟩ := hx
    have G := ihn _ _ _ _ _ _ hr hw
    exact ⟨G.1, fun q2 hq2 => by
      cases QQ hq2
      exact ds_iconst hdg hx (G.2 q hq)⟩
  case bipush n =>
    delta dop at hop
    dsimp only at hop
    cases hop
    delta o_int at hr
    try dsimp only at hr
    simp only [dxB, Bool.and_eq_true, Bool.or_eq_true, decide_eq_true_eq, Nat.beq_eq, Nat.blt_eq, Nat.ble_eq, Bool.not_eq_true'] at hx
    obtain ⟨hx, rfl⟩ := hx
    have G := ihn _ _ _ _ _ _ hr hw
    exact ⟨G.1, fun q2 hq2 => by
      cases QQ hq2
      exact ds_bipush hdg hx (G.2 q hq)⟩
  case sipush n =>
    delta dop at hop
    dsimp only at hop
    cases hop
    delta o_int at hr
    try dsimp only at hr
    simp only [dxB, Bool.and_eq_true, Bool.or_eq_true, decide_eq_true_eq, Nat.beq_eq, Nat.blt_eq, Nat.ble_eq, Bool.not_eq_true'] at hx
    obtain ⟨hx, rfl⟩ := hx
    have G := ihn _ _ _ _ _ _ hr hw
    exact ⟨G.1, fun q2 hq2 => by
      cases QQ hq2
      exact ds_sipush hdg hx (G.2 q hq)⟩
  case lconst n =>
    delta dop at hop
    dsimp only at hop
    cases hop
    delta o_long at hr
    try dsimp only at hr
    simp only [dxB, Bool.and_eq_true, Bool.or_eq_true, decide_eq_true_eq, Nat.beq_eq, Nat.blt_eq, Nat.ble_eq, Bool.not_eq_true'] at hx
    obtain ⟨hx, rfl⟩ := hx
    have G := ihn _ _ _ _ _ _ hr hw
    exact ⟨G.1, fun q2 hq2 => by
      cases QQ hq2
      exact ds_lconst hdg hx (G.2 q hq)⟩
  case ldc i =>
    delta dop at hop
    dsimp only at hop
    cases hb : Nat.blt x 4294967296
    · rw [hb] at hop
      simp only [cond_false] at hop
      cases hop
      delta o_ldt at hr
      try dsimp only at hr
      rw [hb] at hr
      simp only [cond_false] at hr
      simp only [dxB, Bool.and_eq_true, Bool.or_eq_true, decide_eq_true_eq, Nat.beq_eq, Nat.blt_eq, Nat.ble_eq, Bool.not_eq_true'] at hx
      obtain ⟨rfl, hx⟩ := hx
      have G := ihn _ _ _ _ _ _ hr hw
      rcases hx with ⟨hx, hx2⟩ | hx
      · exact ⟨G.1, fun q2 hq2 => by
          cases QQ hq2
          exact ds_ldt hdg hx2 (G.2 q hq)⟩
      · exact ⟨G.1, fun q2 hq2 => by
          cases QQ hq2
          exact absurd (dKT_lt _ ho hx) (fun z => by rw [di_blt.mpr z] at hb; cases hb)⟩
    · rw [hb] at hop
      simp only [cond_true] at hop
      cases hop
      delta o_ldc at hr
      try dsimp only at hr
      rw [hb] at hr
      simp only [cond_true] at hr
      have g := di_blt.mp hb
      simp only [dxB, Bool.and_eq_true, Bool.or_eq_true, decide_eq_true_eq, Nat.beq_eq, Nat.blt_eq, Nat.ble_eq, Bool.not_eq_true'] at hx
      obtain ⟨rfl, hx⟩ := hx
      have G := ihn _ _ _ _ _ _ hr hw
      rcases hx with ⟨hx, hx2⟩ | hx
      · omega
      · exact ⟨G.1, fun q2 hq2 => by
          cases QQ hq2
          exact ds_ldc hdg ho hx (G.2 q hq)⟩
  case ldc_w i =>
    delta dop at hop
    dsimp only at hop
    cases hb : Nat.blt x 4294967296
    · rw [hb] at hop
      simp only [cond_false] at hop
      cases hop
      delta o_ldt at hr
      try dsimp only at hr
      rw [hb] at hr
      simp only [cond_false] at hr
      simp only [dxB, Bool.and_eq_true, Bool.or_eq_true, decide_eq_true_eq, Nat.beq_eq, Nat.blt_eq, Nat.ble_eq, Bool.not_eq_true'] at hx
      obtain ⟨rfl, hx⟩ := hx
      have G := ihn _ _ _ _ _ _ hr hw
      rcases hx with ⟨hx, hx2⟩ | hx
      · exact ⟨G.1, fun q2 hq2 => by
          cases QQ hq2
          exact ds_ldtw hdg hx2 (G.2 q hq)⟩
      · exact ⟨G.1, fun q2 hq2 => by
          cases QQ hq2
          exact absurd (dKT_lt _ ho hx) (fun z => by rw [di_blt.mpr z] at hb; cases hb)⟩
    · rw [hb] at hop
      simp only [cond_true] at hop
      cases hop
      delta o_ldc at hr
      try dsimp only at hr
      rw [hb] at hr
      simp only [cond_true] at hr
      have g := di_blt.mp hb
      simp only [dxB, Bool.and_eq_true, Bool.or_eq_true, decide_eq_true_eq, Nat.beq_eq, Nat.blt_eq, Nat.ble_eq, Bool.not_eq_true'] at hx
      obtain ⟨rfl, hx⟩ := hx
      have G := ihn _ _ _ _ _ _ hr hw
      rcases hx with ⟨hx, hx2⟩ | hx
      · omega
      · exact ⟨G.1, fun q2 hq2 => by
          cases QQ hq2
          exact ds_ldcw hdg ho hx (G.2 q hq)⟩
  case ldc2_w i =>
    delta dop at hop
    dsimp only at hop
    cases hop
    delta o_long at hr
    try dsimp only at hr
    simp only [dxB, Bool.and_eq_true, Bool.or_eq_true, decide_eq_true_eq, Nat.beq_eq, Nat.blt_eq, Nat.ble_eq, Bool.not_eq_true'] at hx
    obtain ⟨rfl, hx⟩ := hx
    have G := ihn _ _ _ _ _ _ hr hw
    exact ⟨G.1, fun q2 hq2 => by
      cases QQ hq2
      exact ds_ldc2 hdg ho hx (G.2 q hq)⟩
  case iload_n n =>
    delta dop at hop
    dsimp only at hop
    cases hop
    delta o_iload at hr
    try dsimp only at hr
    simp only [dxB, Bool.and_eq_true, Bool.or_eq_true, decide_eq_true_eq, Nat.beq_eq, Nat.blt_eq, Nat.ble_eq, Bool.not_eq_true'] at hx
    obtain ⟨rfl, hx⟩ := hx
    obtain ⟨v, hv, hr9⟩ := opt_inv hr
    clear hr
    have hr := hr9
    clear hr9
    obtain ⟨n2, rfl, hr9⟩ := vI_inv hr
    clear hr
    have hr := hr9
    clear hr9
    have G := ihn _ _ _ _ _ _ hr hw
    exact ⟨G.1, fun q2 hq2 => by
      cases QQ hq2
      exact ds_iload_n hdg hx hv (G.2 q hq)⟩
  case iload n =>
    delta dop at hop
    dsimp only at hop
    cases hop
    delta o_iload at hr
    try dsimp only at hr
    simp only [dxB, Bool.and_eq_true, Bool.or_eq_true, decide_eq_true_eq, Nat.beq_eq, Nat.blt_eq, Nat.ble_eq, Bool.not_eq_true'] at hx
    obtain ⟨rfl, rfl⟩ := hx
    obtain ⟨v, hv, hr9⟩ := opt_inv hr
    clear hr
    have hr := hr9
    clear hr9
    obtain ⟨n2, rfl, hr9⟩ := vI_inv hr
    clear hr
    have hr := hr9
    clear hr9
    have G := ihn _ _ _ _ _ _ hr hw
    exact ⟨G.1, fun q2 hq2 => by
      cases QQ hq2
      exact ds_iload hdg hv (G.2 q hq)⟩
  case lload_n n =>
    delta dop at hop
    dsimp only at hop
    cases hop
    delta o_lload at hr
    try dsimp only at hr
    simp only [dxB, Bool.and_eq_true, Bool.or_eq_true, decide_eq_true_eq, Nat.beq_eq, Nat.blt_eq, Nat.ble_eq, Bool.not_eq_true'] at hx
    obtain ⟨rfl, hx⟩ := hx
    obtain ⟨v, hv, hr9⟩ := opt_inv hr
    clear hr
    have hr := hr9
    clear hr9
    obtain ⟨n2, rfl, hr9⟩ := vL_inv hr
    clear hr
    have hr := hr9
    clear hr9
    have G := ihn _ _ _ _ _ _ hr hw
    exact ⟨G.1, fun q2 hq2 => by
      cases QQ hq2
      exact ds_lload_n hdg hx hv (G.2 q hq)⟩
  case lload n =>
    delta dop at hop
    dsimp only at hop
    cases hop
    delta o_lload at hr
    try dsimp only at hr
    simp only [dxB, Bool.and_eq_true, Bool.or_eq_true, decide_eq_true_eq, Nat.beq_eq, Nat.blt_eq, Nat.ble_eq, Bool.not_eq_true'] at hx
    obtain ⟨rfl, rfl⟩ := hx
    obtain ⟨v, hv, hr9⟩ := opt_inv hr
    clear hr
    have hr := hr9
    clear hr9
    obtain ⟨n2, rfl, hr9⟩ := vL_inv hr
    clear hr
    have hr := hr9
    clear hr9
    have G := ihn _ _ _ _ _ _ hr hw
    exact ⟨G.1, fun q2 hq2 => by
      cases QQ hq2
      exact ds_lload hdg hv (G.2 q hq)⟩
  case aload_n n =>
    delta dop at hop
    dsimp only at hop
    cases hop
    delta o_aload at hr
    try dsimp only at hr
    simp only [dxB, Bool.and_eq_true, Bool.or_eq_true, decide_eq_true_eq, Nat.beq_eq, Nat.blt_eq, Nat.ble_eq, Bool.not_eq_true'] at hx
    obtain ⟨rfl, hx⟩ := hx
    obtain ⟨v, hv, hr9⟩ := opt_inv hr
    clear hr
    have hr := hr9
    clear hr9
    obtain ⟨n2, rfl, hr9⟩ := vA_inv hr
    clear hr
    have hr := hr9
    clear hr9
    have G := ihn _ _ _ _ _ _ hr hw
    exact ⟨G.1, fun q2 hq2 => by
      cases QQ hq2
      exact ds_aload_n hdg hx hv (G.2 q hq)⟩
  case aload n =>
    delta dop at hop
    dsimp only at hop
    cases hop
    delta o_aload at hr
    try dsimp only at hr
    simp only [dxB, Bool.and_eq_true, Bool.or_eq_true, decide_eq_true_eq, Nat.beq_eq, Nat.blt_eq, Nat.ble_eq, Bool.not_eq_true'] at hx
    obtain ⟨rfl, rfl⟩ := hx
    obtain ⟨v, hv, hr9⟩ := opt_inv hr
    clear hr
    have hr := hr9
    clear hr9
    obtain ⟨n2, rfl, hr9⟩ := vA_inv hr
    clear hr
    have hr := hr9
    clear hr9
    have G := ihn _ _ _ _ _ _ hr hw
    exact ⟨G.1, fun q2 hq2 => by
      cases QQ hq2
      exact ds_aload hdg hv (G.2 q hq)⟩
  case istore_n n =>
    delta dop at hop
    dsimp only at hop
    cases hop
    delta o_istore at hr
    try dsimp only at hr
    simp only [dxB, Bool.and_eq_true, Bool.or_eq_true, decide_eq_true_eq, Nat.beq_eq, Nat.blt_eq, Nat.ble_eq, Bool.not_eq_true'] at hx
    obtain ⟨rfl, hx, hn⟩ := hx
    obtain ⟨v, st, rfl, hr9⟩ := d1_inv hr
    clear hr
    have hr := hr9
    clear hr9
    rw [fltc_eq] at hr
    have G := ihn _ _ _ _ _ _ hr hw
    exact ⟨G.1, fun q2 hq2 => by
      cases QQ hq2
      exact ds_istore_n hdg hx hn (G.2 q hq)⟩
  case istore n =>
    delta dop at hop
    dsimp only at hop
    cases hop
    delta o_istore at hr
    try dsimp only at hr
    simp only [dxB, Bool.and_eq_true, Bool.or_eq_true, decide_eq_true_eq, Nat.beq_eq, Nat.blt_eq, Nat.ble_eq, Bool.not_eq_true'] at hx
    obtain ⟨rfl, rfl, hn⟩ := hx
    obtain ⟨v, st, rfl, hr9⟩ := d1_inv hr
    clear hr
    have hr := hr9
    clear hr9
    rw [fltc_eq] at hr
    have G := ihn _ _ _ _ _ _ hr hw
    exact ⟨G.1, fun q2 hq2 => by
      cases QQ hq2
      exact ds_istore hdg hn (G.2 q hq)⟩
  case lstore_n n =>
    delta dop at hop
    dsimp only at hop
    cases hop
    delta o_lstore at hr
    try dsimp only at hr
    simp only [dxB, Bool.and_eq_true, Bool.or_eq_true, decide_eq_true_eq, Nat.beq_eq, Nat.blt_eq, Nat.ble_eq, Bool.not_eq_true'] at hx
    obtain ⟨rfl, hx, hn⟩ := hx
    obtain ⟨v, st, rfl, hr9⟩ := d1l_inv hr
    clear hr
    have hr := hr9
    clear hr9
    rw [fltc_eq] at hr
    have G := ihn _ _ _ _ _ _ hr hw
    exact ⟨G.1, fun q2 hq2 => by
      cases QQ hq2
      exact ds_lstore_n hdg hx hn (G.2 q hq)⟩
  case lstore n =>
    delta dop at hop
    dsimp only at hop
    cases hop
    delta o_lstore at hr
    try dsimp only at hr
    simp only [dxB, Bool.and_eq_true, Bool.or_eq_true, decide_eq_true_eq, Nat.beq_eq, Nat.blt_eq, Nat.ble_eq, Bool.not_eq_true'] at hx
    obtain ⟨rfl, rfl, hn⟩ := hx
    obtain ⟨v, st, rfl, hr9⟩ := d1l_inv hr
    clear hr
    have hr := hr9
    clear hr9
    rw [fltc_eq] at hr
    have G := ihn _ _ _ _ _ _ hr hw
    exact ⟨G.1, fun q2 hq2 => by
      cases QQ hq2
      exact ds_lstore hdg hn (G.2 q hq)⟩
  case astore_n n =>
    delta dop at hop
    dsimp only at hop
    cases hop
    delta o_astore at hr
    try dsimp only at hr
    simp only [dxB, Bool.and_eq_true, Bool.or_eq_true, decide_eq_true_eq, Nat.beq_eq, Nat.blt_eq, Nat.ble_eq, Bool.not_eq_true'] at hx
    obtain ⟨rfl, hx, hn⟩ := hx
    obtain ⟨v, st, rfl, hr9⟩ := d1a_inv hr
    clear hr
    have hr := hr9
    clear hr9
    rw [fltc_eq] at hr
    have G := ihn _ _ _ _ _ _ hr hw
    exact ⟨G.1, fun q2 hq2 => by
      cases QQ hq2
      exact ds_astore_n hdg hx hn (G.2 q hq)⟩
  case astore n =>
    delta dop at hop
    dsimp only at hop
    cases hop
    delta o_astore at hr
    try dsimp only at hr
    simp only [dxB, Bool.and_eq_true, Bool.or_eq_true, decide_eq_true_eq, Nat.beq_eq, Nat.blt_eq, Nat.ble_eq, Bool.not_eq_true'] at hx
    obtain ⟨rfl, rfl, hn⟩ := hx
    obtain ⟨v, st, rfl, hr9⟩ := d1a_inv hr
    clear hr
    have hr := hr9
    clear hr9
    rw [fltc_eq] at hr
    have G := ihn _ _ _ _ _ _ hr hw
    exact ⟨G.1, fun q2 hq2 => by
      cases QQ hq2
      exact ds_astore hdg hn (G.2 q hq)⟩
  case iinc i n =>
    delta dop at hop
    dsimp only at hop
    cases hop
    delta o_iinc at hr
    try dsimp only at hr
    simp only [dxB, Bool.and_eq_true, Bool.or_eq_true, decide_eq_true_eq, Nat.beq_eq, Nat.blt_eq, Nat.ble_eq, Bool.not_eq_true'] at hx
    obtain ⟨rfl, rfl, hx, hn⟩ := hx
    obtain ⟨v, hv, hr9⟩ := opt_inv hr
    clear hr
    have hr := hr9
    clear hr9
    obtain ⟨n2, rfl, hr9⟩ := vI_inv hr
    clear hr
    have hr := hr9
    clear hr9
    rw [fo_eq, fltc_eq] at hr
    have G := ihn _ _ _ _ _ _ hr hw
    exact ⟨G.1, fun q2 hq2 => by
      cases QQ hq2
      exact ds_iinc hdg hx hv hn (G.2 q hq)⟩
  case iadd =>
    delta dop at hop
    dsimp only at hop
    cases hop
    delta o_bin at hr
    try dsimp only at hr
    simp only [dxB, Bool.and_eq_true, Bool.or_eq_true, decide_eq_true_eq, Nat.beq_eq, Nat.blt_eq, Nat.ble_eq, Bool.not_eq_true'] at hx
    subst hx
    obtain ⟨v, w, st, rfl, hr9⟩ := d2_inv hr
    clear hr
    have hr := hr9
    clear hr9
    rw [fo_eq] at hr
    have G := ihn _ _ _ _ _ _ hr hw
    exact ⟨G.1, fun q2 hq2 => by
      cases QQ hq2
      exact ds_iadd hdg (G.2 q hq)⟩
  case isub =>
    delta dop at hop
    dsimp only at hop
    cases hop
    delta o_bin at hr
    try dsimp only at hr
    simp only [dxB, Bool.and_eq_true, Bool.or_eq_true, decide_eq_true_eq, Nat.beq_eq, Nat.blt_eq, Nat.ble_eq, Bool.not_eq_true'] at hx
    subst hx
    obtain ⟨v, w, st, rfl, hr9⟩ := d2_inv hr
    clear hr
    have hr := hr9
    clear hr9
    rw [fo_eq] at hr
    have G := ihn _ _ _ _ _ _ hr hw
    exact ⟨G.1, fun q2 hq2 => by
      cases QQ hq2
      exact ds_isub hdg (G.2 q hq)⟩
  case imul =>
    delta dop at hop
    dsimp only at hop
    cases hop
    delta o_bin at hr
    try dsimp only at hr
    simp only [dxB, Bool.and_eq_true, Bool.or_eq_true, decide_eq_true_eq, Nat.beq_eq, Nat.blt_eq, Nat.ble_eq, Bool.not_eq_true'] at hx
    subst hx
    obtain ⟨v, w, st, rfl, hr9⟩ := d2_inv hr
    clear hr
    have hr := hr9
    clear hr9
    rw [fo_eq] at hr
    have G := ihn _ _ _ _ _ _ hr hw
    exact ⟨G.1, fun q2 hq2 => by
      cases QQ hq2
      exact ds_imul hdg (G.2 q hq)⟩
  case iand =>
    delta dop at hop
    dsimp only at hop
    cases hop
    delta o_bin at hr
    try dsimp only at hr
    simp only [dxB, Bool.and_eq_true, Bool.or_eq_true, decide_eq_true_eq, Nat.beq_eq, Nat.blt_eq, Nat.ble_eq, Bool.not_eq_true'] at hx
    subst hx
    obtain ⟨v, w, st, rfl, hr9⟩ := d2_inv hr
    clear hr
    have hr := hr9
    clear hr9
    rw [fo_eq] at hr
    have G := ihn _ _ _ _ _ _ hr hw
    exact ⟨G.1, fun q2 hq2 => by
      cases QQ hq2
      exact ds_iand hdg (G.2 q hq)⟩
  case ior =>
    delta dop at hop
    dsimp only at hop
    cases hop
    delta o_bin at hr
    try dsimp only at hr
    simp only [dxB, Bool.and_eq_true, Bool.or_eq_true, decide_eq_true_eq, Nat.beq_eq, Nat.blt_eq, Nat.ble_eq, Bool.not_eq_true'] at hx
    subst hx
    obtain ⟨v, w, st, rfl, hr9⟩ := d2_inv hr
    clear hr
    have hr := hr9
    clear hr9
    rw [fo_eq] at hr
    have G := ihn _ _ _ _ _ _ hr hw
    exact ⟨G.1, fun q2 hq2 => by
      cases QQ hq2
      exact ds_ior hdg (G.2 q hq)⟩
  case ixor =>
    delta dop at hop
    dsimp only at hop
    cases hop
    delta o_bin at hr
    try dsimp only at hr
    simp only [dxB, Bool.and_eq_true, Bool.or_eq_true, decide_eq_true_eq, Nat.beq_eq, Nat.blt_eq, Nat.ble_eq, Bool.not_eq_true'] at hx
    subst hx
    obtain ⟨v, w, st, rfl, hr9⟩ := d2_inv hr
    clear hr
    have hr := hr9
    clear hr9
    rw [fo_eq] at hr
    have G := ihn _ _ _ _ _ _ hr hw
    exact ⟨G.1, fun q2 hq2 => by
      cases QQ hq2
      exact ds_ixor hdg (G.2 q hq)⟩
  case ishl =>
    delta dop at hop
    dsimp only at hop
    cases hop
    delta o_bin at hr
    try dsimp only at hr
    simp only [dxB, Bool.and_eq_true, Bool.or_eq_true, decide_eq_true_eq, Nat.beq_eq, Nat.blt_eq, Nat.ble_eq, Bool.not_eq_true'] at hx
    subst hx
    obtain ⟨v, w, st, rfl, hr9⟩ := d2_inv hr
    clear hr
    have hr := hr9
    clear hr9
    rw [fo_eq] at hr
    have G := ihn _ _ _ _ _ _ hr hw
    exact ⟨G.1, fun q2 hq2 => by
      cases QQ hq2
      exact ds_ishl hdg (G.2 q hq)⟩
  case ishr =>
    delta dop at hop
    dsimp only at hop
    cases hop
    delta o_bin at hr
    try dsimp only at hr
    simp only [dxB, Bool.and_eq_true, Bool.or_eq_true, decide_eq_true_eq, Nat.beq_eq, Nat.blt_eq, Nat.ble_eq, Bool.not_eq_true'] at hx
    subst hx
    obtain ⟨v, w, st, rfl, hr9⟩ := d2_inv hr
    clear hr
    have hr := hr9
    clear hr9
    rw [fo_eq] at hr
    have G := ihn _ _ _ _ _ _ hr hw
    exact ⟨G.1, fun q2 hq2 => by
      cases QQ hq2
      exact ds_ishr hdg (G.2 q hq)⟩
  case ladd =>
    delta dop at hop
    dsimp only at hop
    cases hop
    delta o_binl at hr
    try dsimp only at hr
    simp only [dxB, Bool.and_eq_true, Bool.or_eq_true, decide_eq_true_eq, Nat.beq_eq, Nat.blt_eq, Nat.ble_eq, Bool.not_eq_true'] at hx
    subst hx
    obtain ⟨v, w, st, rfl, hr9⟩ := d2l_inv hr
    clear hr
    have hr := hr9
    clear hr9
    rw [fo_eq] at hr
    have G := ihn _ _ _ _ _ _ hr hw
    exact ⟨G.1, fun q2 hq2 => by
      cases QQ hq2
      exact ds_ladd hdg (G.2 q hq)⟩
  case lsub =>
    delta dop at hop
    dsimp only at hop
    cases hop
    delta o_binl at hr
    try dsimp only at hr
    simp only [dxB, Bool.and_eq_true, Bool.or_eq_true, decide_eq_true_eq, Nat.beq_eq, Nat.blt_eq, Nat.ble_eq, Bool.not_eq_true'] at hx
    subst hx
    obtain ⟨v, w, st, rfl, hr9⟩ := d2l_inv hr
    clear hr
    have hr := hr9
    clear hr9
    rw [fo_eq] at hr
    have G := ihn _ _ _ _ _ _ hr hw
    exact ⟨G.1, fun q2 hq2 => by
      cases QQ hq2
      exact ds_lsub hdg (G.2 q hq)⟩
  case lmul =>
    delta dop at hop
    dsimp only at hop
    cases hop
    delta o_binl at hr
    try dsimp only at hr
    simp only [dxB, Bool.and_eq_true, Bool.or_eq_true, decide_eq_true_eq, Nat.beq_eq, Nat.blt_eq, Nat.ble_eq, Bool.not_eq_true'] at hx
    subst hx
    obtain ⟨v, w, st, rfl, hr9⟩ := d2l_inv hr
    clear hr
    have hr := hr9
    clear hr9
    rw [fo_eq] at hr
    have G := ihn _ _ _ _ _ _ hr hw
    exact ⟨G.1, fun q2 hq2 => by
      cases QQ hq2
      exact ds_lmul hdg (G.2 q hq)⟩
  case land =>
    delta dop at hop
    dsimp only at hop
    cases hop
    delta o_binl at hr
    try dsimp only at hr
    simp only [dxB, Bool.and_eq_true, Bool.or_eq_true, decide_eq_true_eq, Nat.beq_eq, Nat.blt_eq, Nat.ble_eq, Bool.not_eq_true'] at hx
    subst hx
    obtain ⟨v, w, st, rfl, hr9⟩ := d2l_inv hr
    clear hr
    have hr := hr9
    clear hr9
    rw [fo_eq] at hr
    have G := ihn _ _ _ _ _ _ hr hw
    exact ⟨G.1, fun q2 hq2 => by
      cases QQ hq2
      exact ds_land hdg (G.2 q hq)⟩
  case lor =>
    delta dop at hop
    dsimp only at hop
    cases hop
    delta o_binl at hr
    try dsimp only at hr
    simp only [dxB, Bool.and_eq_true, Bool.or_eq_true, decide_eq_true_eq, Nat.beq_eq, Nat.blt_eq, Nat.ble_eq, Bool.not_eq_true'] at hx
    subst hx
    obtain ⟨v, w, st, rfl, hr9⟩ := d2l_inv hr
    clear hr
    have hr := hr9
    clear hr9
    rw [fo_eq] at hr
    have G := ihn _ _ _ _ _ _ hr hw
    exact ⟨G.1, fun q2 hq2 => by
      cases QQ hq2
      exact ds_lor hdg (G.2 q hq)⟩
  case lxor =>
    delta dop at hop
    dsimp only at hop
    cases hop
    delta o_binl at hr
    try dsimp only at hr
    simp only [dxB, Bool.and_eq_true, Bool.or_eq_true, decide_eq_true_eq, Nat.beq_eq, Nat.blt_eq, Nat.ble_eq, Bool.not_eq_true'] at hx
    subst hx
    obtain ⟨v, w, st, rfl, hr9⟩ := d2l_inv hr
    clear hr
    have hr := hr9
    clear hr9
    rw [fo_eq] at hr
    have G := ihn _ _ _ _ _ _ hr hw
    exact ⟨G.1, fun q2 hq2 => by
      cases QQ hq2
      exact ds_lxor hdg (G.2 q hq)⟩
  case lcmp =>
    delta dop at hop
    dsimp only at hop
    cases hop
    delta o_lcmp at hr
    try dsimp only at hr
    simp only [dxB, Bool.and_eq_true, Bool.or_eq_true, decide_eq_true_eq, Nat.beq_eq, Nat.blt_eq, Nat.ble_eq, Bool.not_eq_true'] at hx
    subst hx
    obtain ⟨v, w, st, rfl, hr9⟩ := d2l_inv hr
    clear hr
    have hr := hr9
    clear hr9
    rw [fo_eq] at hr
    have G := ihn _ _ _ _ _ _ hr hw
    exact ⟨G.1, fun q2 hq2 => by
      cases QQ hq2
      exact ds_lcmp hdg (G.2 q hq)⟩
  case lshl =>
    delta dop at hop
    dsimp only at hop
    cases hop
    delta o_shl at hr
    try dsimp only at hr
    simp only [dxB, Bool.and_eq_true, Bool.or_eq_true, decide_eq_true_eq, Nat.beq_eq, Nat.blt_eq, Nat.ble_eq, Bool.not_eq_true'] at hx
    subst hx
    obtain ⟨v, w, st, rfl, hr9⟩ := dil_inv hr
    clear hr
    have hr := hr9
    clear hr9
    rw [fo_eq] at hr
    have G := ihn _ _ _ _ _ _ hr hw
    exact ⟨G.1, fun q2 hq2 => by
      cases QQ hq2
      exact ds_lshl hdg (G.2 q hq)⟩
  case lushr =>
    delta dop at hop
    dsimp only at hop
    cases hop
    delta o_shl at hr
    try dsimp only at hr
    simp only [dxB, Bool.and_eq_true, Bool.or_eq_true, decide_eq_true_eq, Nat.beq_eq, Nat.blt_eq, Nat.ble_eq, Bool.not_eq_true'] at hx
    subst hx
    obtain ⟨v, w, st, rfl, hr9⟩ := dil_inv hr
    clear hr
    have hr := hr9
    clear hr9
    rw [fo_eq] at hr
    have G := ihn _ _ _ _ _ _ hr hw
    exact ⟨G.1, fun q2 hq2 => by
      cases QQ hq2
      exact ds_lushr hdg (G.2 q hq)⟩
  case ineg =>
    delta dop at hop
    dsimp only at hop
    cases hop
    delta o_un at hr
    try dsimp only at hr
    simp only [dxB, Bool.and_eq_true, Bool.or_eq_true, decide_eq_true_eq, Nat.beq_eq, Nat.blt_eq, Nat.ble_eq, Bool.not_eq_true'] at hx
    subst hx
    obtain ⟨v, st, rfl, hr9⟩ := d1_inv hr
    clear hr
    have hr := hr9
    clear hr9
    rw [fo_eq] at hr
    have G := ihn _ _ _ _ _ _ hr hw
    exact ⟨G.1, fun q2 hq2 => by
      cases QQ hq2
      exact ds_ineg hdg (G.2 q hq)⟩
  case i2b =>
    delta dop at hop
    dsimp only at hop
    cases hop
    delta o_un at hr
    try dsimp only at hr
    simp only [dxB, Bool.and_eq_true, Bool.or_eq_true, decide_eq_true_eq, Nat.beq_eq, Nat.blt_eq, Nat.ble_eq, Bool.not_eq_true'] at hx
    subst hx
    obtain ⟨v, st, rfl, hr9⟩ := d1_inv hr
    clear hr
    have hr := hr9
    clear hr9
    rw [fo_eq] at hr
    have G := ihn _ _ _ _ _ _ hr hw
    exact ⟨G.1, fun q2 hq2 => by
      cases QQ hq2
      exact ds_i2b hdg (G.2 q hq)⟩
  case i2l =>
    delta dop at hop
    dsimp only at hop
    cases hop
    delta o_i2l at hr
    try dsimp only at hr
    simp only [dxB, Bool.and_eq_true, Bool.or_eq_true, decide_eq_true_eq, Nat.beq_eq, Nat.blt_eq, Nat.ble_eq, Bool.not_eq_true'] at hx
    subst hx
    obtain ⟨v, st, rfl, hr9⟩ := d1_inv hr
    clear hr
    have hr := hr9
    clear hr9
    rw [fo_eq] at hr
    have G := ihn _ _ _ _ _ _ hr hw
    exact ⟨G.1, fun q2 hq2 => by
      cases QQ hq2
      exact ds_i2l hdg (G.2 q hq)⟩
  case l2i =>
    delta dop at hop
    dsimp only at hop
    cases hop
    delta o_l2i at hr
    try dsimp only at hr
    simp only [dxB, Bool.and_eq_true, Bool.or_eq_true, decide_eq_true_eq, Nat.beq_eq, Nat.blt_eq, Nat.ble_eq, Bool.not_eq_true'] at hx
    subst hx
    obtain ⟨v, st, rfl, hr9⟩ := d1l_inv hr
    clear hr
    have hr := hr9
    clear hr9
    rw [fo_eq] at hr
    have G := ihn _ _ _ _ _ _ hr hw
    exact ⟨G.1, fun q2 hq2 => by
      cases QQ hq2
      exact ds_l2i hdg (G.2 q hq)⟩
  case ifCond c o =>
    delta dop at hop
    dsimp only at hop
    cases hop
    delta o_if at hr
    try dsimp only at hr
    simp only [dxB, Bool.and_eq_true, Bool.or_eq_true, decide_eq_true_eq, Nat.beq_eq, Nat.blt_eq, Nat.ble_eq, Bool.not_eq_true'] at hx
    obtain ⟨rfl, hx⟩ := hx
    obtain ⟨v, st, rfl, hr9⟩ := d1_inv hr
    clear hr
    have hr := hr9
    clear hr9
    cases hc : dcd c v 0
    · rw [hc] at hr
      have G := ihn _ _ _ _ _ _ hr hw
      exact ⟨G.1, fun q2 hq2 => by
        cases QQ hq2
        exact ds_if hdg hx (fun z => by rw [hc] at z; cases z) (fun _ => G.2 q hq)⟩
    · rw [hc] at hr
      have G := ihr _ _ _ _ _ _ _ _ hr hw
      exact ⟨G.1, fun q2 hq2 => by
        cases QQ hq2
        exact ds_if hdg hx (fun _ => G.2 q hq) (fun z => by rw [hc] at z; cases z)⟩
  case if_icmp c o =>
    delta dop at hop
    dsimp only at hop
    cases hop
    delta o_icmp at hr
    try dsimp only at hr
    simp only [dxB, Bool.and_eq_true, Bool.or_eq_true, decide_eq_true_eq, Nat.beq_eq, Nat.blt_eq, Nat.ble_eq, Bool.not_eq_true'] at hx
    obtain ⟨rfl, hx⟩ := hx
    obtain ⟨v, w, st, rfl, hr9⟩ := d2_inv hr
    clear hr
    have hr := hr9
    clear hr9
    cases hc : dcd c v w
    · rw [hc] at hr
      have G := ihn _ _ _ _ _ _ hr hw
      exact ⟨G.1, fun q2 hq2 => by
        cases QQ hq2
        exact ds_icmp hdg hx (fun z => by rw [hc] at z; cases z) (fun _ => G.2 q hq)⟩
    · rw [hc] at hr
      have G := ihr _ _ _ _ _ _ _ _ hr hw
      exact ⟨G.1, fun q2 hq2 => by
        cases QQ hq2
        exact ds_icmp hdg hx (fun _ => G.2 q hq) (fun z => by rw [hc] at z; cases z)⟩
  case goto o =>
    delta dop at hop
    dsimp only at hop
    cases hop
    delta o_goto at hr
    try dsimp only at hr
    simp only [dxB, Bool.and_eq_true, Bool.or_eq_true, decide_eq_true_eq, Nat.beq_eq, Nat.blt_eq, Nat.ble_eq, Bool.not_eq_true'] at hx
    obtain ⟨rfl, hx⟩ := hx
    have G := ihr _ _ _ _ _ _ _ _ hr hw
    exact ⟨G.1, fun q2 hq2 => by
      cases QQ hq2
      exact ds_goto hdg hx (G.2 q hq)⟩
  case tableswitch dd lo hi os =>
    delta dop at hop
    dsimp only at hop
    cases hop
    delta o_tsw at hr
    try dsimp only at hr
    obtain ⟨v, st, rfl, hr9⟩ := d1_inv hr
    clear hr
    have hr := hr9
    clear hr9
    rw [fo_eq, fo_eq] at hr
    change cond (Nat.blt (dSub v (x % 4294967296)) (wq 16 (x >>> 32) 0)) _ _ = _ at hr
    cases hc : Nat.blt (dSub v (x % 4294967296)) (wq 16 (x >>> 32) 0)
    · rw [hc] at hr
      simp only [cond_false, cond_true, fo_eq] at hr
      have G := ihr _ _ _ _ _ _ _ _ hr hw
      have hn : ¬ dSub v (x % 4294967296) < wq 16 (x >>> 32) 0 := fun z => by rw [di_blt.mpr z] at hc; cases hc
      exact ⟨G.1, fun q2 hq2 => by
        cases QQ hq2
        exact ds_tsw hdg hx (fun j e z => absurd (by rw [← e]; exact z) hn) (fun _ => G.2 q hq)⟩
    · rw [hc] at hr
      simp only [cond_false, cond_true, fo_eq] at hr
      have G := ihr _ _ _ _ _ _ _ _ hr hw
      have hn := di_blt.mp hc
      exact ⟨G.1, fun q2 hq2 => by
        cases QQ hq2
        exact ds_tsw hdg hx (fun j e _ => by rw [e]; exact G.2 q hq) (fun z => absurd hn z)⟩
  case idiv =>
    delta dop at hop
    dsimp only at hop
    cases hop
    delta o_div at hr
    try dsimp only at hr
    simp only [dxB, Bool.and_eq_true, Bool.or_eq_true, decide_eq_true_eq, Nat.beq_eq, Nat.blt_eq, Nat.ble_eq, Bool.not_eq_true'] at hx
    subst hx
    obtain ⟨v, w, st, rfl, hr9⟩ := d2_inv hr
    clear hr
    have hr := hr9
    clear hr9
    cases hz : dZ w
    · rw [hz] at hr
      simp only [cond_false] at hr
      rw [fo_eq] at hr
      have G := ihn _ _ _ _ _ _ hr hw
      exact ⟨G.1, fun q2 hq2 => by
        cases QQ hq2
        exact ds_idiv hz hdg (G.2 q hq)⟩
    · rw [hz] at hr
      simp only [cond_true] at hr
      cases hr
  case irem =>
    delta dop at hop
    dsimp only at hop
    cases hop
    delta o_div at hr
    try dsimp only at hr
    simp only [dxB, Bool.and_eq_true, Bool.or_eq_true, decide_eq_true_eq, Nat.beq_eq, Nat.blt_eq, Nat.ble_eq, Bool.not_eq_true'] at hx
    subst hx
    obtain ⟨v, w, st, rfl, hr9⟩ := d2_inv hr
    clear hr
    have hr := hr9
    clear hr9
    cases hz : dZ w
    · rw [hz] at hr
      simp only [cond_false] at hr
      rw [fo_eq] at hr
      have G := ihn _ _ _ _ _ _ hr hw
      exact ⟨G.1, fun q2 hq2 => by
        cases QQ hq2
        exact ds_irem hz hdg (G.2 q hq)⟩
    · rw [hz] at hr
      simp only [cond_true] at hr
      cases hr
  case ldiv =>
    delta dop at hop
    dsimp only at hop
    cases hop
    delta o_ldv at hr
    try dsimp only at hr
    simp only [dxB, Bool.and_eq_true, Bool.or_eq_true, decide_eq_true_eq, Nat.beq_eq, Nat.blt_eq, Nat.ble_eq, Bool.not_eq_true'] at hx
    subst hx
    obtain ⟨v, w, st, rfl, hr9⟩ := d2l_inv hr
    clear hr
    have hr := hr9
    clear hr9
    cases hz : dLZ w
    · rw [hz] at hr
      simp only [cond_false] at hr
      rw [fo_eq] at hr
      have G := ihn _ _ _ _ _ _ hr hw
      exact ⟨G.1, fun q2 hq2 => by
        cases QQ hq2
        exact ds_ldiv hz hdg (G.2 q hq)⟩
    · rw [hz] at hr
      simp only [cond_true] at hr
      cases hr
  case lookupswitch dd ps =>
    delta dop at hop
    dsimp only at hop
    cases hop
    delta o_lsw at hr
    try dsimp only at hr
    obtain ⟨v, st, rfl, hr9⟩ := d1_inv hr
    clear hr
    have hr := hr9
    clear hr9
    rw [fo_eq, fo_eq, fo_eq] at hr
    have G := ihr _ _ _ _ _ _ _ _ hr hw
    exact ⟨G.1, fun q2 hq2 => by
      cases QQ hq2
      exact ds_lsw hdg hx (G.2 q hq)⟩
  case dup =>
    delta dop at hop
    dsimp only at hop
    cases hop
    delta o_dup at hr
    try dsimp only at hr
    simp only [dxB, Bool.and_eq_true, Bool.or_eq_true, decide_eq_true_eq, Nat.beq_eq, Nat.blt_eq, Nat.ble_eq, Bool.not_eq_true'] at hx
    subst hx
    obtain ⟨v, st, rfl, hr9⟩ := pop_inv hr
    clear hr
    have hr := hr9
    clear hr9
    cases hv : disl v
    · rw [hv] at hr
      have G := ihn _ _ _ _ _ _ hr hw
      exact ⟨G.1, fun q2 hq2 => by
        cases QQ hq2
        exact ds_dup hdg hv (G.2 q hq)⟩
    · rw [hv] at hr
      cases hr
  case pop =>
    delta dop at hop
    dsimp only at hop
    cases hop
    delta o_pop at hr
    try dsimp only at hr
    simp only [dxB, Bool.and_eq_true, Bool.or_eq_true, decide_eq_true_eq, Nat.beq_eq, Nat.blt_eq, Nat.ble_eq, Bool.not_eq_true'] at hx
    subst hx
    obtain ⟨v, st, rfl, hr9⟩ := pop_inv hr
    clear hr
    have hr := hr9
    clear hr9
    cases hv : disl v
    · rw [hv] at hr
      have G := ihn _ _ _ _ _ _ hr hw
      exact ⟨G.1, fun q2 hq2 => by
        cases QQ hq2
        exact ds_pop hdg hv (G.2 q hq)⟩
    · rw [hv] at hr
      cases hr
  case dup2 =>
    delta dop at hop
    dsimp only at hop
    cases hop
    delta o_dup2 at hr
    try dsimp only at hr
    simp only [dxB, Bool.and_eq_true, Bool.or_eq_true, decide_eq_true_eq, Nat.beq_eq, Nat.blt_eq, Nat.ble_eq, Bool.not_eq_true'] at hx
    subst hx
    obtain ⟨v, st, rfl, hr9⟩ := pop_inv hr
    clear hr
    have hr := hr9
    clear hr9
    cases hv : disl v
    · rw [hv] at hr
      simp only [cond_false] at hr
      obtain ⟨w, st, rfl, hr9⟩ := pop_inv hr
      clear hr
      have hr := hr9
      clear hr9
      cases hw2 : disl w
      · rw [hw2] at hr
        have G := ihn _ _ _ _ _ _ hr hw
        exact ⟨G.1, fun q2 hq2 => by
          cases QQ hq2
          exact ds_dup2_11 hdg hv hw2 (G.2 q hq)⟩
      · rw [hw2] at hr
        cases hr
    · rw [hv] at hr
      have G := ihn _ _ _ _ _ _ hr hw
      exact ⟨G.1, fun q2 hq2 => by
        cases QQ hq2
        exact ds_dup2_2 hdg hv (G.2 q hq)⟩
  case getfield i =>
    delta dop at hop
    dsimp only at hop
    cases hop
    delta o_getfield at hr
    try dsimp only at hr
    simp only [dxB, Bool.and_eq_true, Bool.or_eq_true, decide_eq_true_eq, Nat.beq_eq, Nat.blt_eq, Nat.ble_eq, Bool.not_eq_true'] at hx
    obtain ⟨rfl, hf, hci, hk2, htc⟩ := hx
    obtain ⟨a, st, rfl, hr9⟩ := d1a_inv hr
    clear hr
    have hr := hr9
    clear hr9
    obtain ⟨kd, n, ct, ha, hr9⟩ := cel_inv hr
    clear hr
    have hr := hr9
    clear hr9
    obtain ⟨hkd, hr9⟩ := dco_inv hr
    clear hr
    have hr := hr9
    clear hr9
    have hkd := Nat.eq_of_beq_eq_true hkd
    subst hkd
    rw [fo_eq] at hr
    have G := ihn _ _ _ _ _ _ hr hw
    exact ⟨G.1, fun q2 hq2 => by
      cases QQ hq2
      exact ds_getfield hdg ho hf hci hk2 htc ha (G.2 q hq)⟩
  case putfield i =>
    delta dop at hop
    dsimp only at hop
    cases hop
    delta o_putfield at hr
    try dsimp only at hr
    simp only [dxB, Bool.and_eq_true, Bool.or_eq_true, decide_eq_true_eq, Nat.beq_eq, Nat.blt_eq, Nat.ble_eq, Bool.not_eq_true'] at hx
    obtain ⟨rfl, hf, hci, hk2, htc, hfn⟩ := hx
    obtain ⟨v, st, rfl, hr9⟩ := pop_inv hr
    clear hr
    have hr := hr9
    clear hr9
    obtain ⟨a, st, rfl, hr9⟩ := d1a_inv hr
    clear hr
    have hr := hr9
    clear hr9
    obtain ⟨kd, n, ct, ha, hr9⟩ := cel_inv hr
    clear hr
    have hr := hr9
    clear hr9
    obtain ⟨hkd, hr9⟩ := dco_inv hr
    clear hr
    have hr := hr9
    clear hr9
    have hkd := Nat.eq_of_beq_eq_true hkd
    subst hkd
    obtain ⟨w, hw64, hr, hty⟩ := fe_inv (b := b) hr
    rw [fo_eq] at hr
    obtain ⟨h1, hs, z1, z2, hw1, eh⟩ := hset_spec (c := (Nat.add (Nat.div x 1024) 4, n, wst 64 ct (Nat.mod (Nat.div x 4) 256) w)) (fun h' => nxt rec d L st h') none hw ha
    rw [hs] at hr
    have G := ihn _ _ _ _ _ _ hr hw1
    refine ⟨⟨by have := G.1.1; omega, by have := G.1.2.1; omega, G.1.2.2⟩, fun q2 hq2 => ?_⟩
    cases QQ hq2
    obtain ⟨t1, t2, t3⟩ := hty _ htc
    exact ds_putfield hdg ho hf hci hk2 (fun z => by
      rcases hfn with hfn | hfn
      · rw [z] at hfn; cases hfn
      · exact hfn) ha hw64 t1 t2 t3 z1 z2 hw1 eh (G.2 q hq)
  case new i =>
    delta dop at hop
    dsimp only at hop
    cases hx0 : Nat.beq x 0
    · rw [hx0] at hop
      simp only [cond_false] at hop
      have hx00 : x ≠ 0 := fun z => by rw [z] at hx0; cases hx0
      cases hb : Nat.ble 1099511627776 x
      case' false => skip
      case' true =>
        rw [hb] at hop
        simp only [cond_true] at hop
        cases hop
        delta o_xnew at hr
        try dsimp only at hr
        have hge : 1099511627776 ≤ x := Nat.le_of_ble_eq_true hb
        simp only [dxB, Bool.and_eq_true, Bool.or_eq_true, decide_eq_true_eq, Nat.beq_eq, Nat.blt_eq, Nat.ble_eq, Bool.not_eq_true'] at hx
        obtain ⟨rfl, hx⟩ := hx
        obtain ⟨n, s, cs⟩ := h
        change cond (Nat.blt n 1073741824) _ none = _ at hr
        obtain ⟨hn, hr9⟩ := dco_inv hr
        clear hr
        have hr := hr9
        clear hr9
        have hn := di_blt.mp hn
        obtain ⟨hd10, hr9⟩ := dco_inv hr
        clear hr
        have hr := hr9
        clear hr9
        obtain ⟨hcat, hr9⟩ := dco_inv hr
        clear hr
        have hr := hr9
        clear hr9
        obtain ⟨h1, hs, z1, z2, hw1, eh⟩ := hpush_spec (c := (18, 6, 0)) (sz := 6) (fun h' => rec d y (Nat.mod x 1099511627776) L (.inr (.inr (Nat.succ n)) :: st) h') none hw
        rw [hs] at hr
        have G := ihr _ _ _ _ _ _ _ _ hr hw1
        dsimp only at z1 z2 eh
        refine ⟨⟨by have := G.1.1; show n ≤ _; omega, by have := G.1.2.1; show s ≤ _; omega, G.1.2.2⟩, fun q2 hq2 => ?_⟩
        cases QQ hq2
        rcases hx with (hx | ⟨-, hx⟩) | ⟨hf, hci, -⟩
        · exact absurd hx hx00
        · obtain ⟨⟨o9, ik, is, w9, ic⟩, hxn, hx⟩ := List.any_eq_true.mp hx
          simp only [Bool.and_eq_true, decide_eq_true_eq, Nat.beq_eq] at hx
          obtain ⟨y1, y2, y3, y4, y5, y6, y7⟩ := hx
          subst y1; subst y2
          have G2 := G.2 q hq
          rw [show Nat.mod x 1099511627776 = pc + 9 from y6] at G2
          exact absurd hxn List.not_mem_nil
        · have : x / 256 < 13 := hci
          omega
      rw [hb] at hop
      simp only [cond_false] at hop
      cases hop
      delta o_new at hr
      try dsimp only at hr
      have hlt : x < 1099511627776 := Nat.lt_of_not_le fun z => by rw [Nat.ble_eq_true_of_le z] at hb; cases hb
      simp only [dxB, Bool.and_eq_true, Bool.or_eq_true, decide_eq_true_eq, Nat.beq_eq, Nat.blt_eq, Nat.ble_eq, Bool.not_eq_true'] at hx
      obtain ⟨rfl, hx⟩ := hx
      rcases hx with (hx | ⟨hx, -⟩) | ⟨hf, hci, hN⟩
      · exact absurd hx hx00
      · omega
      obtain ⟨n, s, cs⟩ := h
      change cond (Nat.blt n 1073741824) _ none = _ at hr
      obtain ⟨hn, hr9⟩ := dco_inv hr
      clear hr
      have hr := hr9
      clear hr9
      have hn := di_blt.mp hn
      rw [fo_eq] at hr
      obtain ⟨h1, hs, z1, z2, hw1, eh⟩ := hpush_spec (c := (Nat.add (Nat.div x 256) 4, Nat.mod x 256, 0)) (sz := Nat.mod x 256) (fun h' => nxt rec d L (.inr (.inr (Nat.succ n)) :: st) h') none hw
      rw [hs] at hr
      have G := ihn _ _ _ _ _ _ hr hw1
      dsimp only at z1 z2 eh
      refine ⟨⟨by have := G.1.1; show n ≤ _; omega, by have := G.1.2.1; show s ≤ _; omega, G.1.2.2⟩, fun q2 hq2 => ?_⟩
      cases QQ hq2
      exact ds_new hn hdg ho hf hci z1 (by rw [z2]; exact congrArg _ hN) hw1 (fun j => by rw [eh j]; show (if j = n then some (x / 256 + 4, x % 256, 0) else _) = if j = n then some (x / 256 + 4, cN (x / 256), 0) else _; rw [hN]) G.1.1 G.1.2.1 (G.2 q hq)
    · rw [hx0] at hop
      simp only [cond_true] at hop
      cases hop
  case newarray t =>
    delta dop at hop
    dsimp only at hop
    cases hop
    delta o_newarray at hr
    try dsimp only at hr
    simp only [dxB, Bool.and_eq_true, Bool.or_eq_true, decide_eq_true_eq, Nat.beq_eq, Nat.blt_eq, Nat.ble_eq, Bool.not_eq_true'] at hx
    obtain ⟨rfl, ht⟩ := hx
    obtain ⟨v, st, rfl, hr9⟩ := d1_inv hr
    clear hr
    have hr := hr9
    clear hr9
    obtain ⟨n, s, cs⟩ := h
    change cond (Nat.blt n 1073741824) _ none = _ at hr
    obtain ⟨hn, hr9⟩ := dco_inv hr
    clear hr
    have hr := hr9
    clear hr9
    have hn := di_blt.mp hn
    rw [fo_eq] at hr
    obtain ⟨hle, hr9⟩ := dco_inv hr
    clear hr
    have hr := hr9
    clear hr9
    obtain ⟨h1, hs, z1, z2, hw1, eh⟩ := hpush_spec (c := (x, Nat.mod v 4294967296, 0)) (sz := Nat.mod v 4294967296) (fun h' => nxt rec d L (.inr (.inr (Nat.succ n)) :: st) h') none hw
    rw [hs] at hr
    have G := ihn _ _ _ _ _ _ hr hw1
    dsimp only at z1 z2 eh
    refine ⟨⟨by have := G.1.1; show n ≤ _; omega, by have := G.1.2.1; show s ≤ _; omega, G.1.2.2⟩, fun q2 hq2 => ?_⟩
    cases QQ hq2
    have hle := Nat.le_of_ble_eq_true hle
    cases t <;> first | (cases ht; done) | skip
    all_goals (have ht := Nat.eq_of_beq_eq_true ht; subst ht; exact ds_newarray hn hdg (by decide) rfl rfl hle z1 z2 hw1 eh G.1.1 G.1.2.1 (G.2 q hq))
  case arraylength =>
    delta dop at hop
    dsimp only at hop
    cases hop
    delta o_alen at hr
    try dsimp only at hr
    simp only [dxB, Bool.and_eq_true, Bool.or_eq_true, decide_eq_true_eq, Nat.beq_eq, Nat.blt_eq, Nat.ble_eq, Bool.not_eq_true'] at hx
    subst hx
    obtain ⟨a, st, rfl, hr9⟩ := d1a_inv hr
    clear hr
    have hr := hr9
    clear hr9
    obtain ⟨kd, n, ct, ha, hr9⟩ := cel_inv hr
    clear hr
    have hr := hr9
    clear hr9
    obtain ⟨hkd, hr9⟩ := dco_inv hr
    clear hr
    have hr := hr9
    clear hr9
    have hkd := di_blt.mp hkd
    have G := ihn _ _ _ _ _ _ hr hw
    exact ⟨G.1, fun q2 hq2 => by
      cases QQ hq2
      exact ds_alen hdg hkd ha (G.2 q hq)⟩
  case iaload =>
    delta dop at hop
    dsimp only at hop
    cases hop
    delta o_iaload at hr
    try dsimp only at hr
    simp only [dxB, Bool.and_eq_true, Bool.or_eq_true, decide_eq_true_eq, Nat.beq_eq, Nat.blt_eq, Nat.ble_eq, Bool.not_eq_true'] at hx
    subst hx
    obtain ⟨a, i, st, rfl, hr9⟩ := dia_inv hr
    clear hr
    have hr := hr9
    clear hr9
    obtain ⟨kd, n, ct, ha, hr9⟩ := cel_inv hr
    clear hr
    have hr := hr9
    clear hr9
    obtain ⟨hkd, hr9⟩ := dco_inv hr
    clear hr
    have hr := hr9
    clear hr9
    have hkd := Nat.eq_of_beq_eq_true hkd
    subst hkd
    obtain ⟨g1, g2, hr9⟩ := din_inv hr
    clear hr
    have hr := hr9
    clear hr9
    rw [fo_eq] at hr
    have G := ihn _ _ _ _ _ _ hr hw
    exact ⟨G.1, fun q2 hq2 => by
      cases QQ hq2
      exact ds_iaload hdg ha rfl g1 g2 (G.2 q hq)⟩
  case laload =>
    delta dop at hop
    dsimp only at hop
    cases hop
    delta o_laload at hr
    try dsimp only at hr
    simp only [dxB, Bool.and_eq_true, Bool.or_eq_true, decide_eq_true_eq, Nat.beq_eq, Nat.blt_eq, Nat.ble_eq, Bool.not_eq_true'] at hx
    subst hx
    obtain ⟨a, i, st, rfl, hr9⟩ := dia_inv hr
    clear hr
    have hr := hr9
    clear hr9
    obtain ⟨kd, n, ct, ha, hr9⟩ := cel_inv hr
    clear hr
    have hr := hr9
    clear hr9
    obtain ⟨hkd, hr9⟩ := dco_inv hr
    clear hr
    have hr := hr9
    clear hr9
    have hkd := Nat.eq_of_beq_eq_true hkd
    subst hkd
    obtain ⟨g1, g2, hr9⟩ := din_inv hr
    clear hr
    have hr := hr9
    clear hr9
    rw [fo_eq] at hr
    have G := ihn _ _ _ _ _ _ hr hw
    exact ⟨G.1, fun q2 hq2 => by
      cases QQ hq2
      exact ds_laload hdg ha rfl g1 g2 (G.2 q hq)⟩
  case baload =>
    delta dop at hop
    dsimp only at hop
    cases hop
    delta o_baload at hr
    try dsimp only at hr
    simp only [dxB, Bool.and_eq_true, Bool.or_eq_true, decide_eq_true_eq, Nat.beq_eq, Nat.blt_eq, Nat.ble_eq, Bool.not_eq_true'] at hx
    subst hx
    obtain ⟨a, i, st, rfl, hr9⟩ := dia_inv hr
    clear hr
    have hr := hr9
    clear hr9
    obtain ⟨kd, n, ct, ha, hr9⟩ := cel_inv hr
    clear hr
    have hr := hr9
    clear hr9
    cases h2 : Nat.beq kd 2
    · rw [h2] at hr
      simp only [cond_false] at hr
      obtain ⟨hkd, hr9⟩ := dco_inv hr
      clear hr
      have hr := hr9
      clear hr9
      have hkd := Nat.eq_of_beq_eq_true hkd
      subst hkd
      obtain ⟨g1, g2, hr9⟩ := din_inv hr
      clear hr
      have hr := hr9
      clear hr9
      rw [fo_eq] at hr
      have G := ihn _ _ _ _ _ _ hr hw
      exact ⟨G.1, fun q2 hq2 => by
        cases QQ hq2
        exact ds_baload3 hdg ha rfl g1 g2 (G.2 q hq)⟩
    · rw [h2] at hr
      simp only [cond_true] at hr
      have hkd := Nat.eq_of_beq_eq_true h2
      subst hkd
      obtain ⟨g1, g2, hr9⟩ := din_inv hr
      clear hr
      have hr := hr9
      clear hr9
      rw [fo_eq] at hr
      have G := ihn _ _ _ _ _ _ hr hw
      exact ⟨G.1, fun q2 hq2 => by
        cases QQ hq2
        exact ds_baload2 hdg ha rfl g1 g2 (G.2 q hq)⟩
  case iastore =>
    delta dop at hop
    dsimp only at hop
    cases hop
    delta o_iastore at hr
    try dsimp only at hr
    simp only [dxB, Bool.and_eq_true, Bool.or_eq_true, decide_eq_true_eq, Nat.beq_eq, Nat.blt_eq, Nat.ble_eq, Bool.not_eq_true'] at hx
    subst hx
    obtain ⟨a, i, v, st, rfl, hr9⟩ := diia_inv hr
    clear hr
    have hr := hr9
    clear hr9
    obtain ⟨kd, n, ct, ha, hr9⟩ := cel_inv hr
    clear hr
    have hr := hr9
    clear hr9
    obtain ⟨hkd, hr9⟩ := dco_inv hr
    clear hr
    have hr := hr9
    clear hr9
    have hkd := Nat.eq_of_beq_eq_true hkd
    subst hkd
    obtain ⟨g1, g2, hr9⟩ := din_inv hr
    clear hr
    have hr := hr9
    clear hr9
    rw [fo_eq] at hr
    obtain ⟨h1, hs, z1, z2, hw1, eh⟩ := hset_spec (c := (0, n, wst 32 ct (i % 4294967296) (Nat.mod v 4294967296))) (fun h' => nxt rec d L st h') none hw ha
    rw [hs] at hr
    have G := ihn _ _ _ _ _ _ hr hw1
    refine ⟨⟨by have := G.1.1; omega, by have := G.1.2.1; omega, G.1.2.2⟩, fun q2 hq2 => ?_⟩
    cases QQ hq2
    exact ds_iastore hdg ha rfl g1 g2 z1 z2 hw1 eh (G.2 q hq)
  case lastore =>
    delta dop at hop
    dsimp only at hop
    cases hop
    delta o_lastore at hr
    try dsimp only at hr
    simp only [dxB, Bool.and_eq_true, Bool.or_eq_true, decide_eq_true_eq, Nat.beq_eq, Nat.blt_eq, Nat.ble_eq, Bool.not_eq_true'] at hx
    subst hx
    obtain ⟨a, i, v, st, rfl, hr9⟩ := dlia_inv hr
    clear hr
    have hr := hr9
    clear hr9
    obtain ⟨kd, n, ct, ha, hr9⟩ := cel_inv hr
    clear hr
    have hr := hr9
    clear hr9
    obtain ⟨hkd, hr9⟩ := dco_inv hr
    clear hr
    have hr := hr9
    clear hr9
    have hkd := Nat.eq_of_beq_eq_true hkd
    subst hkd
    obtain ⟨g1, g2, hr9⟩ := din_inv hr
    clear hr
    have hr := hr9
    clear hr9
    rw [fo_eq] at hr
    obtain ⟨h1, hs, z1, z2, hw1, eh⟩ := hset_spec (c := (1, n, wst 64 ct (i % 4294967296) (Nat.mod v 18446744073709551616))) (fun h' => nxt rec d L st h') none hw ha
    rw [hs] at hr
    have G := ihn _ _ _ _ _ _ hr hw1
    refine ⟨⟨by have := G.1.1; omega, by have := G.1.2.1; omega, G.1.2.2⟩, fun q2 hq2 => ?_⟩
    cases QQ hq2
    exact ds_lastore hdg ha rfl g1 g2 z1 z2 hw1 eh (G.2 q hq)
  case bastore =>
    delta dop at hop
    dsimp only at hop
    cases hop
    delta o_bastore at hr
    try dsimp only at hr
    simp only [dxB, Bool.and_eq_true, Bool.or_eq_true, decide_eq_true_eq, Nat.beq_eq, Nat.blt_eq, Nat.ble_eq, Bool.not_eq_true'] at hx
    subst hx
    obtain ⟨a, i, v, st, rfl, hr9⟩ := diia_inv hr
    clear hr
    have hr := hr9
    clear hr9
    obtain ⟨kd, n, ct, ha, hr9⟩ := cel_inv hr
    clear hr
    have hr := hr9
    clear hr9
    cases h2 : Nat.beq kd 2
    · rw [h2] at hr
      simp only [cond_false] at hr
      obtain ⟨hkd, hr9⟩ := dco_inv hr
      clear hr
      have hr := hr9
      clear hr9
      have hkd := Nat.eq_of_beq_eq_true hkd
      subst hkd
      obtain ⟨g1, g2, hr9⟩ := din_inv hr
      clear hr
      have hr := hr9
      clear hr9
      rw [fo_eq] at hr
      obtain ⟨h1, hs, z1, z2, hw1, eh⟩ := hset_spec (c := (3, n, wst 8 ct (i % 4294967296) (Nat.mod v 2))) (fun h' => nxt rec d L st h') none hw ha
      rw [hs] at hr
      have G := ihn _ _ _ _ _ _ hr hw1
      refine ⟨⟨by have := G.1.1; omega, by have := G.1.2.1; omega, G.1.2.2⟩, fun q2 hq2 => ?_⟩
      cases QQ hq2
      exact ds_bastore3 hdg ha rfl g1 g2 z1 z2 hw1 eh (G.2 q hq)
    · rw [h2] at hr
      simp only [cond_true] at hr
      have hkd := Nat.eq_of_beq_eq_true h2
      subst hkd
      obtain ⟨g1, g2, hr9⟩ := din_inv hr
      clear hr
      have hr := hr9
      clear hr9
      rw [fo_eq] at hr
      obtain ⟨h1, hs, z1, z2, hw1, eh⟩ := hset_spec (c := (2, n, wst 8 ct (i % 4294967296) (Nat.mod v 256))) (fun h' => nxt rec d L st h') none hw ha
      rw [hs] at hr
      have G := ihn _ _ _ _ _ _ hr hw1
      refine ⟨⟨by have := G.1.1; omega, by have := G.1.2.1; omega, G.1.2.2⟩, fun q2 hq2 => ?_⟩
      cases QQ hq2
      exact ds_bastore2 hdg ha rfl g1 g2 z1 z2 hw1 eh (G.2 q hq)
  case invokestatic i =>
    delta dop at hop
    dsimp only at hop
    cases hb : Nat.ble 1099511627776 x
    · rw [hb] at hop
      simp only [cond_false] at hop
      cases hop
      have hlt : x < 1099511627776 := Nat.lt_of_not_le fun z => by rw [Nat.ble_eq_true_of_le z] at hb; cases hb
      delta o_static at hr
      try dsimp only at hr
      simp only [dxB, Bool.and_eq_true, Bool.or_eq_true, decide_eq_true_eq, Nat.beq_eq, Nat.blt_eq, Nat.ble_eq, Bool.not_eq_true'] at hx
      obtain ⟨rfl, hx⟩ := hx
      obtain ⟨as, st, rfl, hal, hr9⟩ := dpop_spec hr
      clear hr
      have hr := hr9
      clear hr9
      rw [List.append_nil] at hr
      obtain ⟨hcat, hr9⟩ := dco_inv hr
      clear hr
      have hr := hr9
      clear hr9
      have hcat := Nat.le_of_ble_eq_true hcat
      obtain ⟨d', v, h1, rfl, hsz, hrec, hr9⟩ := dcall_inv hr
      clear hr
      have hr := hr9
      clear hr9
      obtain ⟨hv, hr9⟩ := dcn_inv hr
      clear hr
      have hr := hr9
      clear hr9
      rw [dgo_eq] at hr
      have G0 := ihr _ _ _ _ _ _ _ _ hrec hw
      have G := ihn _ _ _ _ _ _ hr G0.1.2.2
      refine ⟨⟨Nat.le_trans G0.1.1 G.1.1, Nat.le_trans G0.1.2.1 G.1.2.1, G.1.2.2⟩, fun q2 hq2 => ?_⟩
      cases QQ hq2
      rcases hx with ⟨hx, -⟩ | hx | ⟨hx, hN⟩
      · omega
      · obtain ⟨t, ht, c1, c2, c3, c4, c6, c5⟩ := dcallB_f hx
        have hF := dM_f ht
        have hM : dMet l D b t d' as h v h1 := dMet_of c2 hv hF.2.2.2 hF.2.2.1 (by rw [← c6]; exact hsz) G0.1.1 G0.1.2.1 (G0.2 t ht)
        have hmh := cR_mh _ c1
        rw [← c3] at hmh
        exact ds_static hdg ho ⟨ht, c2, c5, hmh, by rw [c4, hal]; rfl, hF.2.1⟩ hM G0.1.1 G0.1.2.1 G.1.1 G.1.2.1 hcat (G.2 q hq)
      · obtain ⟨t, ht, c1, c2, c3, c4, c6, c5⟩ := dcallB_f hx
        have hF := dM_f ht
        have hM : dMet l D b t d' as h v h1 := dMet_of c2 hv hF.2.2.2 hF.2.2.1 (by rw [← c6]; exact hsz) G0.1.1 G0.1.2.1 (G0.2 t ht)
        have hmh := cR_mh _ c1
        rw [← c3] at hmh
        exact ds_nest hdg ho ⟨ht, c2, c5, hmh, by rw [c4, hal]; rfl, hF.2.1⟩ hN hM G0.1.1 G0.1.2.1 G.1.1 G.1.2.1 hcat (G.2 q hq)
    · rw [hb] at hop
      simp only [cond_true] at hop
      unfold dopM at hop
      cases h1 : Nat.beq x 1099511627777
      · rw [h1] at hop
        simp only [cond_false] at hop
        cases h2 : Nat.beq x 1099511627778
        · rw [h2] at hop
          simp only [cond_false] at hop
          cases h3 : Nat.beq x 1099511627779
          · rw [h3] at hop
            simp only [cond_false] at hop
            cases h4 : Nat.beq x 1099511627780
            · rw [h4] at hop
              simp only [cond_false] at hop
              cases h6 : Nat.beq x 1099511627782
              · rw [h6] at hop
                simp only [cond_false] at hop
                cases h7 : Nat.beq x 1099511627781
                · rw [h7] at hop
                  simp only [cond_false] at hop
                  cases hop
                · rw [h7] at hop
                  simp only [cond_true] at hop
                  cases hop
                  have hxe := Nat.eq_of_beq_eq_true h7
                  subst hxe
                  delta o_bitc at hr
                  try dsimp only at hr
                  simp only [dxB, Bool.and_eq_true, Bool.or_eq_true, decide_eq_true_eq, Nat.beq_eq, Nat.blt_eq, Nat.ble_eq, Bool.not_eq_true'] at hx
                  obtain ⟨rfl, hx⟩ := hx
                  obtain ⟨v, st, rfl, hr9⟩ := pop_inv hr
                  clear hr
                  have hr := hr9
                  clear hr9
                  obtain ⟨n, rfl, hr9⟩ := vI_inv hr
                  clear hr
                  have hr := hr9
                  clear hr9
                  obtain ⟨hg, hr9⟩ := dco_inv hr
                  clear hr
                  have hr := hr9
                  clear hr9
                  rw [fo_eq] at hr
                  simp only [Bool.and_eq_true, Nat.ble_eq] at hg
                  have G := ihn _ _ _ _ _ _ hr hw
                  refine ⟨G.1, fun q2 hq2 => ?_⟩
                  cases QQ hq2
                  rcases hx with ⟨-, hx | hx⟩ | hx | ⟨hx, -⟩
                  · rcases hx.2.2 with hy | hy
                    · exact absurd hy (by decide)
                    · exact ds_bitc hdg hy hg.1 hg.2 G.1.1 G.1.2.1 (G.2 q hq)
                  · exact absurd rfl ((show ∀ e ∈ dMM, e.2.2 ≠ 5 by decide) _ hx)
                  · obtain ⟨t, ht, -⟩ := dcallB_f hx
                    exact absurd (List.getElem?_eq_some_iff.mp ht).1 (fun z => absurd (Nat.lt_of_lt_of_le z dlen) (by decide))
                  · obtain ⟨t, ht, -⟩ := dcallB_f hx
                    exact absurd (List.getElem?_eq_some_iff.mp ht).1 (fun z => absurd (Nat.lt_of_lt_of_le z dlen) (by decide))
              · rw [h6] at hop
                simp only [cond_true] at hop
                cases hop
                have hxe := Nat.eq_of_beq_eq_true h6
                subst hxe
                delta o_acopy at hr
                try dsimp only at hr
                simp only [dxB, Bool.and_eq_true, Bool.or_eq_true, decide_eq_true_eq, Nat.beq_eq, Nat.blt_eq, Nat.ble_eq, Bool.not_eq_true'] at hx
                obtain ⟨rfl, hx⟩ := hx
                obtain ⟨v, r0, rfl, hr9⟩ := pop_inv hr
                clear hr
                have hr := hr9
                clear hr9
                obtain ⟨xn, rfl, hr9⟩ := vI_inv hr
                clear hr
                have hr := hr9
                clear hr9
                obtain ⟨a2, xd, r1, rfl, hr9⟩ := dia_inv hr
                clear hr
                have hr := hr9
                clear hr9
                obtain ⟨a1, xs, st, rfl, hr9⟩ := dia_inv hr
                clear hr
                have hr := hr9
                clear hr9
                obtain ⟨kd1, n1, ct1, hc1, hr9⟩ := cel_inv hr
                clear hr
                have hr := hr9
                clear hr9
                obtain ⟨kd2, n2, ct2, hc2, hr9⟩ := cel_inv hr
                clear hr
                have hr := hr9
                clear hr9
                obtain ⟨hg, hr9⟩ := dco_inv hr
                clear hr
                have hr := hr9
                clear hr9
                rw [fo_eq] at hr
                simp only [Bool.and_eq_true, Nat.beq_eq, Nat.blt_eq, Nat.ble_eq] at hg
                obtain ⟨rfl, rfl, s3, s1, s2, g1, g2, hd1, hcat⟩ := hg
                obtain ⟨h1, hs, z1, z2, hw1, eh⟩ := hset_spec (c := (2, n2, dcp ct1 ct2 (xs % 4294967296) (xd % 4294967296) (Nat.mod xn 4294967296))) (fun h' => nxt rec d L st h') none hw hc2
                rw [hs] at hr
                have G := ihn _ _ _ _ _ _ hr hw1
                refine ⟨⟨by have := G.1.1; omega, by have := G.1.2.1; omega, G.1.2.2⟩, fun q2 hq2 => ?_⟩
                cases QQ hq2
                rcases hx with ⟨-, hx | hx⟩ | hx | ⟨hx, -⟩
                · rcases hx.2.1 with hy | hy
                  · exact absurd hy (by decide)
                  · exact ds_acopy hdg hy hd1 hcat hc1 hc2 s1 s2 s3 g1 g2 z1 z2 hw1 eh (G.2 q hq)
                · exact absurd rfl ((show ∀ e ∈ dMM, e.2.2 ≠ 6 by decide) _ hx)
                · obtain ⟨t, ht, -⟩ := dcallB_f hx
                  exact absurd (List.getElem?_eq_some_iff.mp ht).1 (fun z => absurd (Nat.lt_of_lt_of_le z dlen) (by decide))
                · obtain ⟨t, ht, -⟩ := dcallB_f hx
                  exact absurd (List.getElem?_eq_some_iff.mp ht).1 (fun z => absurd (Nat.lt_of_lt_of_le z dlen) (by decide))
            · rw [h4] at hop
              simp only [cond_true] at hop
              cases hop
              have hxe := Nat.eq_of_beq_eq_true h4
              subst hxe
              delta o_mml at hr
              try dsimp only at hr
              simp only [dxB, Bool.and_eq_true, Bool.or_eq_true, decide_eq_true_eq, Nat.beq_eq, Nat.blt_eq, Nat.ble_eq, Bool.not_eq_true'] at hx
              obtain ⟨rfl, hx⟩ := hx
              obtain ⟨v, w, st, rfl, hr9⟩ := d2l_inv hr
              clear hr
              have hr := hr9
              clear hr9
              obtain ⟨hd1, hr9⟩ := dco_inv hr
              clear hr
              have hr := hr9
              clear hr9
              obtain ⟨hcat, hr9⟩ := dco_inv hr
              clear hr
              have hr := hr9
              clear hr9
              rw [fo_eq] at hr
              have G := ihn _ _ _ _ _ _ hr hw
              refine ⟨G.1, fun q2 hq2 => ?_⟩
              cases QQ hq2
              rcases hx with ⟨-, hx | hx⟩ | hx | ⟨hx, -⟩
              · exact absurd hx.1 (by decide)
              · exact ds_mminl hdg hx (Nat.le_of_ble_eq_true hd1) (Nat.le_of_ble_eq_true hcat) G.1.1 G.1.2.1 (G.2 q hq)
              · obtain ⟨t, ht, -⟩ := dcallB_f hx
                exact absurd (List.getElem?_eq_some_iff.mp ht).1 (fun z => absurd (Nat.lt_of_lt_of_le z dlen) (by decide))
              · obtain ⟨t, ht, -⟩ := dcallB_f hx
                exact absurd (List.getElem?_eq_some_iff.mp ht).1 (fun z => absurd (Nat.lt_of_lt_of_le z dlen) (by decide))
          · rw [h3] at hop
            simp only [cond_true] at hop
            cases hop
            have hxe := Nat.eq_of_beq_eq_true h3
            subst hxe
            delta o_mml at hr
            try dsimp only at hr
            simp only [dxB, Bool.and_eq_true, Bool.or_eq_true, decide_eq_true_eq, Nat.beq_eq, Nat.blt_eq, Nat.ble_eq, Bool.not_eq_true'] at hx
            obtain ⟨rfl, hx⟩ := hx
            obtain ⟨v, w, st, rfl, hr9⟩ := d2l_inv hr
            clear hr
            have hr := hr9
            clear hr9
            obtain ⟨hd1, hr9⟩ := dco_inv hr
            clear hr
            have hr := hr9
            clear hr9
            obtain ⟨hcat, hr9⟩ := dco_inv hr
            clear hr
            have hr := hr9
            clear hr9
            rw [fo_eq] at hr
            have G := ihn _ _ _ _ _ _ hr hw
            refine ⟨G.1, fun q2 hq2 => ?_⟩
            cases QQ hq2
            rcases hx with ⟨-, hx | hx⟩ | hx | ⟨hx, -⟩
            · exact absurd hx.1 (by decide)
            · exact ds_mmaxl hdg hx (Nat.le_of_ble_eq_true hd1) (Nat.le_of_ble_eq_true hcat) G.1.1 G.1.2.1 (G.2 q hq)
            · obtain ⟨t, ht, -⟩ := dcallB_f hx
              exact absurd (List.getElem?_eq_some_iff.mp ht).1 (fun z => absurd (Nat.lt_of_lt_of_le z dlen) (by decide))
            · obtain ⟨t, ht, -⟩ := dcallB_f hx
              exact absurd (List.getElem?_eq_some_iff.mp ht).1 (fun z => absurd (Nat.lt_of_lt_of_le z dlen) (by decide))
        · rw [h2] at hop
          simp only [cond_true] at hop
          cases hop
          have hxe := Nat.eq_of_beq_eq_true h2
          subst hxe
          delta o_mm at hr
          try dsimp only at hr
          simp only [dxB, Bool.and_eq_true, Bool.or_eq_true, decide_eq_true_eq, Nat.beq_eq, Nat.blt_eq, Nat.ble_eq, Bool.not_eq_true'] at hx
          obtain ⟨rfl, hx⟩ := hx
          obtain ⟨v, w, st, rfl, hr9⟩ := d2_inv hr
          clear hr
          have hr := hr9
          clear hr9
          obtain ⟨hd1, hr9⟩ := dco_inv hr
          clear hr
          have hr := hr9
          clear hr9
          obtain ⟨hcat, hr9⟩ := dco_inv hr
          clear hr
          have hr := hr9
          clear hr9
          rw [fo_eq] at hr
          have G := ihn _ _ _ _ _ _ hr hw
          refine ⟨G.1, fun q2 hq2 => ?_⟩
          cases QQ hq2
          rcases hx with ⟨-, hx | hx⟩ | hx | ⟨hx, -⟩
          · exact absurd hx.1 (by decide)
          · exact ds_mmin hdg hx (Nat.le_of_ble_eq_true hd1) (Nat.le_of_ble_eq_true hcat) G.1.1 G.1.2.1 (G.2 q hq)
          · obtain ⟨t, ht, -⟩ := dcallB_f hx
            exact absurd (List.getElem?_eq_some_iff.mp ht).1 (fun z => absurd (Nat.lt_of_lt_of_le z dlen) (by decide))
          · obtain ⟨t, ht, -⟩ := dcallB_f hx
            exact absurd (List.getElem?_eq_some_iff.mp ht).1 (fun z => absurd (Nat.lt_of_lt_of_le z dlen) (by decide))
      · rw [h1] at hop
        simp only [cond_true] at hop
        cases hop
        have hxe := Nat.eq_of_beq_eq_true h1
        subst hxe
        delta o_mm at hr
        try dsimp only at hr
        simp only [dxB, Bool.and_eq_true, Bool.or_eq_true, decide_eq_true_eq, Nat.beq_eq, Nat.blt_eq, Nat.ble_eq, Bool.not_eq_true'] at hx
        obtain ⟨rfl, hx⟩ := hx
        obtain ⟨v, w, st, rfl, hr9⟩ := d2_inv hr
        clear hr
        have hr := hr9
        clear hr9
        obtain ⟨hd1, hr9⟩ := dco_inv hr
        clear hr
        have hr := hr9
        clear hr9
        obtain ⟨hcat, hr9⟩ := dco_inv hr
        clear hr
        have hr := hr9
        clear hr9
        rw [fo_eq] at hr
        have G := ihn _ _ _ _ _ _ hr hw
        refine ⟨G.1, fun q2 hq2 => ?_⟩
        cases QQ hq2
        rcases hx with ⟨-, hx | hx⟩ | hx | ⟨hx, -⟩
        · exact absurd hx.1 (by decide)
        · exact ds_mmax hdg hx (Nat.le_of_ble_eq_true hd1) (Nat.le_of_ble_eq_true hcat) G.1.1 G.1.2.1 (G.2 q hq)
        · obtain ⟨t, ht, -⟩ := dcallB_f hx
          exact absurd (List.getElem?_eq_some_iff.mp ht).1 (fun z => absurd (Nat.lt_of_lt_of_le z dlen) (by decide))
        · obtain ⟨t, ht, -⟩ := dcallB_f hx
          exact absurd (List.getElem?_eq_some_iff.mp ht).1 (fun z => absurd (Nat.lt_of_lt_of_le z dlen) (by decide))
  case invokevirtual i =>
    delta dop at hop
    dsimp only at hop
    cases hb2 : Nat.ble 2199023255552 x
    case' true =>
      rw [hb2] at hop
      simp only [cond_true] at hop
      cases hop
      have hge : 2199023255552 ≤ x := Nat.le_of_ble_eq_true hb2
      delta o_vtry at hr
      try dsimp only at hr
      simp only [dxB, Bool.and_eq_true, Bool.or_eq_true, decide_eq_true_eq, Nat.beq_eq, Nat.blt_eq, Nat.ble_eq, Bool.not_eq_true'] at hx
      obtain ⟨rfl, hx⟩ := hx
      obtain ⟨as, st, rfl, hal, hr9⟩ := dpop_spec hr
      clear hr
      have hr := hr9
      clear hr9
      rw [List.append_nil] at hr
      obtain ⟨a, st, rfl, hr9⟩ := d1a_inv hr
      clear hr
      have hr := hr9
      clear hr9
      obtain ⟨kd, n, ct, ha, hr9⟩ := cel_inv hr
      clear hr
      have hr := hr9
      clear hr9
      obtain ⟨hkd, hr9⟩ := dco_inv hr
      clear hr
      have hr := hr9
      clear hr9
      have hkd := Nat.eq_of_beq_eq_true hkd
      subst hkd
      obtain ⟨hcat, hr9⟩ := dco_inv hr
      clear hr
      have hr := hr9
      clear hr9
      have hcat := Nat.le_of_ble_eq_true hcat
      obtain ⟨d', v, h1, rfl, hsz, hrec, hr9⟩ := dcall_inv hr
      clear hr
      have hr := hr9
      clear hr9
      have G0 := ihr _ _ _ _ _ _ _ _ hrec hw
      have hxZ : dcallB q i (x % 1099511627776) [1] = true ∧ dhook q pc (x / 2199023255552 % 64) (x / 140737488355328) = true := by
        rcases hx with hx | hx | hx | (hx | hx) | hx
        · omega
        · omega
        · omega
        · omega
        · omega
        · exact ⟨hx.1.2, hx.2⟩
      obtain ⟨hx, hk⟩ := hxZ
      have m1 : x % 1099511627776 % 16 = x % 16 := by omega
      have m2 : x % 1099511627776 / 16 % 16 = x / 16 % 16 := by omega
      obtain ⟨t, ht, c1, c2, c3, c4, c6, c5⟩ := dcallG_f (Or.inl hx)
      have hF := dM_f ht
      have hM : dMetG l D b t d' (.inr (.inr (Nat.succ a)) :: as) h v h1 := dMetG_of hF.2.2.2 hF.2.2.1 (by rw [← c6]; exact hsz) G0.1.1 G0.1.2.1 (G0.2 t ht)
      have hmh := cR_mh _ c1
      rw [← c3] at hmh
      rw [m1] at c1 c3
      rw [m2] at c4
      cases hv : dthr v
      · rw [hv] at hr
        simp only [cond_false] at hr
        rw [dgo_eq] at hr
        have G := ihn _ _ _ _ _ _ hr G0.1.2.2
        refine ⟨⟨Nat.le_trans G0.1.1 G.1.1, Nat.le_trans G0.1.2.1 G.1.2.1, G.1.2.2⟩, fun q2 hq2 => ?_⟩
        cases QQ hq2
        exact ds_virtG hdg ho ⟨ht, c2, c5, hmh, by rw [c4, hal]; rfl, hF.2.1⟩ c1 c3 ha hM G0.1.1 G0.1.2.1 G.1.1 G.1.2.1 hcat (fun _ => G.2 q hq) (fun z => by rw [hv] at z; cases z)
      · rw [hv] at hr
        simp only [cond_true] at hr
        rw [fltc_eq] at hr
        have G := ihr _ _ _ _ _ _ _ _ hr G0.1.2.2
        refine ⟨⟨Nat.le_trans G0.1.1 G.1.1, Nat.le_trans G0.1.2.1 G.1.2.1, G.1.2.2⟩, fun q2 hq2 => ?_⟩
        cases QQ hq2
        exact ds_virtG hdg ho ⟨ht, c2, c5, hmh, by rw [c4, hal]; rfl, hF.2.1⟩ c1 c3 ha hM G0.1.1 G0.1.2.1 G.1.1 G.1.2.1 hcat (fun z => by rw [hv] at z; cases z) (fun _ => dThrow_catch hk (G.2 q hq))
    rw [hb2] at hop
    simp only [cond_false] at hop
    have hlt2 : x < 2199023255552 := Nat.lt_of_not_le fun z => by rw [Nat.ble_eq_true_of_le z] at hb2; cases hb2
    cases hb : Nat.ble 1099511627776 x
    · rw [hb] at hop
      simp only [cond_false] at hop
      cases hop
      have hlt : x < 1099511627776 := Nat.lt_of_not_le fun z => by rw [Nat.ble_eq_true_of_le z] at hb; cases hb
      delta o_virtual at hr
      try dsimp only at hr
      simp only [dxB, Bool.and_eq_true, Bool.or_eq_true, decide_eq_true_eq, Nat.beq_eq, Nat.blt_eq, Nat.ble_eq, Bool.not_eq_true'] at hx
      obtain ⟨rfl, hx⟩ := hx
      obtain ⟨as, st, rfl, hal, hr9⟩ := dpop_spec hr
      clear hr
      have hr := hr9
      clear hr9
      rw [List.append_nil] at hr
      obtain ⟨a, st, rfl, hr9⟩ := d1a_inv hr
      clear hr
      have hr := hr9
      clear hr9
      obtain ⟨kd, n, ct, ha, hr9⟩ := cel_inv hr
      clear hr
      have hr := hr9
      clear hr9
      obtain ⟨hkd, hr9⟩ := dco_inv hr
      clear hr
      have hr := hr9
      clear hr9
      have hkd := Nat.eq_of_beq_eq_true hkd
      subst hkd
      obtain ⟨hcat, hr9⟩ := dco_inv hr
      clear hr
      have hr := hr9
      clear hr9
      have hcat := Nat.le_of_ble_eq_true hcat
      obtain ⟨d', v, h1, rfl, hsz, hrec, hr9⟩ := dcall_inv hr
      clear hr
      have hr := hr9
      clear hr9
      have G0 := ihr _ _ _ _ _ _ _ _ hrec hw
      have hxY : dfree q pc = true ∧ (dcallB q i x [1] = true ∨ dcallW q i x = true) := by
        rcases hx with hx | hx | hx | (hx | hx) | hx
        · omega
        · omega
        · omega
        · omega
        · exact ⟨hx.1.2, hx.2⟩
        · omega
      obtain ⟨hfr, hx⟩ := hxY
      obtain ⟨t, ht, c1, c2, c3, c4, c6, c5⟩ := dcallG_f hx
      have hF := dM_f ht
      have hM : dMetG l D b t d' (.inr (.inr (Nat.succ a)) :: as) h v h1 := dMetG_of hF.2.2.2 hF.2.2.1 (by rw [← c6]; exact hsz) G0.1.1 G0.1.2.1 (G0.2 t ht)
      have hmh := cR_mh _ c1
      rw [← c3] at hmh
      cases hv : dthr v
      · rw [hv] at hr
        simp only [cond_false] at hr
        rw [dgo_eq] at hr
        have G := ihn _ _ _ _ _ _ hr G0.1.2.2
        refine ⟨⟨Nat.le_trans G0.1.1 G.1.1, Nat.le_trans G0.1.2.1 G.1.2.1, G.1.2.2⟩, fun q2 hq2 => ?_⟩
        cases QQ hq2
        exact ds_virtG hdg ho ⟨ht, c2, c5, hmh, by rw [c4, hal]; rfl, hF.2.1⟩ c1 c3 ha hM G0.1.1 G0.1.2.1 G.1.1 G.1.2.1 hcat (fun _ => G.2 q hq) (fun z => by rw [hv] at z; cases z)
      · rw [hv] at hr
        simp only [cond_true] at hr
        cases hr
        refine ⟨G0.1, fun q2 hq2 => ?_⟩
        cases QQ hq2
        exact ds_virtG hdg ho ⟨ht, c2, c5, hmh, by rw [c4, hal]; rfl, hF.2.1⟩ c1 c3 ha hM G0.1.1 G0.1.2.1 (Nat.le_refl _) (Nat.le_refl _) hcat (fun z => by rw [hv] at z; cases z) (fun z => dThrow_out hfr z)
    · rw [hb] at hop
      simp only [cond_true] at hop
      cases h1 : Nat.beq x 1099511627777
      · rw [h1] at hop
        simp only [cond_false] at hop
        cases h2 : Nat.beq x 1099511627778
        · rw [h2] at hop
          simp only [cond_false] at hop
          cases h3 : Nat.beq x 1099511627779
          · rw [h3] at hop
            simp only [cond_false] at hop
            cases hop
          · rw [h3] at hop
            simp only [cond_true] at hop
            cases hop
            have hxe := Nat.eq_of_beq_eq_true h3
            subst hxe
            delta o_indexOf at hr
            try dsimp only at hr
            simp only [dxB, Bool.and_eq_true, Bool.or_eq_true, decide_eq_true_eq, Nat.beq_eq, Nat.blt_eq, Nat.ble_eq, Bool.not_eq_true'] at hx
            obtain ⟨rfl, hx⟩ := hx
            obtain ⟨a, j, st, rfl, hr9⟩ := dia_inv hr
            clear hr
            have hr := hr9
            clear hr9
            obtain ⟨w, n, ct, rfl, hst, hr9⟩ := dstr_inv hr
            clear hr
            have hr := hr9
            clear hr9
            obtain ⟨hd4, hr9⟩ := dco_inv hr
            clear hr
            have hr := hr9
            clear hr9
            obtain ⟨hcat, hr9⟩ := dco_inv hr
            clear hr
            have hr := hr9
            clear hr9
            rw [fo_eq] at hr
            have G := ihn _ _ _ _ _ _ hr hw
            refine ⟨G.1, fun q2 hq2 => ?_⟩
            cases QQ hq2
            rcases hx with hx | hx | hx | (hx | hx) | hx
            · omega
            · omega
            · exact ds_indexOf hdg hx.2 hst rfl (Nat.le_of_ble_eq_true hd4) (Nat.le_of_ble_eq_true hcat) G.1.1 G.1.2.1 (G.2 q hq)
            · omega
            · omega
            · omega
        · rw [h2] at hop
          simp only [cond_true] at hop
          cases hop
          have hxe := Nat.eq_of_beq_eq_true h2
          subst hxe
          delta o_charAt at hr
          try dsimp only at hr
          simp only [dxB, Bool.and_eq_true, Bool.or_eq_true, decide_eq_true_eq, Nat.beq_eq, Nat.blt_eq, Nat.ble_eq, Bool.not_eq_true'] at hx
          obtain ⟨rfl, hx⟩ := hx
          obtain ⟨a, j, st, rfl, hr9⟩ := dia_inv hr
          clear hr
          have hr := hr9
          clear hr9
          obtain ⟨w, n, ct, rfl, hst, hr9⟩ := dstr_inv hr
          clear hr
          have hr := hr9
          clear hr9
          obtain ⟨hjn, hr9⟩ := dco_inv hr
          clear hr
          have hr := hr9
          clear hr9
          obtain ⟨hd4, hr9⟩ := dco_inv hr
          clear hr
          have hr := hr9
          clear hr9
          obtain ⟨hcat, hr9⟩ := dco_inv hr
          clear hr
          have hr := hr9
          clear hr9
          rw [fo_eq] at hr
          have G := ihn _ _ _ _ _ _ hr hw
          refine ⟨G.1, fun q2 hq2 => ?_⟩
          cases QQ hq2
          rcases hx with hx | hx | hx | (hx | hx) | hx
          · omega
          · exact ds_charAt hdg hx.2 hst rfl (di_blt.mp hjn) (Nat.le_of_ble_eq_true hd4) (Nat.le_of_ble_eq_true hcat) G.1.1 G.1.2.1 (G.2 q hq)
          · omega
          · omega
          · omega
          · omega
      · rw [h1] at hop
        simp only [cond_true] at hop
        cases hop
        have hxe := Nat.eq_of_beq_eq_true h1
        subst hxe
        delta o_strlen at hr
        try dsimp only at hr
        simp only [dxB, Bool.and_eq_true, Bool.or_eq_true, decide_eq_true_eq, Nat.beq_eq, Nat.blt_eq, Nat.ble_eq, Bool.not_eq_true'] at hx
        obtain ⟨rfl, hx⟩ := hx
        obtain ⟨a, st, rfl, hr9⟩ := d1a_inv hr
        clear hr
        have hr := hr9
        clear hr9
        obtain ⟨w, n, ct, rfl, hst, hr9⟩ := dstr_inv hr
        clear hr
        have hr := hr9
        clear hr9
        obtain ⟨hd4, hr9⟩ := dco_inv hr
        clear hr
        have hr := hr9
        clear hr9
        obtain ⟨hcat, hr9⟩ := dco_inv hr
        clear hr
        have hr := hr9
        clear hr9
        have G := ihn _ _ _ _ _ _ hr hw
        refine ⟨G.1, fun q2 hq2 => ?_⟩
        cases QQ hq2
        rcases hx with hx | hx | hx | (hx | hx) | hx
        · exact ds_strlen hdg hx.2 hst (Nat.le_of_ble_eq_true hd4) (Nat.le_of_ble_eq_true hcat) G.1.1 G.1.2.1 (G.2 q hq)
        · omega
        · omega
        · omega
        · omega
        · omega
  case invokespecial i =>
    delta dop at hop
    dsimp only at hop
    cases hb : Nat.ble 1099511627776 x
    · rw [hb] at hop
      simp only [cond_false] at hop
      cases hop
      have hlt : x < 1099511627776 := Nat.lt_of_not_le fun z => by rw [Nat.ble_eq_true_of_le z] at hb; cases hb
      have hbq : Nat.beq x 1099511627776 = false := by
        cases z : Nat.beq x 1099511627776
        · rfl
        · have := Nat.eq_of_beq_eq_true z; omega
      delta o_special at hr
      try dsimp only at hr
      obtain ⟨as, st, rfl, hal, hr9⟩ := dpop_spec hr
      clear hr
      have hr := hr9
      clear hr9
      rw [List.append_nil] at hr
      obtain ⟨a, st, rfl, hr9⟩ := d1a_inv hr
      clear hr
      have hr := hr9
      clear hr9
      obtain ⟨hcat, hr9⟩ := dco_inv hr
      clear hr
      have hr := hr9
      clear hr9
      have hcat := Nat.le_of_ble_eq_true hcat
      obtain ⟨d', v, h1, rfl, hsz, hrec, hr9⟩ := dcall_inv hr
      clear hr
      have hr := hr9
      clear hr9
      obtain ⟨hv, hr9⟩ := dcn_inv hr
      clear hr
      have hr := hr9
      clear hr9
      rw [dgo_eq] at hr
      have G0 := ihr _ _ _ _ _ _ _ _ hrec hw
      have G := ihn _ _ _ _ _ _ hr G0.1.2.2
      refine ⟨⟨Nat.le_trans G0.1.1 G.1.1, Nat.le_trans G0.1.2.1 G.1.2.1, G.1.2.2⟩, fun q2 hq2 => ?_⟩
      cases QQ hq2
      unfold dxB at hx
      dsimp only at hx
      rw [hbq, hb] at hx
      simp only [Bool.and_eq_true, Bool.or_eq_true, decide_eq_true_eq, Nat.beq_eq, Bool.false_and, Bool.false_eq_true, false_or, Bool.not_false, true_and] at hx
      obtain ⟨rfl, hx, hx2⟩ := hx
      obtain ⟨t, ht, c1, c2, c3, c4, c6, c5⟩ := dcallB_f hx
      have hF := dM_f ht
      have hM : dMet l D b t d' (.inr (.inr (Nat.succ a)) :: as) h v h1 := dMet_of c2 hv hF.2.2.2 hF.2.2.1 (by rw [← c6]; exact hsz) G0.1.1 G0.1.2.1 (G0.2 t ht)
      have hmh := cR_mh _ c1
      rw [← c3] at hmh
      rw [ht] at hx2
      simp only [Bool.and_eq_true, decide_eq_true_eq, Option.isNone_iff_eq_none] at hx2
      obtain ⟨hi1, hi2⟩ := hx2
      exact ds_special hdg ho ⟨ht, c2, c5, hmh, by rw [c4, hal]; rfl, hF.2.1⟩ hi1 hi2 hM G0.1.1 G0.1.2.1 G.1.1 G.1.2.1 hcat (G.2 q hq)
    · rw [hb] at hop
      simp only [cond_true] at hop
      cases hbq : Nat.beq x 1099511627776
      · rw [hbq] at hop
        simp only [cond_false] at hop
        cases hop
      · rw [hbq] at hop
        simp only [cond_true] at hop
        cases hop
        delta o_objinit at hr
        try dsimp only at hr
        unfold dxB at hx
        dsimp only at hx
        rw [hbq, hb] at hx
        simp only [Bool.and_eq_true, Bool.or_eq_true, decide_eq_true_eq, Nat.beq_eq, Bool.true_and, Bool.not_true, Bool.false_and, Bool.false_eq_true, or_false] at hx
        obtain ⟨rfl, hx⟩ := hx
        cases d with
        | zero => cases hr
        | succ d =>
          change d1a st _ = _ at hr
          obtain ⟨a, st, rfl, hr9⟩ := d1a_inv hr
          clear hr
          have hr := hr9
          clear hr9
          obtain ⟨hcat, hr9⟩ := dco_inv hr
          clear hr
          have hr := hr9
          clear hr9
          have hcat := Nat.le_of_ble_eq_true hcat
          have G := ihn _ _ _ _ _ _ hr hw
          exact ⟨G.1, fun q2 hq2 => by
            cases QQ hq2
            exact ds_objinit hdg ho hx hcat (G.2 q hq)⟩
  case athrow =>
    delta dop at hop
    dsimp only at hop
    cases hop
    delta o_athrow at hr
    try dsimp only at hr
    simp only [dxB, Bool.and_eq_true, Bool.or_eq_true, decide_eq_true_eq, Nat.beq_eq, Nat.blt_eq, Nat.ble_eq, Bool.not_eq_true'] at hx
    obtain ⟨rfl, hf⟩ := hx
    obtain ⟨a, st, rfl, hr9⟩ := d1a_inv hr
    clear hr
    have hr := hr9
    clear hr9
    obtain ⟨kd, n, ct, ha, hr9⟩ := cel_inv hr
    clear hr
    have hr := hr9
    clear hr9
    obtain ⟨hkd, hr9⟩ := dco_inv hr
    clear hr
    have hr := hr9
    clear hr9
    have hkd := Nat.eq_of_beq_eq_true hkd
    subst hkd
    cases hr
    refine ⟨⟨Nat.le_refl _, Nat.le_refl _, hw⟩, fun q2 hq2 => ?_⟩
    cases QQ hq2
    exact ds_athrow hdg hf ha rfl
  case return_ =>
    delta dop at hop
    dsimp only at hop
    cases hop
    delta o_return at hr
    try dsimp only at hr
    simp only [dxB, Bool.and_eq_true, Bool.or_eq_true, decide_eq_true_eq, Nat.beq_eq, Nat.blt_eq, Nat.ble_eq, Bool.not_eq_true'] at hx
    obtain ⟨rfl, hx⟩ := hx
    obtain ⟨rfl, hr9⟩ := emp_inv hr
    clear hr
    have hr := hr9
    clear hr9
    cases hr
    refine ⟨⟨Nat.le_refl _, Nat.le_refl _, hw⟩, fun q2 hq2 => ?_⟩
    cases QQ hq2
    exact ds_return hdg (Option.isNone_iff_eq_none.mp hx)
  case lreturn =>
    delta dop at hop
    dsimp only at hop
    cases hop
    delta o_lreturn at hr
    try dsimp only at hr
    simp only [dxB, Bool.and_eq_true, Bool.or_eq_true, decide_eq_true_eq, Nat.beq_eq, Nat.blt_eq, Nat.ble_eq, Bool.not_eq_true'] at hx
    obtain ⟨rfl, hx⟩ := hx
    obtain ⟨v, st, rfl, hr9⟩ := d1l_inv hr
    clear hr
    have hr := hr9
    clear hr9
    obtain ⟨rfl, hr9⟩ := emp_inv hr
    clear hr
    have hr := hr9
    clear hr9
    cases hr
    refine ⟨⟨Nat.le_refl _, Nat.le_refl _, hw⟩, fun q2 hq2 => ?_⟩
    cases QQ hq2
    split at hx
    · rename_i hret
      exact ds_lreturn hdg hret
    · cases hx
  case ireturn =>
    delta dop at hop
    dsimp only at hop
    cases hop
    delta o_ireturn at hr
    try dsimp only at hr
    simp only [dxB, Bool.and_eq_true, Bool.or_eq_true, decide_eq_true_eq, Nat.beq_eq, Nat.blt_eq, Nat.ble_eq, Bool.not_eq_true'] at hx
    obtain ⟨rfl, hx⟩ := hx
    obtain ⟨v, st, rfl, hr9⟩ := d1_inv hr
    clear hr
    have hr := hr9
    clear hr9
    obtain ⟨rfl, hr9⟩ := emp_inv hr
    clear hr
    have hr := hr9
    clear hr9
    split at hx
    · rename_i hret
      rw [hx] at hr
      simp only [cond_true] at hr
      cases hr
      refine ⟨⟨Nat.le_refl _, Nat.le_refl _, hw⟩, fun q2 hq2 => ?_⟩
      cases QQ hq2
      exact ds_ireturn hdg hret rfl
    · rename_i hret
      have hx1 : Nat.beq x 1 = false := by simpa using hx
      rw [hx1] at hr
      simp only [cond_false] at hr
      obtain ⟨hle, hr9⟩ := dco_inv hr
      clear hr
      have hr := hr9
      clear hr9
      have hle := Nat.le_of_ble_eq_true hle
      cases hr
      refine ⟨⟨Nat.le_refl _, Nat.le_refl _, hw⟩, fun q2 hq2 => ?_⟩
      cases QQ hq2
      refine ds_ireturn hdg hret ?_
      rw [← di_imod]
      rcases (show v % 4294967296 = 0 ∨ v % 4294967296 = 1 from by have : Nat.mod v 4294967296 = v % 4294967296 := rfl; omega) with z | z <;> rw [z] <;> decide
    · cases hx
  all_goals (delta dop at hop; dsimp only at hop; cases hop)
theorem dj_blk {l : Launch} {D : dD} {b : Nat → Nat} {rec : dRec} (ihr : ∀ d y pc L st h r h', rec d y pc L st h = some (r, h') → hwf h → dG l D b d y pc L st h r h') {y : Nat} {q : dMI} (hq : dMis[y]? = some q) (is : List dI) : ∀ pc, ckb q is pc = true → ∀ d L st h r h', dcomp y is pc rec d L st h = some (r, h') → hwf h → dG l D b d y pc L st h r h' := by
  induction is with
  | nil => intro pc _ d L st h r h' hr hw; exact ihr _ _ _ _ _ _ _ _ hr hw
  | cons i t ih =>
    intro pc hc d L st h r h' hr hw
    simp only [ckb, Bool.and_eq_true] at hc
    obtain ⟨ins, len, x⟩ := i
    change (match dop ins x with
      | none => dnone
      | some o => o y x (dcomp y t (pc + len))) rec d L st h = _ at hr
    cases ho : dop ins x with
    | none => rw [ho] at hr; cases hr
    | some o =>
      rw [ho] at hr
      exact dj_op ihr hq hc.1 (ih (pc + len) hc.2) ho hr hw
theorem dj_sound2 {l : Launch} {D : dD} {b : Nat → Nat} {P : Nat → Nat → Option dCode} (hP : dPok2 l D b P) (f : Nat) : ∀ d y pc L st h r h', drun P f d y pc L st h = some (r, h') → hwf h → dG l D b d y pc L st h r h' := by
  induction f with
  | zero => intro d y pc L st h r h' e; cases e
  | succ f ih =>
    intro d y pc L st h r h' e hw
    change opt (P y pc) (fun c => c (drun P f) d L st h) = _ at e
    obtain ⟨c, hc, e⟩ := opt_inv e
    rcases hP _ _ _ hc with ⟨q, is, hq, hk, rfl⟩ | hs
    · exact dj_blk ih hq is pc hk _ _ _ _ _ _ e hw
    · exact hs _ _ _ _ _ _ _ e hw
theorem dj_eq {l : Launch} {D : dD} {b : Nat → Nat} {P : Nat → Nat → Option dCode} (hP : dPok2 l D b P) {f d y pc : Nat} {L : dL} {st : List dV} {h : dH} {r : Option dV} {h' : dH} (e : drun P f d y pc L st h = some (r, h')) : hwf h → dG l D b d y pc L st h r h' := fun hw => dj_sound2 hP f _ _ _ _ _ _ _ _ e hw
theorem dj_of {l : Launch} {D : dD} {b : Nat → Nat} {tab : List (Nat × Nat × dCode)} (ht : ∀ e ∈ tab, dSum l D b e.1 e.2.1 e.2.2) {f d y pc : Nat} {L : dL} {st : List dV} {h : dH} {r : Option dV} {h' : dH} (e : dok (drun (dPo tab) f d y pc L st h) r h' = true) : hwf h → dG l D b d y pc L st h r h' := dj_eq (dPo_ok ht) (dok_eq e)
theorem kxj0 (l : Launch) (D : dD) (b : Nat → Nat) : hwf kh2 → dG l D b 38 211 0 [(0, .inr (.inr 4)), (1, .inl 0), (2, .inl 798)] [] kh2 (none) kh3 := dj_of (tab := kxt0) (by
  intro e he
  unfold kxt0 at he
  cases he) kxk0
theorem kxj1 (l : Launch) (D : dD) (b : Nat → Nat) : hwf kh1 → dG l D b 39 202 0 [(0, .inr (.inr 4))] [] kh1 (none) kh3 := dj_of (tab := kxt1) (by
  intro e he
  unfold kxt1 at he
  simp only [List.mem_cons, List.not_mem_nil, or_false] at he
  cases he
  · exact dSum_orc (dSum_none) (kxj0 l D b)) kxk1
theorem kxj2 (l : Launch) (D : dD) (b : Nat → Nat) : hwf kh4 → dG l D b 38 211 0 [(0, .inr (.inr 45)), (1, .inl 0), (2, .inl 798)] [] kh4 (none) kh5 := dj_of (tab := kxt2) (by
  intro e he
  unfold kxt2 at he
  cases he) kxk2
theorem kxj3 (l : Launch) (D : dD) (b : Nat → Nat) : hwf kh3 → dG l D b 39 202 0 [(0, .inr (.inr 45))] [] kh3 (none) kh5 := dj_of (tab := kxt3) (by
  intro e he
  unfold kxt3 at he
  simp only [List.mem_cons, List.not_mem_nil, or_false] at he
  cases he
  · exact dSum_orc (dSum_none) (kxj2 l D b)) kxk3
theorem kxj4 (l : Launch) (D : dD) (b : Nat → Nat) : hwf kh5 → dG l D b 39 147 0 [(0, .inr (.inr 85)), (1, .inr (.inr 3))] [] kh5 (some (.inl 1)) kh6 := dj_of (tab := kxt4) (by
  intro e he
  unfold kxt4 at he
  cases he) kxk4
theorem kxj5 (l : Launch) (D : dD) (b : Nat → Nat) : hwf kh6 → dG l D b 39 3 0 [(0, .inr (.inr 87)), (1, .inr (.inr 3))] [] kh6 (none) kh7 := dj_of (tab := kxt5) (by
  intro e he
  unfold kxt5 at he
  cases he) kxk5
theorem kxj6 (l : Launch) (D : dD) (b : Nat → Nat) : hwf kh8 → dG l D b 39 147 0 [(0, .inr (.inr 85)), (1, .inr (.inr 44))] [] kh8 (some (.inl 1)) kh9 := dj_of (tab := kxt6) (by
  intro e he
  unfold kxt6 at he
  cases he) kxk6
theorem kxj7 (l : Launch) (D : dD) (b : Nat → Nat) : hwf kh9 → dG l D b 39 3 0 [(0, .inr (.inr 87)), (1, .inr (.inr 44))] [] kh9 (none) kh10 := dj_of (tab := kxt7) (by
  intro e he
  unfold kxt7 at he
  cases he) kxk7
theorem kxj8 (l : Launch) (D : dD) (b : Nat → Nat) : hwf kh0 → dG l D b 40 255 0 [(0, .inr (.inr 1))] [] kh0 (none) kh11 := dj_of (tab := kxt8) (by
  intro e he
  unfold kxt8 at he
  simp only [List.mem_cons, List.not_mem_nil, or_false] at he
  rcases he with rfl | rfl | rfl
  · exact dSum_orc (dSum_orc (dSum_none) (kxj3 l D b)) (kxj1 l D b)
  · exact dSum_orc (dSum_orc (dSum_none) (kxj6 l D b)) (kxj4 l D b)
  · exact dSum_orc (dSum_orc (dSum_none) (kxj7 l D b)) (kxj5 l D b)) kxk8

theorem T_X3_hitOf (g : GP) {h : AH} {A : AD} {D : MS} {N U : Nat} (hM : DR h A D N U) (i : Int) (r_i : -2147483648 ≤ i ∧ i ≤ 2147483647) (hI : ID D) (h1 : 0 ≤ i ∧ i < D 70 0) : TP g m_X3_hitOf 9 [xR 8, xI i] h (xR (A 0 (D 71 (40 * 0 + i)))) := by
  refine TP.of (by decide) rfl (fun v hv => ?_) (Nat.le_of_ble_eq_true rfl) ?_
  · simp only [List.mem_cons, List.not_mem_nil, or_false] at hv
    rcases hv with rfl | rfl <;> first | rfl | exact cat_R
  obtain ⟨i90, i91, i92⟩ := hI.n
  obtain ⟨c90, c91, c92⟩ := hI.c
  obtain ⟨⟨z90, -⟩, ⟨z91, -⟩, z92, -⟩ := hM.b.2.2.1
  change V g m_X3_hitOf 9 _ h 0 [xR 8, xI i] []
  refine V_aload_n dX3_hitOf_0 rfl ?_
  refine V_dgr (f := 8) (i := 0) (b := (A 6 0)) dX3_hitOf_1 fg_RX3_20 rfl rfl hM.fx.1 hM (vAx (by decide)) (hM.s.1.2.2.1.trans hM.fx.2.2.2.2.1.symm) ?_
  refine V_iload_n dX3_hitOf_4 rfl ?_
  refine V_pS (as := [_, _]) dX3_hitOf_5 c_RX3_190 rfl (by decide) rfl (Nat.le_of_ble_eq_true rfl) (T_X3_elementOf g hM 0 i (by omega) (vL0 (by decide)) (by decide) (by omega)) ?_
  have g5 := hM.le2 (l := 0) (by decide) (vL0 (by decide)) (z := i) (by omega)
  refine V_aret dX3_hitOf_8 rfl (by first | exact Or.inl ⟨_, rfl⟩ | exact Or.inr ⟨_, rfl⟩) ?_
  exact ⟨rfl, rfl⟩
theorem X_X3_hitOf (g : GP) {h : AH} {A : AD} {D : MS} {N U : Nat} (hM : DR h A D N U) (i : Int) (r_i : -2147483648 ≤ i ∧ i ≤ 2147483647) (hI : ID D) (hx : ¬ (0 ≤ i ∧ i < D 70 0)) : Tr g m_X3_hitOf 9 [xR 8, xI i] h (Qt h eNS) := by
  refine Tr.ofV (by decide) rfl (fun v hv => ?_) (Nat.le_of_ble_eq_true rfl) ?_
  · simp only [List.mem_cons, List.not_mem_nil, or_false] at hv
    rcases hv with rfl | rfl <;> first | rfl | exact cat_R
  obtain ⟨i90, i91, i92⟩ := hI.n
  obtain ⟨c90, c91, c92⟩ := hI.c
  obtain ⟨⟨z90, -⟩, ⟨z91, -⟩, z92, -⟩ := hM.b.2.2.1
  change V g m_X3_hitOf 9 _ h 0 [xR 8, xI i] []
  refine V_aload_n dX3_hitOf_0 rfl ?_
  refine V_dgr (f := 8) (i := 0) (b := (A 6 0)) dX3_hitOf_1 fg_RX3_20 rfl rfl hM.fx.1 hM (vAx (by decide)) (hM.s.1.2.2.1.trans hM.fx.2.2.2.2.1.symm) ?_
  refine V_iload_n dX3_hitOf_4 rfl ?_
  refine V_cS (as := [_, _]) dX3_hitOf_5 c_RX3_190 rfl (by decide) rfl (Nat.le_of_ble_eq_true rfl) (X_X3_elementOf g hM 0 i (by omega) (vL0 (by decide)) (by decide) hx) (fun E9 h9 z9 => ?_) (fun v9 h9 z9 => nomatch z9.1)
  exact z9
theorem T_X3_type (g : GP) (N U : Nat) (D : MS) (w : Int) (r_w : -2147483648 ≤ w ∧ w ≤ 2147483647) (hI : ID D) (hN : N + 200 ≤ z_CC) (hU : U + 5000 ≤ z_CS) : TX g m_X3_type 8 [xR 8, xI w] N U D (d_type D w) := by
  refine TX.of (by decide) rfl (fun v hv => ?_) (Nat.le_of_ble_eq_true rfl) ?_
  · simp only [List.mem_cons, List.not_mem_nil, or_false] at hv
    rcases hv with rfl | rfl <;> first | exact Or.inl ⟨_, rfl⟩ | exact Or.inr ⟨_, rfl⟩
  intro A h0 h hM hF
  obtain ⟨i90, i91, i92⟩ := hI.n
  obtain ⟨c90, c91, c92⟩ := hI.c
  obtain ⟨⟨z90, -⟩, ⟨z91, -⟩, z92, -⟩ := hM.b.2.2.1
  change V g m_X3_type 8 _ h 0 [xR 8, xI w] []
  have b1 := hI.a1
  refine V_iload_n dX3_type_0 rfl ?_
  refine V_iconst dX3_type_1 ?_
  refine V_bipush dX3_type_2 (by decide) ?_
  refine V_pS (as := [_, _, _]) dX3_type_4 c_RX3_42 rfl (by decide) rfl (Nat.le_of_ble_eq_true rfl) (T_X3_isOutside g hM w 0 29 (by omega) (by omega) (by omega)) ?_
  refine V_ifb_eq (tgt := 20) dX3_type_7 (by decide) (fun q7 => ?_) (fun q7 => ?_)
  · refine V_aload_n dX3_type_20 rfl ?_
    refine V_dg (f := 8) (F := 1) (i := 0) (t := 0) (w := D 1 0) dX3_type_21 fg_RX3_53 rfl rfl rfl hM.fx.1 hM (vFx (by decide)) rfl (fun r21 => ?_)
    have b21 := hI.a1
    refine V_bipush dX3_type_24 (by decide) ?_
    refine V_icmp_lt (tgt := 39) dX3_type_26 (by decide) (by omega) (by omega) (fun q26 => ?_) (fun q26 => ?_)
    · refine V_aload_n dX3_type_39 rfl ?_
      refine V_dgr (f := 8) (i := 0) (b := 9) dX3_type_40 fg_RX3_9 rfl rfl hM.fx.1 hM (vAx (by decide)) hM.s.1.1 ?_
      refine V_aload_n dX3_type_43 rfl ?_
      refine V_dg (f := 8) (F := 1) (i := 0) (t := 0) (w := D 1 0) dX3_type_44 fg_RX3_53 rfl rfl rfl hM.fx.1 hM (vFx (by decide)) rfl (fun r44 => ?_)
      have b44 := hI.a1
      refine V_iload_n dX3_type_47 rfl ?_
      refine V_dais (f := 9) (F := 0) (i := 0) (t := (D 1 0)) (n := 6) dX3_type_48 rfl rfl hM.fx.2.1 hM hF (vFw (by omega)) (by rw [hM.s.2.1]; rfl) (by omega) (by omega) (by omega) (fun h hM hF => ?_)
      refine V_aload_n dX3_type_49 rfl ?_
      refine V_dup dX3_type_50 cat_R ?_
      refine V_dg (f := 8) (F := 1) (i := 0) (t := 0) (w := D 1 0) dX3_type_51 fg_RX3_53 rfl rfl rfl hM.fx.1 hM ((dST.rf.st (by decide)).F.mpr (vFx (by decide))) (by simp [sT, mset]) (fun r51 => ?_)
      have b51 := hI.a1
      refine V_iconst dX3_type_54 ?_
      refine V_iadd dX3_type_55 ?_
      refine V_dp (f := 8) (F := 1) (i := 0) (t := 0) dX3_type_56 f_RX3_53 rfl rfl rfl hM.fx.1 hM hF ((dST.rf.st (by decide)).F.mpr (vFx (by decide))) (by omega) (fun h hM hF => ?_)
      refine V_aload_n dX3_type_59 rfl ?_
      refine V_dg (f := 8) (F := 1) (i := 0) (t := 0) (w := ((D 1 0) + 1)) dX3_type_60 fg_RX3_53 rfl rfl rfl hM.fx.1 hM (((dST.rf.st (by decide)).st (by decide)).F.mpr (vFx (by decide))) (by simp [sT, mset]) (fun r60 => ?_)
      refine V_iret dX3_type_63 rfl ?_
      exact qret hM hF hN hU (by unfold d_type; (repeat' split) <;> first | rfl | (exfalso; omega)) rfl
    · refine V_throw dX3_type_29 dX3_type_32 dX3_type_33 dX3_type_35 dX3_type_38 t_RX3_57_59 rfl (by decide) (by have := hM.room; omega) (by have := hM.room; omega) (fun n9 n9a n9b => ?_)
      exact qthr hM hF hN hU n9a n9b (by unfold d_type; (repeat' split) <;> first | rfl | (exfalso; omega)) rfl
  · refine V_throw dX3_type_10 dX3_type_13 dX3_type_14 dX3_type_16 dX3_type_19 t_RX3_46_48 rfl (by decide) (by have := hM.room; omega) (by have := hM.room; omega) (fun n9 n9a n9b => ?_)
    exact qthr hM hF hN hU n9a n9b (by unfold d_type; (repeat' split) <;> first | rfl | (exfalso; omega)) rfl
theorem T_X3_erase (g : GP) (N U : Nat) (D : MS)   (hI : ID D) (hN : N + 200 ≤ z_CC) (hU : U + 5000 ≤ z_CS) : TX g m_X3_erase 8 [xR 8] N U D (d_erase D) := by
  refine TX.of (by decide) rfl (fun v hv => ?_) (Nat.le_of_ble_eq_true rfl) ?_
  · simp only [List.mem_cons, List.not_mem_nil, or_false] at hv
    subst hv; first | exact Or.inl ⟨_, rfl⟩ | exact Or.inr ⟨_, rfl⟩
  intro A h0 h hM hF
  obtain ⟨i90, i91, i92⟩ := hI.n
  obtain ⟨c90, c91, c92⟩ := hI.c
  obtain ⟨⟨z90, -⟩, ⟨z91, -⟩, z92, -⟩ := hM.b.2.2.1
  change V g m_X3_erase 8 _ h 0 [xR 8, xU] []
  refine V_aload_n dX3_erase_0 rfl ?_
  refine V_dg (f := 8) (F := 1) (i := 0) (t := 0) (w := D 1 0) dX3_erase_1 fg_RX3_53 rfl rfl rfl hM.fx.1 hM (vFx (by decide)) rfl (fun r1 => ?_)
  have b1 := hI.a1
  refine V_istore_n (lc' := [_, _]) dX3_erase_4 (by decide) rfl ?_
  refine V_aload_n dX3_erase_5 rfl ?_
  refine V_iconst dX3_erase_6 ?_
  refine V_dp (f := 8) (F := 1) (i := 0) (t := 0) dX3_erase_7 f_RX3_53 rfl rfl rfl hM.fx.1 hM hF (vFx (by decide)) (by omega) (fun h hM hF => ?_)
  refine V_iload_n dX3_erase_10 rfl ?_
  refine V_iret dX3_erase_11 rfl ?_
  exact qret hM hF hN hU (by unfold d_erase; (repeat' split) <;> first | rfl | (exfalso; omega)) rfl
theorem T_X3_areTwins (g : GP) (N U : Nat) (D : MS) (a : Int) (b : Int) (r_a : -2147483648 ≤ a ∧ a ≤ 2147483647) (r_b : -2147483648 ≤ b ∧ b ≤ 2147483647) (hI : ID D) (hN : N + 200 ≤ z_CC) (hU : U + 5000 ≤ z_CS) : TX g m_X3_areTwins 9 [xR 8, xI a, xI b] N U D (d_areTwins D a b) := by
  refine TX.of (by decide) rfl (fun v hv => ?_) (Nat.le_of_ble_eq_true rfl) ?_
  · simp only [List.mem_cons, List.not_mem_nil, or_false] at hv
    rcases hv with rfl | rfl | rfl <;> first | exact Or.inl ⟨_, rfl⟩ | exact Or.inr ⟨_, rfl⟩
  intro A h0 h hM hF
  obtain ⟨i90, i91, i92⟩ := hI.n
  obtain ⟨c90, c91, c92⟩ := hI.c
  obtain ⟨⟨z90, -⟩, ⟨z91, -⟩, z92, -⟩ := hM.b.2.2.1
  change V g m_X3_areTwins 9 _ h 0 [xR 8, xI a, xI b, xU, xU] []
  refine V_aload_n dX3_areTwins_0 rfl ?_
  refine V_iload_n dX3_areTwins_1 rfl ?_
  rcases (Classical.em (0 ≤ a ∧ a < D 70 45)).symm with w2 | w2
  · refine V_cV (as := [_]) dX3_areTwins_2 c_RX3_93 rfl (by decide) rfl (Nat.le_of_ble_eq_true rfl) hM.kx (X_X3_questionOf g hM a (by omega) hI w2) (fun E9 h9 z9 => ?_) (fun v9 h9 z9 => nomatch z9.1)
    obtain ⟨z8, n9, n9a, n9b, rfl⟩ := z9
    cases z8
    exact qthr hM hF hN hU n9a n9b (by unfold d_areTwins; (repeat' split) <;> first | rfl | (exfalso; omega)) rfl
  refine V_pV (as := [_]) dX3_areTwins_2 c_RX3_93 rfl (by decide) rfl (Nat.le_of_ble_eq_true rfl) hM.kx (T_X3_questionOf g hM a (by omega) hI (by omega)) ?_
  refine V_astore_n (lc' := [_, _, _, _, _]) dX3_areTwins_5 (by decide) rfl ?_
  refine V_aload_n dX3_areTwins_6 rfl ?_
  refine V_iload_n dX3_areTwins_7 rfl ?_
  rcases (Classical.em (0 ≤ b ∧ b < D 70 45)).symm with w8 | w8
  · refine V_cV (as := [_]) dX3_areTwins_8 c_RX3_93 rfl (by decide) rfl (Nat.le_of_ble_eq_true rfl) hM.kx (X_X3_questionOf g hM b (by omega) hI w8) (fun E9 h9 z9 => ?_) (fun v9 h9 z9 => nomatch z9.1)
    obtain ⟨z8, n9, n9a, n9b, rfl⟩ := z9
    cases z8
    exact qthr hM hF hN hU n9a n9b (by unfold d_areTwins; (repeat' split) <;> first | rfl | (exfalso; omega)) rfl
  refine V_pV (as := [_]) dX3_areTwins_8 c_RX3_93 rfl (by decide) rfl (Nat.le_of_ble_eq_true rfl) hM.kx (T_X3_questionOf g hM b (by omega) hI (by omega)) ?_
  refine V_astore (lc' := [_, _, _, _, _]) dX3_areTwins_11 (by decide) rfl ?_
  refine V_aload_n dX3_areTwins_13 rfl ?_
  refine V_aload dX3_areTwins_14 rfl ?_
  refine V_acmp_eq (tgt := 35) dX3_areTwins_16 (by decide) (Or.inr ⟨(Or.inr (Or.inl (hM.ge (vAq (by decide) (by omega))).1)), (Or.inr (Or.inl (hM.ge (vAq (by decide) (by omega))).1))⟩) (fun q16 => ?_) (fun q16 => ?_)
  · have e16 := (hM.inj (vAq (by decide) (by omega)) (vAq (by decide) (by omega)) q16).2
    refine V_iconst dX3_areTwins_35 ?_
    refine V_zret (by first | exact pI_01 _ | omega) dX3_areTwins_36 rfl ?_
    exact qret hM hF hN hU (by unfold d_areTwins; rw [if_neg (by omega), if_neg (by omega), pI_f (by omega)]) rfl
  · have e16 : a ≠ b := fun w => q16 (by rw [w])
    refine V_aload_n dX3_areTwins_19 rfl ?_
    refine V_dg (f := 0) (F := 26) (i := a) (t := a) (w := D 26 a) dX3_areTwins_20 fg_RX3_99 rfl rfl rfl rfl hM (vFq (by decide) (by omega)) rfl (fun r20 => ?_)
    have b20 := hI.a26 a
    refine V_aload dX3_areTwins_23 rfl ?_
    refine V_dg (f := 0) (F := 26) (i := b) (t := b) (w := D 26 b) dX3_areTwins_25 fg_RX3_99 rfl rfl rfl rfl hM (vFq (by decide) (by omega)) rfl (fun r25 => ?_)
    have b25 := hI.a26 b
    refine V_icmp_ne (tgt := 35) dX3_areTwins_28 (by decide) (by omega) (by omega) (fun q28 => ?_) (fun q28 => ?_)
    · refine V_iconst dX3_areTwins_35 ?_
      refine V_zret (by first | exact pI_01 _ | omega) dX3_areTwins_36 rfl ?_
      exact qret hM hF hN hU (by unfold d_areTwins; rw [if_neg (by omega), if_neg (by omega), pI_f (by omega)]) rfl
    · refine V_iconst dX3_areTwins_31 ?_
      refine V_goto (tgt := 36) dX3_areTwins_32 (by decide) ?_
      refine V_zret (by first | exact pI_01 _ | omega) dX3_areTwins_36 rfl ?_
      exact qret hM hF hN hU (by unfold d_areTwins; rw [if_neg (by omega), if_neg (by omega), pI_t (by omega)]) rfl
theorem T_X3_wordAt (g : GP) (N U : Nat) (D : MS) (q : Int) (i : Int) (r_q : -2147483648 ≤ q ∧ q ≤ 2147483647) (r_i : -2147483648 ≤ i ∧ i ≤ 2147483647) (hI : ID D) (hN : N + 200 ≤ z_CC) (hU : U + 5000 ≤ z_CS) : TX g m_X3_wordAt 9 [xR 8, xI q, xI i] N U D (d_wordAt D q i) := by
  refine TX.of (by decide) rfl (fun v hv => ?_) (Nat.le_of_ble_eq_true rfl) ?_
  · simp only [List.mem_cons, List.not_mem_nil, or_false] at hv
    rcases hv with rfl | rfl | rfl <;> first | exact Or.inl ⟨_, rfl⟩ | exact Or.inr ⟨_, rfl⟩
  intro A h0 h hM hF
  obtain ⟨i90, i91, i92⟩ := hI.n
  obtain ⟨c90, c91, c92⟩ := hI.c
  obtain ⟨⟨z90, -⟩, ⟨z91, -⟩, z92, -⟩ := hM.b.2.2.1
  change V g m_X3_wordAt 9 _ h 0 [xR 8, xI q, xI i, xU] []
  refine V_aload_n dX3_wordAt_0 rfl ?_
  refine V_iload_n dX3_wordAt_1 rfl ?_
  rcases (Classical.em (0 ≤ q ∧ q < D 70 45)).symm with w2 | w2
  · refine V_cV (as := [_]) dX3_wordAt_2 c_RX3_93 rfl (by decide) rfl (Nat.le_of_ble_eq_true rfl) hM.kx (X_X3_questionOf g hM q (by omega) hI w2) (fun E9 h9 z9 => ?_) (fun v9 h9 z9 => nomatch z9.1)
    obtain ⟨z8, n9, n9a, n9b, rfl⟩ := z9
    cases z8
    exact qthr hM hF hN hU n9a n9b (by unfold d_wordAt; (repeat' split) <;> first | rfl | (exfalso; omega)) rfl
  refine V_pV (as := [_]) dX3_wordAt_2 c_RX3_93 rfl (by decide) rfl (Nat.le_of_ble_eq_true rfl) hM.kx (T_X3_questionOf g hM q (by omega) hI (by omega)) ?_
  refine V_dgr (f := 0) (i := q) (b := (A 1 q)) dX3_wordAt_5 fg_RX3_110 rfl rfl rfl hM (vAq (by decide) (by omega)) (hM.s.2.2.1 q (by omega)).1 ?_
  refine V_astore_n (lc' := [_, _, _, _]) dX3_wordAt_8 (by decide) rfl ?_
  refine V_iload_n dX3_wordAt_9 rfl ?_
  refine V_if_lt (tgt := 19) dX3_wordAt_10 (by decide) (by omega) (fun q10 => ?_) (fun q10 => ?_)
  · refine V_throwN dX3_wordAt_19 dX3_wordAt_22 dX3_wordAt_23 dX3_wordAt_25 dX3_wordAt_28 t_RX3_113_48 rfl (by decide) (by have := hM.room; omega) (by have := hM.room; omega) (fun n9 n9a n9b => ?_)
    exact qthr hM hF hN hU n9a n9b (by unfold d_wordAt; (repeat' split) <;> first | rfl | (exfalso; omega)) rfl
  · refine V_iload_n dX3_wordAt_13 rfl ?_
    refine V_aload_n dX3_wordAt_14 rfl ?_
    refine V_alen (t := 2) dX3_wordAt_15 (hM.kd (f := 1) (vAq (by decide) (by omega))) (by omega) ?_
    rw [(hM.s.2.2.1 q (by omega)).2.2.1]
    have b15 := hI.a41 q
    refine V_icmp_lt (tgt := 29) dX3_wordAt_16 (by decide) (by omega) (by omega) (fun q16 => ?_) (fun q16 => ?_)
    · refine V_aload_n dX3_wordAt_29 rfl ?_
      refine V_iload_n dX3_wordAt_30 rfl ?_
      refine V_dai (f := 1) (F := 40) (i := q) (t := (6 * q + i)) (n := (D 41 q)) (w := D 40 (6 * q + i)) dX3_wordAt_31 rfl (lf_w (by omega)) rfl hM (vF_w (by omega) (by omega) (by omega)) (hM.s.2.2.1 q (by omega)).2.2.1 (by omega) (by omega) rfl (fun r31 => ?_)
      have b31 := hI.a40 (6 * q + i)
      refine V_iret dX3_wordAt_32 rfl ?_
      exact qret hM hF hN hU (by unfold d_wordAt; (repeat' split) <;> first | rfl | (exfalso; omega)) rfl
    · refine V_throwN dX3_wordAt_19 dX3_wordAt_22 dX3_wordAt_23 dX3_wordAt_25 dX3_wordAt_28 t_RX3_113_48 rfl (by decide) (by have := hM.room; omega) (by have := hM.room; omega) (fun n9 n9a n9b => ?_)
      exact qthr hM hF hN hU n9a n9b (by unfold d_wordAt; (repeat' split) <;> first | rfl | (exfalso; omega)) rfl
theorem T_X3_level (g : GP) (N U : Nat) (D : MS) (q : Int) (r_q : -2147483648 ≤ q ∧ q ≤ 2147483647) (hI : ID D) (hN : N + 200 ≤ z_CC) (hU : U + 5000 ≤ z_CS) : TX g m_X3_level 9 [xR 8, xI q] N U D (d_level D q) := by
  refine TX.of (by decide) rfl (fun v hv => ?_) (Nat.le_of_ble_eq_true rfl) ?_
  · simp only [List.mem_cons, List.not_mem_nil, or_false] at hv
    rcases hv with rfl | rfl <;> first | exact Or.inl ⟨_, rfl⟩ | exact Or.inr ⟨_, rfl⟩
  intro A h0 h hM hF
  obtain ⟨i90, i91, i92⟩ := hI.n
  obtain ⟨c90, c91, c92⟩ := hI.c
  obtain ⟨⟨z90, -⟩, ⟨z91, -⟩, z92, -⟩ := hM.b.2.2.1
  change V g m_X3_level 9 _ h 0 [xR 8, xI q] []
  refine V_aload_n dX3_level_0 rfl ?_
  refine V_iload_n dX3_level_1 rfl ?_
  rcases (Classical.em (0 ≤ q ∧ q < D 70 45)).symm with w2 | w2
  · refine V_cV (as := [_]) dX3_level_2 c_RX3_93 rfl (by decide) rfl (Nat.le_of_ble_eq_true rfl) hM.kx (X_X3_questionOf g hM q (by omega) hI w2) (fun E9 h9 z9 => ?_) (fun v9 h9 z9 => nomatch z9.1)
    obtain ⟨z8, n9, n9a, n9b, rfl⟩ := z9
    cases z8
    exact qthr hM hF hN hU n9a n9b (by unfold d_level; (repeat' split) <;> first | rfl | (exfalso; omega)) rfl
  refine V_pV (as := [_]) dX3_level_2 c_RX3_93 rfl (by decide) rfl (Nat.le_of_ble_eq_true rfl) hM.kx (T_X3_questionOf g hM q (by omega) hI (by omega)) ?_
  refine V_dg (f := 0) (F := 23) (i := q) (t := q) (w := D 23 q) dX3_level_5 fg_RX3_116 rfl rfl rfl rfl hM (vFq (by decide) (by omega)) rfl (fun r5 => ?_)
  have b5 := hI.a23 q
  refine V_iret dX3_level_8 rfl ?_
  exact qret hM hF hN hU (by unfold d_level; (repeat' split) <;> first | rfl | (exfalso; omega)) rfl
theorem T_X3_levelAnew (g : GP) (N U : Nat) (D : MS) (q : Int) (r_q : -2147483648 ≤ q ∧ q ≤ 2147483647) (hI : ID D) (hN : N + 200 ≤ z_CC) (hU : U + 5000 ≤ z_CS) : TX g m_X3_levelAnew 9 [xR 8, xI q] N U D (d_levelAnew D q) := by
  refine TX.of (by decide) rfl (fun v hv => ?_) (Nat.le_of_ble_eq_true rfl) ?_
  · simp only [List.mem_cons, List.not_mem_nil, or_false] at hv
    rcases hv with rfl | rfl <;> first | exact Or.inl ⟨_, rfl⟩ | exact Or.inr ⟨_, rfl⟩
  intro A h0 h hM hF
  obtain ⟨i90, i91, i92⟩ := hI.n
  obtain ⟨c90, c91, c92⟩ := hI.c
  obtain ⟨⟨z90, -⟩, ⟨z91, -⟩, z92, -⟩ := hM.b.2.2.1
  change V g m_X3_levelAnew 9 _ h 0 [xR 8, xI q] []
  refine V_aload_n dX3_levelAnew_0 rfl ?_
  refine V_iload_n dX3_levelAnew_1 rfl ?_
  rcases (Classical.em (0 ≤ q ∧ q < D 70 45)).symm with w2 | w2
  · refine V_cV (as := [_]) dX3_levelAnew_2 c_RX3_93 rfl (by decide) rfl (Nat.le_of_ble_eq_true rfl) hM.kx (X_X3_questionOf g hM q (by omega) hI w2) (fun E9 h9 z9 => ?_) (fun v9 h9 z9 => nomatch z9.1)
    obtain ⟨z8, n9, n9a, n9b, rfl⟩ := z9
    cases z8
    exact qthr hM hF hN hU n9a n9b (by unfold d_levelAnew; (repeat' split) <;> first | rfl | (exfalso; omega)) rfl
  refine V_pV (as := [_]) dX3_levelAnew_2 c_RX3_93 rfl (by decide) rfl (Nat.le_of_ble_eq_true rfl) hM.kx (T_X3_questionOf g hM q (by omega) hI (by omega)) ?_
  refine V_pV (as := []) dX3_levelAnew_5 c_RX3_119 rfl (by decide) rfl (Nat.le_of_ble_eq_true rfl) (hM.kd (f := 0) (vAq (by decide) (by omega))) (T_X1_levelByAnswers g hM q hI (by omega)) ?_
  have t5 := @dLv_r D hI q (D 25 q).toNat
  refine V_iret dX3_levelAnew_8 rfl ?_
  exact qret hM hF hN hU (by unfold d_levelAnew; (repeat' split) <;> first | rfl | (exfalso; omega)) rfl
theorem T_X3_kind (g : GP) (N U : Nat) (D : MS) (q : Int) (r_q : -2147483648 ≤ q ∧ q ≤ 2147483647) (hI : ID D) (hN : N + 200 ≤ z_CC) (hU : U + 5000 ≤ z_CS) : TX g m_X3_kind 9 [xR 8, xI q] N U D (d_kind D q) := by
  refine TX.of (by decide) rfl (fun v hv => ?_) (Nat.le_of_ble_eq_true rfl) ?_
  · simp only [List.mem_cons, List.not_mem_nil, or_false] at hv
    rcases hv with rfl | rfl <;> first | exact Or.inl ⟨_, rfl⟩ | exact Or.inr ⟨_, rfl⟩
  intro A h0 h hM hF
  obtain ⟨i90, i91, i92⟩ := hI.n
  obtain ⟨c90, c91, c92⟩ := hI.c
  obtain ⟨⟨z90, -⟩, ⟨z91, -⟩, z92, -⟩ := hM.b.2.2.1
  change V g m_X3_kind 9 _ h 0 [xR 8, xI q] []
  refine V_aload_n dX3_kind_0 rfl ?_
  refine V_iload_n dX3_kind_1 rfl ?_
  rcases (Classical.em (0 ≤ q ∧ q < D 70 45)).symm with w2 | w2
  · refine V_cV (as := [_]) dX3_kind_2 c_RX3_93 rfl (by decide) rfl (Nat.le_of_ble_eq_true rfl) hM.kx (X_X3_questionOf g hM q (by omega) hI w2) (fun E9 h9 z9 => ?_) (fun v9 h9 z9 => nomatch z9.1)
    obtain ⟨z8, n9, n9a, n9b, rfl⟩ := z9
    cases z8
    exact qthr hM hF hN hU n9a n9b (by unfold d_kind; (repeat' split) <;> first | rfl | (exfalso; omega)) rfl
  refine V_pV (as := [_]) dX3_kind_2 c_RX3_93 rfl (by decide) rfl (Nat.le_of_ble_eq_true rfl) hM.kx (T_X3_questionOf g hM q (by omega) hI (by omega)) ?_
  refine V_pV (as := []) dX3_kind_5 c_RX3_122 rfl (by decide) rfl (Nat.le_of_ble_eq_true rfl) (hM.kd (f := 0) (vAq (by decide) (by omega))) (T_X1_kindNow g hM q hI (by omega)) ?_
  have t5 := sKd_r (D 23 q)
  refine V_cret (by omega) dX3_kind_8 rfl ?_
  exact qret hM hF hN hU (by unfold d_kind; (repeat' split) <;> first | rfl | (exfalso; omega)) rfl
theorem T_X3_hitAt (g : GP) (N U : Nat) (D : MS) (i : Int) (r_i : -2147483648 ≤ i ∧ i ≤ 2147483647) (hI : ID D) (hN : N + 200 ≤ z_CC) (hU : U + 5000 ≤ z_CS) : TX g m_X3_hitAt 10 [xR 8, xI i] N U D (d_hitAt D i) := by
  refine TX.of (by decide) rfl (fun v hv => ?_) (Nat.le_of_ble_eq_true rfl) ?_
  · simp only [List.mem_cons, List.not_mem_nil, or_false] at hv
    rcases hv with rfl | rfl <;> first | exact Or.inl ⟨_, rfl⟩ | exact Or.inr ⟨_, rfl⟩
  intro A h0 h hM hF
  obtain ⟨i90, i91, i92⟩ := hI.n
  obtain ⟨c90, c91, c92⟩ := hI.c
  obtain ⟨⟨z90, -⟩, ⟨z91, -⟩, z92, -⟩ := hM.b.2.2.1
  change V g m_X3_hitAt 10 _ h 0 [xR 8, xI i] []
  refine V_aload_n dX3_hitAt_0 rfl ?_
  refine V_iload_n dX3_hitAt_1 rfl ?_
  rcases (Classical.em (0 ≤ i ∧ i < D 70 0)).symm with w2 | w2
  · refine V_cV (as := [_]) dX3_hitAt_2 c_RX3_149 rfl (by decide) rfl (Nat.le_of_ble_eq_true rfl) hM.kx (X_X3_hitOf g hM i (by omega) hI w2) (fun E9 h9 z9 => ?_) (fun v9 h9 z9 => nomatch z9.1)
    obtain ⟨z8, n9, n9a, n9b, rfl⟩ := z9
    cases z8
    exact qthr hM hF hN hU n9a n9b (by unfold d_hitAt; (repeat' split) <;> first | rfl | (exfalso; omega)) rfl
  refine V_pV (as := [_]) dX3_hitAt_2 c_RX3_149 rfl (by decide) rfl (Nat.le_of_ble_eq_true rfl) hM.kx (T_X3_hitOf g hM i (by omega) hI (by omega)) ?_
  have g2 := hM.le2 (l := 0) (by decide) (vL0 (by decide)) (z := i) (by omega)
  refine V_dg (f := 0) (F := 20) (i := (D 71 (40 * 0 + i))) (t := (D 71 (40 * 0 + i))) (w := D 20 (D 71 (40 * 0 + i))) dX3_hitAt_5 fg_RX3_152 rfl rfl rfl rfl hM (vFq (by decide) (by omega)) rfl (fun r5 => ?_)
  refine V_iret dX3_hitAt_8 rfl ?_
  exact qret hM hF hN hU (by unfold d_hitAt; (repeat' split) <;> first | rfl | (exfalso; omega)) rfl
theorem T_X3_rankAt (g : GP) (N U : Nat) (D : MS) (i : Int) (r_i : -2147483648 ≤ i ∧ i ≤ 2147483647) (hI : ID D) (hN : N + 200 ≤ z_CC) (hU : U + 5000 ≤ z_CS) : TX g m_X3_rankAt 10 [xR 8, xI i] N U D (d_rankAt D i) := by
  refine TX.of (by decide) rfl (fun v hv => ?_) (Nat.le_of_ble_eq_true rfl) ?_
  · simp only [List.mem_cons, List.not_mem_nil, or_false] at hv
    rcases hv with rfl | rfl <;> first | exact Or.inl ⟨_, rfl⟩ | exact Or.inr ⟨_, rfl⟩
  intro A h0 h hM hF
  obtain ⟨i90, i91, i92⟩ := hI.n
  obtain ⟨c90, c91, c92⟩ := hI.c
  obtain ⟨⟨z90, -⟩, ⟨z91, -⟩, z92, -⟩ := hM.b.2.2.1
  change V g m_X3_rankAt 10 _ h 0 [xR 8, xI i] []
  refine V_aload_n dX3_rankAt_0 rfl ?_
  refine V_iload_n dX3_rankAt_1 rfl ?_
  rcases (Classical.em (0 ≤ i ∧ i < D 70 0)).symm with w2 | w2
  · refine V_cV (as := [_]) dX3_rankAt_2 c_RX3_149 rfl (by decide) rfl (Nat.le_of_ble_eq_true rfl) hM.kx (X_X3_hitOf g hM i (by omega) hI w2) (fun E9 h9 z9 => ?_) (fun v9 h9 z9 => nomatch z9.1)
    obtain ⟨z8, n9, n9a, n9b, rfl⟩ := z9
    cases z8
    exact qthr hM hF hN hU n9a n9b (by unfold d_rankAt; (repeat' split) <;> first | rfl | (exfalso; omega)) rfl
  refine V_pV (as := [_]) dX3_rankAt_2 c_RX3_149 rfl (by decide) rfl (Nat.le_of_ble_eq_true rfl) hM.kx (T_X3_hitOf g hM i (by omega) hI (by omega)) ?_
  have g2 := hM.le2 (l := 0) (by decide) (vL0 (by decide)) (z := i) (by omega)
  refine V_dg (f := 0) (F := 27) (i := (D 71 (40 * 0 + i))) (t := (D 71 (40 * 0 + i))) (w := D 27 (D 71 (40 * 0 + i))) dX3_rankAt_5 fg_RX3_140 rfl rfl rfl rfl hM (vFq (by decide) (by omega)) rfl (fun r5 => ?_)
  have b5 := hI.a27 (D 71 (40 * 0 + i))
  refine V_iret dX3_rankAt_8 rfl ?_
  exact qret hM hF hN hU (by unfold d_rankAt; (repeat' split) <;> first | rfl | (exfalso; omega)) rfl
theorem T_X3_nextWeek (g : GP) (N U : Nat) (D : MS)   (hI : ID D) (hN : N + 200 ≤ z_CC) (hU : U + 5000 ≤ z_CS) : TX g m_X3_nextWeek 11 [xR 8] N U D (d_nextWeek D) := by
  refine TX.of (by decide) rfl (fun v hv => ?_) (Nat.le_of_ble_eq_true rfl) ?_
  · simp only [List.mem_cons, List.not_mem_nil, or_false] at hv
    subst hv; first | exact Or.inl ⟨_, rfl⟩ | exact Or.inr ⟨_, rfl⟩
  intro A h0 h hM hF
  obtain ⟨i90, i91, i92⟩ := hI.n
  obtain ⟨c90, c91, c92⟩ := hI.c
  obtain ⟨⟨z90, -⟩, ⟨z91, -⟩, z92, -⟩ := hM.b.2.2.1
  change V g m_X3_nextWeek 11 _ h 0 [xR 8] []
  refine V_aload_n dX3_nextWeek_0 rfl ?_
  refine V_dg (f := 8) (F := 6) (i := 0) (t := 0) (w := D 6 0) dX3_nextWeek_1 fg_RX3_155 rfl rfl rfl hM.fx.1 hM (vFx (by decide)) rfl (fun r1 => ?_)
  have b1 := hI.a6
  refine V_sipush dX3_nextWeek_4 (by decide) ?_
  refine V_icmp_lt (tgt := 20) dX3_nextWeek_7 (by decide) (by omega) (by omega) (fun q7 => ?_) (fun q7 => ?_)
  · refine V_aload_n dX3_nextWeek_20 rfl ?_
    refine V_dup dX3_nextWeek_21 cat_R ?_
    refine V_dg (f := 8) (F := 6) (i := 0) (t := 0) (w := D 6 0) dX3_nextWeek_22 fg_RX3_155 rfl rfl rfl hM.fx.1 hM (vFx (by decide)) rfl (fun r22 => ?_)
    have b22 := hI.a6
    refine V_iconst dX3_nextWeek_25 ?_
    refine V_iadd dX3_nextWeek_26 ?_
    refine V_dp (f := 8) (F := 6) (i := 0) (t := 0) dX3_nextWeek_27 f_RX3_155 rfl rfl rfl hM.fx.1 hM hF (vFx (by decide)) (by omega) (fun h hM hF => ?_)
    refine V_aload_n dX3_nextWeek_30 rfl ?_
    have hJ31 : ID (mset D 6 0 ((D 6 0) + 1)) := hI.s6 (by omega)
    refine V_dC (as := []) dX3_nextWeek_31 c_RX3_90 rfl (by decide) rfl (Nat.le_of_ble_eq_true rfl) hM.kx hM hF (T_X3_settlePlans g A N U (mset D 6 0 ((D 6 0) + 1))  hJ31) (fun h hM hF => ?_)
    obtain ⟨N31, eN31⟩ : ∃ X, X = dSet (mset D 6 0 ((D 6 0) + 1)) := ⟨_, rfl⟩
    rw [← eN31] at hM
    obtain ⟨oN31, hIN31⟩ := dSet_o (D := (mset D 6 0 ((D 6 0) + 1)))  hJ31
    rw [← eN31] at oN31 hIN31
    obtain ⟨e90_31, e91_31, e92_31, -⟩ : dST D N31 := ((dST.rf.st (by decide)).tr (dST.of oN31 (by decide)))
    have n31 := hIN31.n
    refine V_aload_n dX3_nextWeek_34 rfl ?_
    refine V_dg (f := 8) (F := 6) (i := 0) (t := 0) (w := ((D 6 0) + 1)) dX3_nextWeek_35 fg_RX3_155 rfl rfl rfl hM.fx.1 hM (((dST.rf.st (by decide)).tr (dST.of oN31 (by decide))).F.mpr (vFx (by decide))) ((oN31 6 _ (by decide)).trans (by simp [sT, mset])) (fun r35 => ?_)
    refine V_iret dX3_nextWeek_38 rfl ?_
    exact qret hM hF hN hU (by unfold d_nextWeek; (repeat' split) <;> first | rfl | (exfalso; omega) | (rw [eN31]; done) | (rw [eN31]; rfl)) rfl
  · refine V_throw dX3_nextWeek_10 dX3_nextWeek_13 dX3_nextWeek_14 dX3_nextWeek_16 dX3_nextWeek_19 t_RX3_57_158 rfl (by decide) (by have := hM.room; omega) (by have := hM.room; omega) (fun n9 n9a n9b => ?_)
    exact qthr hM hF hN hU n9a n9b (by unfold d_nextWeek; (repeat' split) <;> first | rfl | (exfalso; omega)) rfl
theorem T_X3_held (g : GP) (N U : Nat) (D : MS) (p : Int) (r_p : -2147483648 ≤ p ∧ p ≤ 2147483647) (hI : ID D) (hN : N + 200 ≤ z_CC) (hU : U + 5000 ≤ z_CS) : TX g m_X3_held 9 [xR 8, xI p] N U D (d_held D p) := by
  refine TX.of (by decide) rfl (fun v hv => ?_) (Nat.le_of_ble_eq_true rfl) ?_
  · simp only [List.mem_cons, List.not_mem_nil, or_false] at hv
    rcases hv with rfl | rfl <;> first | exact Or.inl ⟨_, rfl⟩ | exact Or.inr ⟨_, rfl⟩
  intro A h0 h hM hF
  obtain ⟨i90, i91, i92⟩ := hI.n
  obtain ⟨c90, c91, c92⟩ := hI.c
  obtain ⟨⟨z90, -⟩, ⟨z91, -⟩, z92, -⟩ := hM.b.2.2.1
  change V g m_X3_held 9 _ h 0 [xR 8, xI p] []
  refine V_aload_n dX3_held_0 rfl ?_
  refine V_iload_n dX3_held_1 rfl ?_
  rcases (Classical.em (0 ≤ p ∧ p < D 70 46)).symm with w2 | w2
  · refine V_cV (as := [_]) dX3_held_2 c_RX3_173 rfl (by decide) rfl (Nat.le_of_ble_eq_true rfl) hM.kx (X_X3_planOf g hM p (by omega) hI w2) (fun E9 h9 z9 => ?_) (fun v9 h9 z9 => nomatch z9.1)
    obtain ⟨z8, n9, n9a, n9b, rfl⟩ := z9
    cases z8
    exact qthr hM hF hN hU n9a n9b (by unfold d_held; (repeat' split) <;> first | rfl | (exfalso; omega)) rfl
  refine V_pV (as := [_]) dX3_held_2 c_RX3_173 rfl (by decide) rfl (Nat.le_of_ble_eq_true rfl) hM.kx (T_X3_planOf g hM p (by omega) hI (by omega)) ?_
  refine V_dgr (f := 3) (i := p) (b := (A 6 (3 + p))) dX3_held_5 fg_RX3_183 rfl rfl rfl hM (vAp (by omega)) (hM.s.2.2.2.1 p (by omega)) ?_
  refine V_dSz (l := (3 + p)) (w := D 70 (3 + p)) dX3_held_8 c_RX3_69 rfl (by decide) (Nat.le_of_ble_eq_true rfl) rfl hM (vLp (by omega)) rfl (fun r8 => ?_)
  refine V_iret dX3_held_11 rfl ?_
  exact qret hM hF hN hU (by unfold d_held; (repeat' split) <;> first | rfl | (exfalso; omega)) rfl
theorem T_X3_heldAt (g : GP) (N U : Nat) (D : MS) (p : Int) (i : Int) (r_p : -2147483648 ≤ p ∧ p ≤ 2147483647) (r_i : -2147483648 ≤ i ∧ i ≤ 2147483647) (hI : ID D) (hN : N + 200 ≤ z_CC) (hU : U + 5000 ≤ z_CS) : TX g m_X3_heldAt 9 [xR 8, xI p, xI i] N U D (d_heldAt D p i) := by
  refine TX.of (by decide) rfl (fun v hv => ?_) (Nat.le_of_ble_eq_true rfl) ?_
  · simp only [List.mem_cons, List.not_mem_nil, or_false] at hv
    rcases hv with rfl | rfl | rfl <;> first | exact Or.inl ⟨_, rfl⟩ | exact Or.inr ⟨_, rfl⟩
  intro A h0 h hM hF
  obtain ⟨i90, i91, i92⟩ := hI.n
  obtain ⟨c90, c91, c92⟩ := hI.c
  obtain ⟨⟨z90, -⟩, ⟨z91, -⟩, z92, -⟩ := hM.b.2.2.1
  change V g m_X3_heldAt 9 _ h 0 [xR 8, xI p, xI i] []
  refine V_aload_n dX3_heldAt_0 rfl ?_
  refine V_iload_n dX3_heldAt_1 rfl ?_
  rcases (Classical.em (0 ≤ p ∧ p < D 70 46)).symm with w2 | w2
  · refine V_cV (as := [_]) dX3_heldAt_2 c_RX3_173 rfl (by decide) rfl (Nat.le_of_ble_eq_true rfl) hM.kx (X_X3_planOf g hM p (by omega) hI w2) (fun E9 h9 z9 => ?_) (fun v9 h9 z9 => nomatch z9.1)
    obtain ⟨z8, n9, n9a, n9b, rfl⟩ := z9
    cases z8
    exact qthr hM hF hN hU n9a n9b (by unfold d_heldAt; (repeat' split) <;> first | rfl | (exfalso; omega)) rfl
  refine V_pV (as := [_]) dX3_heldAt_2 c_RX3_173 rfl (by decide) rfl (Nat.le_of_ble_eq_true rfl) hM.kx (T_X3_planOf g hM p (by omega) hI (by omega)) ?_
  refine V_dgr (f := 3) (i := p) (b := (A 6 (3 + p))) dX3_heldAt_5 fg_RX3_183 rfl rfl rfl hM (vAp (by omega)) (hM.s.2.2.2.1 p (by omega)) ?_
  refine V_iload_n dX3_heldAt_8 rfl ?_
  rcases (Classical.em (0 ≤ i ∧ i < D 70 (3 + p))).symm with w9 | w9
  · refine V_cS (as := [_, _]) dX3_heldAt_9 c_RX3_190 rfl (by decide) rfl (Nat.le_of_ble_eq_true rfl) (X_X3_elementOf g hM (3 + p) i (by omega) (vLp (by omega)) (by omega) w9) (fun E9 h9 z9 => ?_) (fun v9 h9 z9 => nomatch z9.1)
    obtain ⟨z8, n9, n9a, n9b, rfl⟩ := z9
    cases z8
    exact qthr hM hF hN hU n9a n9b (by unfold d_heldAt; (repeat' split) <;> first | rfl | (exfalso; omega)) rfl
  refine V_pS (as := [_, _]) dX3_heldAt_9 c_RX3_190 rfl (by decide) rfl (Nat.le_of_ble_eq_true rfl) (T_X3_elementOf g hM (3 + p) i (by omega) (vLp (by omega)) (by omega) (by omega)) ?_
  have g9 := hM.le2 (l := (3 + p)) (by omega) (vLp (by omega)) (z := i) (by omega)
  refine V_dg (f := 0) (F := 20) (i := (D 71 (40 * (3 + p) + i))) (t := (D 71 (40 * (3 + p) + i))) (w := D 20 (D 71 (40 * (3 + p) + i))) dX3_heldAt_12 fg_RX3_152 rfl rfl rfl rfl hM (vFq (by decide) (by omega)) rfl (fun r12 => ?_)
  refine V_iret dX3_heldAt_15 rfl ?_
  exact qret hM hF hN hU (by unfold d_heldAt; (repeat' split) <;> first | rfl | (exfalso; omega)) rfl
theorem T_X3_lacks (g : GP) (N U : Nat) (D : MS) (p : Int) (r_p : -2147483648 ≤ p ∧ p ≤ 2147483647) (hI : ID D) (hN : N + 200 ≤ z_CC) (hU : U + 5000 ≤ z_CS) : TX g m_X3_lacks 9 [xR 8, xI p] N U D (d_lacks D p) := by
  refine TX.of (by decide) rfl (fun v hv => ?_) (Nat.le_of_ble_eq_true rfl) ?_
  · simp only [List.mem_cons, List.not_mem_nil, or_false] at hv
    rcases hv with rfl | rfl <;> first | exact Or.inl ⟨_, rfl⟩ | exact Or.inr ⟨_, rfl⟩
  intro A h0 h hM hF
  obtain ⟨i90, i91, i92⟩ := hI.n
  obtain ⟨c90, c91, c92⟩ := hI.c
  obtain ⟨⟨z90, -⟩, ⟨z91, -⟩, z92, -⟩ := hM.b.2.2.1
  change V g m_X3_lacks 9 _ h 0 [xR 8, xI p, xU] []
  refine V_aload_n dX3_lacks_0 rfl ?_
  refine V_iload_n dX3_lacks_1 rfl ?_
  rcases (Classical.em (0 ≤ p ∧ p < D 70 46)).symm with w2 | w2
  · refine V_cV (as := [_]) dX3_lacks_2 c_RX3_173 rfl (by decide) rfl (Nat.le_of_ble_eq_true rfl) hM.kx (X_X3_planOf g hM p (by omega) hI w2) (fun E9 h9 z9 => ?_) (fun v9 h9 z9 => nomatch z9.1)
    obtain ⟨z8, n9, n9a, n9b, rfl⟩ := z9
    cases z8
    exact qthr hM hF hN hU n9a n9b (by unfold d_lacks; (repeat' split) <;> first | rfl | (exfalso; omega)) rfl
  refine V_pV (as := [_]) dX3_lacks_2 c_RX3_173 rfl (by decide) rfl (Nat.le_of_ble_eq_true rfl) hM.kx (T_X3_planOf g hM p (by omega) hI (by omega)) ?_
  refine V_astore_n (lc' := [_, _, _]) dX3_lacks_5 (by decide) rfl ?_
  refine V_aload_n dX3_lacks_6 rfl ?_
  refine V_aload_n dX3_lacks_7 rfl ?_
  refine V_pV (as := [_]) dX3_lacks_8 c_RX3_194 rfl (by decide) rfl (Nat.le_of_ble_eq_true rfl) hM.kx (T_X3_isOpen g hM p hI (by omega)) ?_
  refine V_ifb_eq (tgt := 21) dX3_lacks_11 (by decide) (fun q11 => ?_) (fun q11 => ?_)
  · refine V_iconst dX3_lacks_21 ?_
    refine V_iret dX3_lacks_22 rfl ?_
    exact qret hM hF hN hU (by unfold d_lacks; rw [if_neg (by omega)]; first | rw [if_pos q11] | rw [if_neg q11]) rfl
  · refine V_aload_n dX3_lacks_14 rfl ?_
    refine V_pV (as := []) dX3_lacks_15 c_RX3_198 rfl (by decide) rfl (Nat.le_of_ble_eq_true rfl) (hM.kd (f := 3) (vAp (by omega))) (T_X0_missing g hM p hI (by omega)) ?_
    refine V_goto (tgt := 22) dX3_lacks_18 (by decide) ?_
    refine V_iret dX3_lacks_22 rfl ?_
    exact qret hM hF hN hU (by unfold d_lacks; rw [if_neg (by omega)]; first | rw [if_pos q11] | rw [if_neg q11]) rfl
theorem T_X3_isFree (g : GP) (N U : Nat) (D : MS) (q : Int) (r_q : -2147483648 ≤ q ∧ q ≤ 2147483647) (hI : ID D) (hN : N + 200 ≤ z_CC) (hU : U + 5000 ≤ z_CS) : TX g m_X3_isFree 9 [xR 8, xI q] N U D (d_isFree D q) := by
  refine TX.of (by decide) rfl (fun v hv => ?_) (Nat.le_of_ble_eq_true rfl) ?_
  · simp only [List.mem_cons, List.not_mem_nil, or_false] at hv
    rcases hv with rfl | rfl <;> first | exact Or.inl ⟨_, rfl⟩ | exact Or.inr ⟨_, rfl⟩
  intro A h0 h hM hF
  obtain ⟨i90, i91, i92⟩ := hI.n
  obtain ⟨c90, c91, c92⟩ := hI.c
  obtain ⟨⟨z90, -⟩, ⟨z91, -⟩, z92, -⟩ := hM.b.2.2.1
  change V g m_X3_isFree 9 _ h 0 [xR 8, xI q] []
  refine V_aload_n dX3_isFree_0 rfl ?_
  refine V_aload_n dX3_isFree_1 rfl ?_
  refine V_iload_n dX3_isFree_2 rfl ?_
  rcases (Classical.em (0 ≤ q ∧ q < D 70 45)).symm with w3 | w3
  · refine V_cV (as := [_]) dX3_isFree_3 c_RX3_93 rfl (by decide) rfl (Nat.le_of_ble_eq_true rfl) hM.kx (X_X3_questionOf g hM q (by omega) hI w3) (fun E9 h9 z9 => ?_) (fun v9 h9 z9 => nomatch z9.1)
    obtain ⟨z8, n9, n9a, n9b, rfl⟩ := z9
    cases z8
    exact qthr hM hF hN hU n9a n9b (by unfold d_isFree; (repeat' split) <;> first | rfl | (exfalso; omega)) rfl
  refine V_pV (as := [_]) dX3_isFree_3 c_RX3_93 rfl (by decide) rfl (Nat.le_of_ble_eq_true rfl) hM.kx (T_X3_questionOf g hM q (by omega) hI (by omega)) ?_
  refine V_pV (as := [_]) dX3_isFree_6 c_RX3_201 rfl (by decide) rfl (Nat.le_of_ble_eq_true rfl) hM.kx (T_X3_isAvailable g hM q hI (by omega)) ?_
  refine V_zret (by first | exact pI_01 _ | omega) dX3_isFree_9 rfl ?_
  exact qret hM hF hN hU (by unfold d_isFree; (repeat' split) <;> first | rfl | (exfalso; omega)) rfl
theorem T_X3_size (g : GP) (N U : Nat) (D : MS) (s : Int) (r_s : -2147483648 ≤ s ∧ s ≤ 2147483647) (hI : ID D) (hN : N + 200 ≤ z_CC) (hU : U + 5000 ≤ z_CS) : TX g m_X3_size 9 [xR 8, xI s] N U D (d_size D s) := by
  refine TX.of (by decide) rfl (fun v hv => ?_) (Nat.le_of_ble_eq_true rfl) ?_
  · simp only [List.mem_cons, List.not_mem_nil, or_false] at hv
    rcases hv with rfl | rfl <;> first | exact Or.inl ⟨_, rfl⟩ | exact Or.inr ⟨_, rfl⟩
  intro A h0 h hM hF
  obtain ⟨i90, i91, i92⟩ := hI.n
  obtain ⟨c90, c91, c92⟩ := hI.c
  obtain ⟨⟨z90, -⟩, ⟨z91, -⟩, z92, -⟩ := hM.b.2.2.1
  change V g m_X3_size 9 _ h 0 [xR 8, xI s] []
  refine V_aload_n dX3_size_0 rfl ?_
  refine V_iload_n dX3_size_1 rfl ?_
  rcases (Classical.em (0 ≤ s ∧ s < D 70 47)).symm with w2 | w2
  · refine V_cV (as := [_]) dX3_size_2 c_RX3_235 rfl (by decide) rfl (Nat.le_of_ble_eq_true rfl) hM.kx (X_X3_sheetOf g hM s (by omega) hI w2) (fun E9 h9 z9 => ?_) (fun v9 h9 z9 => nomatch z9.1)
    obtain ⟨z8, n9, n9a, n9b, rfl⟩ := z9
    cases z8
    exact qthr hM hF hN hU n9a n9b (by unfold d_size; (repeat' split) <;> first | rfl | (exfalso; omega)) rfl
  refine V_pV (as := [_]) dX3_size_2 c_RX3_235 rfl (by decide) rfl (Nat.le_of_ble_eq_true rfl) hM.kx (T_X3_sheetOf g hM s (by omega) hI (by omega)) ?_
  refine V_dgr (f := 4) (i := s) (b := (A 6 (15 + s))) dX3_size_5 fg_RX3_239 rfl rfl rfl hM (vAs (by decide) (by omega)) (hM.s.2.2.2.2 s (by omega)).1 ?_
  refine V_dSz (l := (15 + s)) (w := D 70 (15 + s)) dX3_size_8 c_RX3_69 rfl (by decide) (Nat.le_of_ble_eq_true rfl) rfl hM (vLs (by omega)) rfl (fun r8 => ?_)
  refine V_iret dX3_size_11 rfl ?_
  exact qret hM hF hN hU (by unfold d_size; (repeat' split) <;> first | rfl | (exfalso; omega)) rfl
theorem T_X3_questionAt (g : GP) (N U : Nat) (D : MS) (s : Int) (i : Int) (r_s : -2147483648 ≤ s ∧ s ≤ 2147483647) (r_i : -2147483648 ≤ i ∧ i ≤ 2147483647) (hI : ID D) (hN : N + 200 ≤ z_CC) (hU : U + 5000 ≤ z_CS) : TX g m_X3_questionAt 9 [xR 8, xI s, xI i] N U D (d_questionAt D s i) := by
  refine TX.of (by decide) rfl (fun v hv => ?_) (Nat.le_of_ble_eq_true rfl) ?_
  · simp only [List.mem_cons, List.not_mem_nil, or_false] at hv
    rcases hv with rfl | rfl | rfl <;> first | exact Or.inl ⟨_, rfl⟩ | exact Or.inr ⟨_, rfl⟩
  intro A h0 h hM hF
  obtain ⟨i90, i91, i92⟩ := hI.n
  obtain ⟨c90, c91, c92⟩ := hI.c
  obtain ⟨⟨z90, -⟩, ⟨z91, -⟩, z92, -⟩ := hM.b.2.2.1
  change V g m_X3_questionAt 9 _ h 0 [xR 8, xI s, xI i] []
  refine V_aload_n dX3_questionAt_0 rfl ?_
  refine V_iload_n dX3_questionAt_1 rfl ?_
  rcases (Classical.em (0 ≤ s ∧ s < D 70 47)).symm with w2 | w2
  · refine V_cV (as := [_]) dX3_questionAt_2 c_RX3_235 rfl (by decide) rfl (Nat.le_of_ble_eq_true rfl) hM.kx (X_X3_sheetOf g hM s (by omega) hI w2) (fun E9 h9 z9 => ?_) (fun v9 h9 z9 => nomatch z9.1)
    obtain ⟨z8, n9, n9a, n9b, rfl⟩ := z9
    cases z8
    exact qthr hM hF hN hU n9a n9b (by unfold d_questionAt; (repeat' split) <;> first | rfl | (exfalso; omega)) rfl
  refine V_pV (as := [_]) dX3_questionAt_2 c_RX3_235 rfl (by decide) rfl (Nat.le_of_ble_eq_true rfl) hM.kx (T_X3_sheetOf g hM s (by omega) hI (by omega)) ?_
  refine V_dgr (f := 4) (i := s) (b := (A 6 (15 + s))) dX3_questionAt_5 fg_RX3_239 rfl rfl rfl hM (vAs (by decide) (by omega)) (hM.s.2.2.2.2 s (by omega)).1 ?_
  refine V_iload_n dX3_questionAt_8 rfl ?_
  rcases (Classical.em (0 ≤ i ∧ i < D 70 (15 + s))).symm with w9 | w9
  · refine V_cS (as := [_, _]) dX3_questionAt_9 c_RX3_190 rfl (by decide) rfl (Nat.le_of_ble_eq_true rfl) (X_X3_elementOf g hM (15 + s) i (by omega) (vLs (by omega)) (by omega) w9) (fun E9 h9 z9 => ?_) (fun v9 h9 z9 => nomatch z9.1)
    obtain ⟨z8, n9, n9a, n9b, rfl⟩ := z9
    cases z8
    exact qthr hM hF hN hU n9a n9b (by unfold d_questionAt; (repeat' split) <;> first | rfl | (exfalso; omega)) rfl
  refine V_pS (as := [_, _]) dX3_questionAt_9 c_RX3_190 rfl (by decide) rfl (Nat.le_of_ble_eq_true rfl) (T_X3_elementOf g hM (15 + s) i (by omega) (vLs (by omega)) (by omega) (by omega)) ?_
  have g9 := hM.le2 (l := (15 + s)) (by omega) (vLs (by omega)) (z := i) (by omega)
  refine V_dg (f := 0) (F := 20) (i := (D 71 (40 * (15 + s) + i))) (t := (D 71 (40 * (15 + s) + i))) (w := D 20 (D 71 (40 * (15 + s) + i))) dX3_questionAt_12 fg_RX3_152 rfl rfl rfl rfl hM (vFq (by decide) (by omega)) rfl (fun r12 => ?_)
  refine V_iret dX3_questionAt_15 rfl ?_
  exact qret hM hF hN hU (by unfold d_questionAt; (repeat' split) <;> first | rfl | (exfalso; omega)) rfl
theorem T_X3_stateOf (g : GP) (N U : Nat) (D : MS) (s : Int) (r_s : -2147483648 ≤ s ∧ s ≤ 2147483647) (hI : ID D) (hN : N + 200 ≤ z_CC) (hU : U + 5000 ≤ z_CS) : TX g m_X3_stateOf 9 [xR 8, xI s] N U D (d_stateOf D s) := by
  refine TX.of (by decide) rfl (fun v hv => ?_) (Nat.le_of_ble_eq_true rfl) ?_
  · simp only [List.mem_cons, List.not_mem_nil, or_false] at hv
    rcases hv with rfl | rfl <;> first | exact Or.inl ⟨_, rfl⟩ | exact Or.inr ⟨_, rfl⟩
  intro A h0 h hM hF
  obtain ⟨i90, i91, i92⟩ := hI.n
  obtain ⟨c90, c91, c92⟩ := hI.c
  obtain ⟨⟨z90, -⟩, ⟨z91, -⟩, z92, -⟩ := hM.b.2.2.1
  change V g m_X3_stateOf 9 _ h 0 [xR 8, xI s] []
  refine V_aload_n dX3_stateOf_0 rfl ?_
  refine V_iload_n dX3_stateOf_1 rfl ?_
  rcases (Classical.em (0 ≤ s ∧ s < D 70 47)).symm with w2 | w2
  · refine V_cV (as := [_]) dX3_stateOf_2 c_RX3_235 rfl (by decide) rfl (Nat.le_of_ble_eq_true rfl) hM.kx (X_X3_sheetOf g hM s (by omega) hI w2) (fun E9 h9 z9 => ?_) (fun v9 h9 z9 => nomatch z9.1)
    obtain ⟨z8, n9, n9a, n9b, rfl⟩ := z9
    cases z8
    exact qthr hM hF hN hU n9a n9b (by unfold d_stateOf; (repeat' split) <;> first | rfl | (exfalso; omega)) rfl
  refine V_pV (as := [_]) dX3_stateOf_2 c_RX3_235 rfl (by decide) rfl (Nat.le_of_ble_eq_true rfl) hM.kx (T_X3_sheetOf g hM s (by omega) hI (by omega)) ?_
  refine V_dg (f := 4) (F := 60) (i := s) (t := s) (w := D 60 s) dX3_stateOf_5 fg_RX3_240 rfl rfl rfl rfl hM (vFs (by omega)) rfl (fun r5 => ?_)
  have b5 := hI.a60 s
  refine V_cret (by omega) dX3_stateOf_8 rfl ?_
  exact qret hM hF hN hU (by unfold d_stateOf; (repeat' split) <;> first | rfl | (exfalso; omega)) rfl
theorem T_X3_setJam (g : GP) (N U : Nat) (D : MS) (z : Int) (r_z : -2147483648 ≤ z ∧ z ≤ 2147483647) (hI : ID D) (hz : z = 0 ∨ z = 1) (hN : N + 200 ≤ z_CC) (hU : U + 5000 ≤ z_CS) : TX g m_X3_setJam 8 [xR 8, xI z] N U D (d_setJam D z) := by
  refine TX.of (by decide) rfl (fun v hv => ?_) (Nat.le_of_ble_eq_true rfl) ?_
  · simp only [List.mem_cons, List.not_mem_nil, or_false] at hv
    rcases hv with rfl | rfl <;> first | exact Or.inl ⟨_, rfl⟩ | exact Or.inr ⟨_, rfl⟩
  intro A h0 h hM hF
  obtain ⟨i90, i91, i92⟩ := hI.n
  obtain ⟨c90, c91, c92⟩ := hI.c
  obtain ⟨⟨z90, -⟩, ⟨z91, -⟩, z92, -⟩ := hM.b.2.2.1
  change V g m_X3_setJam 8 _ h 0 [xR 8, xI z, xU] []
  refine V_aload_n dX3_setJam_0 rfl ?_
  refine V_dg (f := 8) (F := 7) (i := 0) (t := 0) (w := D 7 0) dX3_setJam_1 fg_RX3_244 rfl rfl rfl hM.fx.1 hM (vFx (by decide)) rfl (fun r1 => ?_)
  have b1 := hI.a7
  refine V_istore_n (lc' := [_, _, _]) dX3_setJam_4 (by decide) rfl ?_
  refine V_aload_n dX3_setJam_5 rfl ?_
  refine V_iload_n dX3_setJam_6 rfl ?_
  refine V_dpz (f := 8) (F := 7) (i := 0) (t := 0) dX3_setJam_7 f_RX3_244 rfl rfl rfl hM.fx.1 hM hF (vFx (by decide)) hz (fun h hM hF => ?_)
  refine V_iload_n dX3_setJam_10 rfl ?_
  refine V_zret (by first | exact pI_01 _ | omega) dX3_setJam_11 rfl ?_
  exact qret hM hF hN hU (by unfold d_setJam; (repeat' split) <;> first | rfl | (exfalso; omega)) rfl

theorem T_X3_isOutside (g : GP) {h : AH} {A : AD} {D : MS} {N U : Nat} (hM : DR h A D N U) (v : Int) (a : Int) (b : Int) (r_v : -2147483648 ≤ v ∧ v ≤ 2147483647) (r_a : -2147483648 ≤ a ∧ a ≤ 2147483647) (r_b : -2147483648 ≤ b ∧ b ≤ 2147483647)  : TP g m_X3_isOutside 1 [xI v, xI a, xI b] h (xI (pI (v < a ∨ b < v))) := by
  refine TP.of (by decide) rfl (fun v hv => ?_) (Nat.le_of_ble_eq_true rfl) ?_
  · simp only [List.mem_cons, List.not_mem_nil, or_false] at hv
    rcases hv with rfl | rfl | rfl <;> first | rfl | exact cat_R
  change V g m_X3_isOutside 1 _ h 0 [xI v, xI a, xI b] []
  refine V_iload_n dX3_isOutside_0 rfl ?_
  refine V_iload_n dX3_isOutside_1 rfl ?_
  refine V_icmp_lt (tgt := 10) dX3_isOutside_2 (by decide) (by omega) (by omega) (fun q2 => ?_) (fun q2 => ?_)
  · refine V_iconst dX3_isOutside_10 ?_
    refine V_goto (tgt := 15) dX3_isOutside_11 (by decide) ?_
    refine V_zret (by first | exact pI_01 _ | omega) dX3_isOutside_15 rfl ?_
    exact ⟨by rw [pI_t (by omega)], rfl⟩
  · refine V_iload_n dX3_isOutside_5 rfl ?_
    refine V_iload_n dX3_isOutside_6 rfl ?_
    refine V_icmp_le (tgt := 14) dX3_isOutside_7 (by decide) (by omega) (by omega) (fun q7 => ?_) (fun q7 => ?_)
    · refine V_iconst dX3_isOutside_14 ?_
      refine V_zret (by first | exact pI_01 _ | omega) dX3_isOutside_15 rfl ?_
      exact ⟨by rw [pI_f (by omega)], rfl⟩
    · refine V_iconst dX3_isOutside_10 ?_
      refine V_goto (tgt := 15) dX3_isOutside_11 (by decide) ?_
      refine V_zret (by first | exact pI_01 _ | omega) dX3_isOutside_15 rfl ?_
      exact ⟨by rw [pI_t (by omega)], rfl⟩
theorem T_X0_missing (g : GP) {h : AH} {A : AD} {D : MS} {N U : Nat} (hM : DR h A D N U) (p : Int)  (hI : ID D) (h1 : 0 ≤ p ∧ p < D 91 0) : TP g m_X0_missing 2 [xR (A 3 p)] h (xI (D 52 p - D 70 (3 + p))) := by
  refine TP.of (by decide) rfl (fun v hv => ?_) (Nat.le_of_ble_eq_true rfl) ?_
  · simp only [List.mem_cons, List.not_mem_nil, or_false] at hv
    subst hv; first | rfl | exact cat_R
  obtain ⟨i90, i91, i92⟩ := hI.n
  obtain ⟨c90, c91, c92⟩ := hI.c
  obtain ⟨⟨z90, -⟩, ⟨z91, -⟩, z92, -⟩ := hM.b.2.2.1
  change V g m_X0_missing 2 _ h 0 [xR (A 3 p)] []
  refine V_aload_n dX0_missing_0 rfl ?_
  refine V_dg (f := 3) (F := 52) (i := p) (t := p) (w := D 52 p) dX0_missing_1 fg_RX0_24 rfl rfl rfl rfl hM (vFp (by decide) (by omega)) rfl (fun r1 => ?_)
  have b1 := hI.a52 p
  refine V_aload_n dX0_missing_4 rfl ?_
  refine V_dgr (f := 3) (i := p) (b := (A 6 (3 + p))) dX0_missing_5 fg_RX0_10 rfl rfl rfl hM (vAp (by omega)) (hM.s.2.2.2.1 p (by omega)) ?_
  refine V_dSz (l := (3 + p)) (w := D 70 (3 + p)) dX0_missing_8 c_RX0_27 rfl (by decide) (Nat.le_of_ble_eq_true rfl) rfl hM (vLp (by omega)) rfl (fun r8 => ?_)
  refine V_isub dX0_missing_11 ?_
  refine V_iret dX0_missing_12 rfl ?_
  exact ⟨rfl, rfl⟩
theorem T_X1_kindNow (g : GP) {h : AH} {A : AD} {D : MS} {N U : Nat} (hM : DR h A D N U) (q : Int)  (hI : ID D) (h1 : 0 ≤ q ∧ q < D 90 0) : TP g m_X1_kindNow 1 [xR (A 0 q)] h (xI (sKd (D 23 q))) := by
  refine TP.of (by decide) rfl (fun v hv => ?_) (Nat.le_of_ble_eq_true rfl) ?_
  · simp only [List.mem_cons, List.not_mem_nil, or_false] at hv
    subst hv; first | rfl | exact cat_R
  obtain ⟨i90, i91, i92⟩ := hI.n
  obtain ⟨c90, c91, c92⟩ := hI.c
  obtain ⟨⟨z90, -⟩, ⟨z91, -⟩, z92, -⟩ := hM.b.2.2.1
  change V g m_X1_kindNow 1 _ h 0 [xR (A 0 q)] []
  refine V_aload_n dX1_kindNow_0 rfl ?_
  refine V_dg (f := 0) (F := 23) (i := q) (t := q) (w := D 23 q) dX1_kindNow_1 fg_RX1_29 rfl rfl rfl rfl hM (vFq (by decide) (by omega)) rfl (fun r1 => ?_)
  have b1 := hI.a23 q
  refine V_bipush dX1_kindNow_4 (by decide) ?_
  refine V_icmp_ge (tgt := 12) dX1_kindNow_6 (by decide) (by omega) (by omega) (fun q6 => ?_) (fun q6 => ?_)
  · refine V_aload_n dX1_kindNow_12 rfl ?_
    refine V_dg (f := 0) (F := 23) (i := q) (t := q) (w := D 23 q) dX1_kindNow_13 fg_RX1_29 rfl rfl rfl rfl hM (vFq (by decide) (by omega)) rfl (fun r13 => ?_)
    have b13 := hI.a23 q
    refine V_bipush dX1_kindNow_16 (by decide) ?_
    refine V_icmp_ge (tgt := 26) dX1_kindNow_18 (by decide) (by omega) (by omega) (fun q18 => ?_) (fun q18 => ?_)
    · refine V_bipush dX1_kindNow_26 (by decide) ?_
      refine V_cret (by omega) dX1_kindNow_28 rfl ?_
      refine ⟨?_, rfl⟩
      (unfold sKd; (repeat' split) <;> first | rfl | (exfalso; omega))
    · refine V_bipush dX1_kindNow_21 (by decide) ?_
      refine V_goto (tgt := 28) dX1_kindNow_23 (by decide) ?_
      refine V_cret (by omega) dX1_kindNow_28 rfl ?_
      refine ⟨?_, rfl⟩
      (unfold sKd; (repeat' split) <;> first | rfl | (exfalso; omega))
  · refine V_bipush dX1_kindNow_9 (by decide) ?_
    refine V_cret (by omega) dX1_kindNow_11 rfl ?_
    refine ⟨?_, rfl⟩
    (unfold sKd; (repeat' split) <;> first | rfl | (exfalso; omega))
theorem T_X1_shifted (g : GP) {h : AH} {A : AD} {D : MS} {N U : Nat} (hM : DR h A D N U) (l : Int) (z : Int) (r_l : -2147483648 ≤ l ∧ l ≤ 2147483647) (r_z : -2147483648 ≤ z ∧ z ≤ 2147483647) (h1 : 0 ≤ l ∧ l ≤ 100) : TP g m_X1_shifted 2 [xI l, xI z] h (xI (sLv l (z ≠ 0))) := by
  refine TP.of (by decide) rfl (fun v hv => ?_) (Nat.le_of_ble_eq_true rfl) ?_
  · simp only [List.mem_cons, List.not_mem_nil, or_false] at hv
    rcases hv with rfl | rfl <;> first | rfl | exact cat_R
  change V g m_X1_shifted 2 _ h 0 [xI l, xI z] []
  refine V_iload_n dX1_shifted_0 rfl ?_
  refine V_if_eq (tgt := 17) dX1_shifted_1 (by decide) (by omega) (fun q1 => ?_) (fun q1 => ?_)
  · refine V_bipush dX1_shifted_17 (by decide) ?_
    refine V_iload_n dX1_shifted_19 rfl ?_
    refine V_iconst dX1_shifted_20 ?_
    refine V_iadd dX1_shifted_21 ?_
    refine V_bipush dX1_shifted_22 (by decide) ?_
    refine V_iload_n dX1_shifted_24 rfl ?_
    refine V_isub dX1_shifted_25 ?_
    refine V_bipush dX1_shifted_26 (by decide) ?_
    refine V_idiv dX1_shifted_28 (by omega) (by omega) ?_
    refine V_iadd dX1_shifted_29 ?_
    refine V_pS (as := [_, _]) dX1_shifted_30 c_RX1_48 rfl (by decide) rfl (Nat.le_of_ble_eq_true rfl) (T_J9_min_7cf53 g 100 ((l + 1) + ((100 - l) / 10)) (by omega) (by omega)) ?_
    refine V_iret dX1_shifted_33 rfl ?_
    refine ⟨congrArg (fun z => (Sum.inl (some (xI z)) : Res)) ?_, rfl⟩
    first | (have e9 : z ≠ 0 := by omega
             unfold sLv
             rw [if_pos e9]) | (have e9 : ¬ z ≠ 0 := by omega
                                unfold sLv
                                rw [if_neg e9])
    (repeat' split) <;> omega
  · refine V_iconst dX1_shifted_4 ?_
    refine V_iload_n dX1_shifted_5 rfl ?_
    refine V_iconst dX1_shifted_6 ?_
    refine V_isub dX1_shifted_7 ?_
    refine V_iload_n dX1_shifted_8 rfl ?_
    refine V_bipush dX1_shifted_9 (by decide) ?_
    refine V_idiv dX1_shifted_11 (by omega) (by omega) ?_
    refine V_isub dX1_shifted_12 ?_
    refine V_pS (as := [_, _]) dX1_shifted_13 c_RX1_42 rfl (by decide) rfl (Nat.le_of_ble_eq_true rfl) (T_J9_max_7cf53 g 0 ((l - 1) - (l / 10)) (by omega) (by omega)) ?_
    refine V_iret dX1_shifted_16 rfl ?_
    refine ⟨congrArg (fun z => (Sum.inl (some (xI z)) : Res)) ?_, rfl⟩
    first | (have e9 : z ≠ 0 := by omega
             unfold sLv
             rw [if_pos e9]) | (have e9 : ¬ z ≠ 0 := by omega
                                unfold sLv
                                rw [if_neg e9])
    (repeat' split) <;> omega
theorem T_X1_levelByAnswers (g : GP) {h : AH} {A : AD} {D : MS} {N U : Nat} (hM : DR h A D N U) (q : Int)  (hI : ID D) (h1 : 0 ≤ q ∧ q < D 90 0) : TP g m_X1_levelByAnswers 3 [xR (A 0 q)] h (xI (dLv D q (D 25 q).toNat)) := by
  refine TP.of (by decide) rfl (fun v hv => ?_) (Nat.le_of_ble_eq_true rfl) ?_
  · simp only [List.mem_cons, List.not_mem_nil, or_false] at hv
    subst hv; first | rfl | exact cat_R
  obtain ⟨i90, i91, i92⟩ := hI.n
  obtain ⟨c90, c91, c92⟩ := hI.c
  obtain ⟨⟨z90, -⟩, ⟨z91, -⟩, z92, -⟩ := hM.b.2.2.1
  change V g m_X1_levelByAnswers 3 _ h 0 [xR (A 0 q), xU, xU] []
  have b25 := hI.a25 q
  refine V_aload_n dX1_levelByAnswers_0 rfl ?_
  refine V_dg (f := 0) (F := 22) (i := q) (t := q) (w := D 22 q) dX1_levelByAnswers_1 fg_RX1_26 rfl rfl rfl rfl hM (vFq (by decide) (by omega)) rfl (fun r1 => ?_)
  have b1 := hI.a22 q
  refine V_istore_n (lc' := [_, _, _]) dX1_levelByAnswers_4 (by decide) rfl ?_
  refine V_iconst dX1_levelByAnswers_5 ?_
  refine V_istore_n (lc' := [_, _, _]) dX1_levelByAnswers_6 (by decide) rfl ?_
  have lp7 : ∀ k7 : Int, ∀ n7 : Int, (0 ≤ k7 ∧ k7 ≤ D 25 q ∧ n7 = dLv D q k7.toNat) → V g m_X1_levelByAnswers 3 (fun r9 h9 => r9 = .inl (some (xI (dLv D q (D 25 q).toNat))) ∧ h9 = h) h 7 [xR (A 0 q), xI n7, xI k7] [] := by
    refine lp_up (D 25 q) (fun k7 ih7 => ?_)
    intro n7 hk
    obtain ⟨k7l, k7u, k7e⟩ := hk
    have b7 := dLv_r hI (q := q) k7.toNat
    rw [← k7e] at b7
    refine V_iload_n dX1_levelByAnswers_7 rfl ?_
    refine V_aload_n dX1_levelByAnswers_8 rfl ?_
    refine V_dg (f := 0) (F := 25) (i := q) (t := q) (w := D 25 q) dX1_levelByAnswers_9 fg_RX1_35 rfl rfl rfl rfl hM (vFq (by decide) (by omega)) rfl (fun r9 => ?_)
    have b9 := hI.a25 q
    refine V_icmp_ge (tgt := 41) dX1_levelByAnswers_12 (by decide) (by omega) (by omega) (fun q12 => ?_) (fun q12 => ?_)
    · refine V_iload_n dX1_levelByAnswers_41 rfl ?_
      refine V_iret dX1_levelByAnswers_42 rfl ?_
      exact ⟨by rw [k7e, show k7 = D 25 q by omega], rfl⟩
    · refine V_iload_n dX1_levelByAnswers_15 rfl ?_
      refine V_aload_n dX1_levelByAnswers_16 rfl ?_
      refine V_dgr (f := 0) (i := q) (b := (A 2 q)) dX1_levelByAnswers_17 fg_RX1_9 rfl rfl rfl hM (vAq (by decide) (by omega)) (hM.s.2.2.1 q (by omega)).2.1 ?_
      refine V_alen (t := 3) dX1_levelByAnswers_20 (hM.kd (f := 2) (vAq (by decide) (by omega))) (by omega) ?_
      rw [show ((h_l h (A 2 q) : Nat) : Int) = 30 by rw [(hM.s.2.2.1 q (by omega)).2.2.2.2]; rfl]
      refine V_icmp_ge (tgt := 41) dX1_levelByAnswers_21 (by decide) (by omega) (by omega) (fun q21 => ?_) (fun q21 => ?_)
      · refine V_iload_n dX1_levelByAnswers_41 rfl ?_
        refine V_iret dX1_levelByAnswers_42 rfl ?_
        exact ⟨by rw [k7e, show k7 = D 25 q by omega], rfl⟩
      · refine V_iload_n dX1_levelByAnswers_24 rfl ?_
        refine V_aload_n dX1_levelByAnswers_25 rfl ?_
        refine V_dgr (f := 0) (i := q) (b := (A 2 q)) dX1_levelByAnswers_26 fg_RX1_9 rfl rfl rfl hM (vAq (by decide) (by omega)) (hM.s.2.2.1 q (by omega)).2.1 ?_
        refine V_iload_n dX1_levelByAnswers_29 rfl ?_
        refine V_daz (f := 2) (F := 42) (i := q) (t := (30 * q + k7)) (n := 30) (w := D 42 (30 * q + k7)) dX1_levelByAnswers_30 rfl (lf_r (by omega)) rfl hM (vF_r (by omega) (by omega)) (by rw [(hM.s.2.2.1 q (by omega)).2.2.2.2]; rfl) (by omega) (by omega) rfl (fun r30 => ?_)
        have b30 := hI.a42 (30 * q + k7)
        refine V_pS (as := [_, _]) dX1_levelByAnswers_31 c_RX1_38 rfl (by decide) rfl (Nat.le_of_ble_eq_true rfl) (T_X1_shifted g hM n7 (D 42 (30 * q + k7)) (by omega) (by omega) (by omega)) ?_
        have t31 := @sLv_r n7 ((D 42 (30 * q + k7)) ≠ 0) (by omega)
        refine V_istore_n (lc' := [_, _, _]) dX1_levelByAnswers_34 (by decide) rfl ?_
        refine V_iinc (lc' := [_, _, _]) dX1_levelByAnswers_35 rfl (by decide) rfl ?_
        refine V_goto (tgt := 7) dX1_levelByAnswers_38 (by decide) ?_
        exact ih7 (by omega) (sLv n7 ((D 42 (30 * q + k7)) ≠ 0)) ⟨by omega, by omega, by rw [dLv_s k7l, ← k7e]⟩
  exact lp7 0 (D 22 q) ⟨by omega, by omega, rfl⟩
theorem T_X3_elementOf (g : GP) {h : AH} {A : AD} {D : MS} {N U : Nat} (hM : DR h A D N U) (l : Int) (i : Int) (r_i : -2147483648 ≤ i ∧ i ≤ 2147483647) (hv : vL D l) (hn : l ≠ 46 ∧ l ≠ 47) (h1 : 0 ≤ i ∧ i < D 70 l) : TP g m_X3_elementOf 4 [xR (A 6 l), xI i] h (xR (A 0 (D 71 (40 * l + i)))) := by
  refine TP.of (by decide) rfl (fun v hv => ?_) (Nat.le_of_ble_eq_true rfl) ?_
  · simp only [List.mem_cons, List.not_mem_nil, or_false] at hv
    rcases hv with rfl | rfl <;> first | rfl | exact cat_R
  change V g m_X3_elementOf 4 _ h 0 [xR (A 6 l), xI i] []
  refine V_iload_n dX3_elementOf_0 rfl ?_
  refine V_if_lt (tgt := 12) dX3_elementOf_1 (by decide) (by omega) (fun q1 => absurd q1 (by omega)) (fun q1 => ?_)
  refine V_iload_n dX3_elementOf_4 rfl ?_
  refine V_aload_n dX3_elementOf_5 rfl ?_
  refine V_dSz (l := l) (w := D 70 l) dX3_elementOf_6 c_RX3_69 rfl (by decide) (Nat.le_of_ble_eq_true rfl) rfl hM hv rfl (fun r6 => ?_)
  refine V_icmp_lt (tgt := 23) dX3_elementOf_9 (by decide) (by omega) (by omega) (fun q9 => ?_) (fun q9 => absurd q9 (by omega))
  refine V_aload_n dX3_elementOf_23 rfl ?_
  refine V_iload_n dX3_elementOf_24 rfl ?_
  refine V_dGq (l := l) dX3_elementOf_25 c_RX3_132 rfl (by decide) (Nat.le_of_ble_eq_true rfl) rfl hM hv (by omega) hn (fun g25 => ?_)
  refine V_ckc dX3_elementOf_28 k_RX3_75 (hM.kd (f := 0) (vAq (by decide) (by omega))) ?_
  refine V_aret dX3_elementOf_31 rfl (by first | exact Or.inl ⟨_, rfl⟩ | exact Or.inr ⟨_, rfl⟩) ?_
  exact ⟨rfl, rfl⟩
theorem T_X3_questionOf (g : GP) {h : AH} {A : AD} {D : MS} {N U : Nat} (hM : DR h A D N U) (i : Int) (r_i : -2147483648 ≤ i ∧ i ≤ 2147483647) (hI : ID D) (h1 : 0 ≤ i ∧ i < D 70 45) : TP g m_X3_questionOf 4 [xR 8, xI i] h (xR (A 0 i)) := by
  refine TP.of (by decide) rfl (fun v hv => ?_) (Nat.le_of_ble_eq_true rfl) ?_
  · simp only [List.mem_cons, List.not_mem_nil, or_false] at hv
    rcases hv with rfl | rfl <;> first | rfl | exact cat_R
  obtain ⟨i90, i91, i92⟩ := hI.n
  obtain ⟨c90, c91, c92⟩ := hI.c
  obtain ⟨⟨z90, -⟩, ⟨z91, -⟩, z92, -⟩ := hM.b.2.2.1
  change V g m_X3_questionOf 4 _ h 0 [xR 8, xI i] []
  refine V_iload_n dX3_questionOf_0 rfl ?_
  refine V_if_lt (tgt := 15) dX3_questionOf_1 (by decide) (by omega) (fun q1 => absurd q1 (by omega)) (fun q1 => ?_)
  refine V_iload_n dX3_questionOf_4 rfl ?_
  refine V_aload_n dX3_questionOf_5 rfl ?_
  refine V_dgr (f := 8) (i := 0) (b := 10) dX3_questionOf_6 fg_RX3_16 rfl rfl hM.fx.1 hM (vAx (by decide)) hM.s.1.2.1 ?_
  refine V_dSz (l := 45) (w := D 70 45) dX3_questionOf_9 c_RX3_69 rfl (by decide) (Nat.le_of_ble_eq_true rfl) hM.fx.2.2.2.1 hM (vL4 (by decide)) rfl (fun r9 => ?_)
  refine V_icmp_lt (tgt := 26) dX3_questionOf_12 (by decide) (by omega) (by omega) (fun q12 => ?_) (fun q12 => absurd q12 (by omega))
  refine V_aload_n dX3_questionOf_26 rfl ?_
  refine V_dgr (f := 8) (i := 0) (b := 10) dX3_questionOf_27 fg_RX3_16 rfl rfl hM.fx.1 hM (vAx (by decide)) hM.s.1.2.1 ?_
  refine V_iload_n dX3_questionOf_30 rfl ?_
  refine V_dG45 dX3_questionOf_31 c_RX3_132 rfl (by decide) (Nat.le_of_ble_eq_true rfl) hM (by omega) (rfl.trans (hI.q (by omega))) ?_
  refine V_ckc dX3_questionOf_34 k_RX3_75 (hM.kd (f := 0) (vAq (by decide) (by omega))) ?_
  refine V_aret dX3_questionOf_37 rfl (by first | exact Or.inl ⟨_, rfl⟩ | exact Or.inr ⟨_, rfl⟩) ?_
  exact ⟨rfl, rfl⟩
theorem T_X3_planOf (g : GP) {h : AH} {A : AD} {D : MS} {N U : Nat} (hM : DR h A D N U) (i : Int) (r_i : -2147483648 ≤ i ∧ i ≤ 2147483647) (hI : ID D) (h1 : 0 ≤ i ∧ i < D 70 46) : TP g m_X3_planOf 4 [xR 8, xI i] h (xR (A 3 i)) := by
  refine TP.of (by decide) rfl (fun v hv => ?_) (Nat.le_of_ble_eq_true rfl) ?_
  · simp only [List.mem_cons, List.not_mem_nil, or_false] at hv
    rcases hv with rfl | rfl <;> first | rfl | exact cat_R
  obtain ⟨i90, i91, i92⟩ := hI.n
  obtain ⟨c90, c91, c92⟩ := hI.c
  obtain ⟨⟨z90, -⟩, ⟨z91, -⟩, z92, -⟩ := hM.b.2.2.1
  change V g m_X3_planOf 4 _ h 0 [xR 8, xI i] []
  refine V_iload_n dX3_planOf_0 rfl ?_
  refine V_if_lt (tgt := 15) dX3_planOf_1 (by decide) (by omega) (fun q1 => absurd q1 (by omega)) (fun q1 => ?_)
  refine V_iload_n dX3_planOf_4 rfl ?_
  refine V_aload_n dX3_planOf_5 rfl ?_
  refine V_dgr (f := 8) (i := 0) (b := 12) dX3_planOf_6 fg_RX3_23 rfl rfl hM.fx.1 hM (vAx (by decide)) hM.s.1.2.2.2.1 ?_
  refine V_dSz (l := 46) (w := D 70 46) dX3_planOf_9 c_RX3_69 rfl (by decide) (Nat.le_of_ble_eq_true rfl) hM.fx.2.2.2.2.2.1 hM (vL4 (by decide)) rfl (fun r9 => ?_)
  refine V_icmp_lt (tgt := 26) dX3_planOf_12 (by decide) (by omega) (by omega) (fun q12 => ?_) (fun q12 => absurd q12 (by omega))
  refine V_aload_n dX3_planOf_26 rfl ?_
  refine V_dgr (f := 8) (i := 0) (b := 12) dX3_planOf_27 fg_RX3_23 rfl rfl hM.fx.1 hM (vAx (by decide)) hM.s.1.2.2.2.1 ?_
  refine V_iload_n dX3_planOf_30 rfl ?_
  refine V_dG46 dX3_planOf_31 c_RX3_132 rfl (by decide) (Nat.le_of_ble_eq_true rfl) hM (by omega) (rfl.trans (hI.p (by omega))) ?_
  refine V_ckc dX3_planOf_34 k_RX3_168 (hM.kd (f := 3) (vAp (by omega))) ?_
  refine V_aret dX3_planOf_37 rfl (by first | exact Or.inl ⟨_, rfl⟩ | exact Or.inr ⟨_, rfl⟩) ?_
  exact ⟨rfl, rfl⟩
theorem T_X3_sheetOf (g : GP) {h : AH} {A : AD} {D : MS} {N U : Nat} (hM : DR h A D N U) (i : Int) (r_i : -2147483648 ≤ i ∧ i ≤ 2147483647) (hI : ID D) (h1 : 0 ≤ i ∧ i < D 70 47) : TP g m_X3_sheetOf 4 [xR 8, xI i] h (xR (A 4 i)) := by
  refine TP.of (by decide) rfl (fun v hv => ?_) (Nat.le_of_ble_eq_true rfl) ?_
  · simp only [List.mem_cons, List.not_mem_nil, or_false] at hv
    rcases hv with rfl | rfl <;> first | rfl | exact cat_R
  obtain ⟨i90, i91, i92⟩ := hI.n
  obtain ⟨c90, c91, c92⟩ := hI.c
  obtain ⟨⟨z90, -⟩, ⟨z91, -⟩, z92, -⟩ := hM.b.2.2.1
  change V g m_X3_sheetOf 4 _ h 0 [xR 8, xI i] []
  refine V_iload_n dX3_sheetOf_0 rfl ?_
  refine V_if_lt (tgt := 15) dX3_sheetOf_1 (by decide) (by omega) (fun q1 => absurd q1 (by omega)) (fun q1 => ?_)
  refine V_iload_n dX3_sheetOf_4 rfl ?_
  refine V_aload_n dX3_sheetOf_5 rfl ?_
  refine V_dgr (f := 8) (i := 0) (b := 13) dX3_sheetOf_6 fg_RX3_26 rfl rfl hM.fx.1 hM (vAx (by decide)) hM.s.1.2.2.2.2.1 ?_
  refine V_dSz (l := 47) (w := D 70 47) dX3_sheetOf_9 c_RX3_69 rfl (by decide) (Nat.le_of_ble_eq_true rfl) hM.fx.2.2.2.2.2.2.1 hM (vL4 (by decide)) rfl (fun r9 => ?_)
  refine V_icmp_lt (tgt := 26) dX3_sheetOf_12 (by decide) (by omega) (by omega) (fun q12 => ?_) (fun q12 => absurd q12 (by omega))
  refine V_aload_n dX3_sheetOf_26 rfl ?_
  refine V_dgr (f := 8) (i := 0) (b := 13) dX3_sheetOf_27 fg_RX3_26 rfl rfl hM.fx.1 hM (vAx (by decide)) hM.s.1.2.2.2.2.1 ?_
  refine V_iload_n dX3_sheetOf_30 rfl ?_
  refine V_dG47 dX3_sheetOf_31 c_RX3_132 rfl (by decide) (Nat.le_of_ble_eq_true rfl) hM (by omega) (rfl.trans (hI.s (by omega))) ?_
  refine V_ckc dX3_sheetOf_34 k_RX3_217 (hM.kd (f := 4) (vAs (by decide) (by omega))) ?_
  refine V_aret dX3_sheetOf_37 rfl (by first | exact Or.inl ⟨_, rfl⟩ | exact Or.inr ⟨_, rfl⟩) ?_
  exact ⟨rfl, rfl⟩
theorem T_X3_hasRelative (g : GP) {h : AH} {A : AD} {D : MS} {N U : Nat} (hM : DR h A D N U) (l : Int) (n : Int) (q : Int) (r_n : -2147483648 ≤ n ∧ n ≤ 2147483647) (hI : ID D) (hv : vL D l) (hn : l ≠ 46 ∧ l ≠ 47) (h1 : 0 ≤ q ∧ q < D 90 0) : TP g m_X3_hasRelative 4 [xR (A 6 l), xI n, xR (A 0 q)] h (xI (pI (dRel D l n q))) := by
  refine TP.of (by decide) rfl (fun v hv => ?_) (Nat.le_of_ble_eq_true rfl) ?_
  · simp only [List.mem_cons, List.not_mem_nil, or_false] at hv
    rcases hv with rfl | rfl | rfl <;> first | rfl | exact cat_R
  obtain ⟨i90, i91, i92⟩ := hI.n
  obtain ⟨c90, c91, c92⟩ := hI.c
  obtain ⟨⟨z90, -⟩, ⟨z91, -⟩, z92, -⟩ := hM.b.2.2.1
  change V g m_X3_hasRelative 4 _ h 0 [xR (A 6 l), xI n, xR (A 0 q), xU] []
  have b70 := hI.a70 l
  refine V_iconst dX3_hasRelative_0 ?_
  refine V_istore_n (lc' := [_, _, _, _]) dX3_hasRelative_1 (by decide) rfl ?_
  have lp2 : ∀ k2 : Int, (0 ≤ k2 ∧ k2 ≤ D 70 l ∧ ∀ j : Int, 0 ≤ j → j < k2 → ¬ (j < n ∧ D 26 (D 71 (40 * l + j)) = D 26 q)) → V g m_X3_hasRelative 4 (fun r9 h9 => r9 = .inl (some (xI (pI (dRel D l n q)))) ∧ h9 = h) h 2 [xR (A 6 l), xI n, xR (A 0 q), xI k2] [] := by
    refine lp_up (D 70 l) (fun k2 ih2 => ?_)
    intro hk
    obtain ⟨k2l, k2u, k2A⟩ := hk
    refine V_iload_n dX3_hasRelative_2 rfl ?_
    refine V_iload_n dX3_hasRelative_3 rfl ?_
    refine V_icmp_ge (tgt := 41) dX3_hasRelative_4 (by decide) (by omega) (by omega) (fun q4 => ?_) (fun q4 => ?_)
    · refine V_iconst dX3_hasRelative_41 ?_
      refine V_zret (by first | exact pI_01 _ | omega) dX3_hasRelative_42 rfl ?_
      exact ⟨by rw [pI_f (fun ⟨j, a, b, c, e⟩ => k2A j a (by omega) ⟨b, e⟩)], rfl⟩
    · refine V_iload_n dX3_hasRelative_7 rfl ?_
      refine V_aload_n dX3_hasRelative_8 rfl ?_
      refine V_dSz (l := l) (w := D 70 l) dX3_hasRelative_9 c_RX3_69 rfl (by decide) (Nat.le_of_ble_eq_true rfl) rfl hM hv rfl (fun r9 => ?_)
      refine V_icmp_ge (tgt := 41) dX3_hasRelative_12 (by decide) (by omega) (by omega) (fun q12 => ?_) (fun q12 => ?_)
      · refine V_iconst dX3_hasRelative_41 ?_
        refine V_zret (by first | exact pI_01 _ | omega) dX3_hasRelative_42 rfl ?_
        exact ⟨by rw [pI_f (fun ⟨j, a, b, c, e⟩ => k2A j a (by omega) ⟨b, e⟩)], rfl⟩
      · refine V_aload_n dX3_hasRelative_15 rfl ?_
        refine V_iload_n dX3_hasRelative_16 rfl ?_
        refine V_dGq (l := l) dX3_hasRelative_17 c_RX3_132 rfl (by decide) (Nat.le_of_ble_eq_true rfl) rfl hM hv (by omega) hn (fun g17 => ?_)
        refine V_ckc dX3_hasRelative_20 k_RX3_75 (hM.kd (f := 0) (vAq (by decide) (by omega))) ?_
        refine V_dg (f := 0) (F := 26) (i := D 71 (40 * l + k2)) (t := D 71 (40 * l + k2)) (w := D 26 (D 71 (40 * l + k2))) dX3_hasRelative_23 fg_RX3_99 rfl rfl rfl rfl hM (vFq (by decide) (by omega)) rfl (fun r23 => ?_)
        have b23 := hI.a26 (D 71 (40 * l + k2))
        refine V_aload_n dX3_hasRelative_26 rfl ?_
        refine V_dg (f := 0) (F := 26) (i := q) (t := q) (w := D 26 q) dX3_hasRelative_27 fg_RX3_99 rfl rfl rfl rfl hM (vFq (by decide) (by omega)) rfl (fun r27 => ?_)
        have b27 := hI.a26 q
        refine V_icmp_ne (tgt := 35) dX3_hasRelative_30 (by decide) (by omega) (by omega) (fun q30 => ?_) (fun q30 => ?_)
        · refine V_iinc (lc' := [_, _, _, _]) dX3_hasRelative_35 rfl (by decide) rfl ?_
          refine V_goto (tgt := 2) dX3_hasRelative_38 (by decide) ?_
          exact ih2 (by omega) ⟨by omega, by omega, all_succ k2A (fun e => q30 e.2)⟩
        · refine V_iconst dX3_hasRelative_33 ?_
          refine V_zret (by first | exact pI_01 _ | omega) dX3_hasRelative_34 rfl ?_
          exact ⟨by rw [pI_t ⟨k2, by omega, by omega, by omega, by omega⟩], rfl⟩
  exact lp2 0 ⟨by omega, by omega, fun j a b => absurd b (by omega)⟩
theorem T_X3_isOpen (g : GP) {h : AH} {A : AD} {D : MS} {N U : Nat} (hM : DR h A D N U) (p : Int)  (hI : ID D) (h1 : 0 ≤ p ∧ p < D 91 0) : TP g m_X3_isOpen 1 [xR 8, xR (A 3 p)] h (xI (pI (dOpen D p))) := by
  refine TP.of (by decide) rfl (fun v hv => ?_) (Nat.le_of_ble_eq_true rfl) ?_
  · simp only [List.mem_cons, List.not_mem_nil, or_false] at hv
    rcases hv with rfl | rfl <;> first | rfl | exact cat_R
  obtain ⟨i90, i91, i92⟩ := hI.n
  obtain ⟨c90, c91, c92⟩ := hI.c
  obtain ⟨⟨z90, -⟩, ⟨z91, -⟩, z92, -⟩ := hM.b.2.2.1
  change V g m_X3_isOpen 1 _ h 0 [xR 8, xR (A 3 p)] []
  refine V_aload_n dX3_isOpen_0 rfl ?_
  refine V_dg (f := 3) (F := 54) (i := p) (t := p) (w := D 54 p) dX3_isOpen_1 fg_RX3_177 rfl rfl rfl rfl hM (vFp (by decide) (by omega)) rfl (fun r1 => ?_)
  have b1 := hI.a54 p
  refine V_if_ne (tgt := 22) dX3_isOpen_4 (by decide) (by omega) (fun q4 => ?_) (fun q4 => ?_)
  · refine V_iconst dX3_isOpen_22 ?_
    refine V_zret (by first | exact pI_01 _ | omega) dX3_isOpen_23 rfl ?_
    exact ⟨by rw [pI_f (fun e => by have := e.1; have := e.2; omega)], rfl⟩
  · refine V_aload_n dX3_isOpen_7 rfl ?_
    refine V_dg (f := 3) (F := 50) (i := p) (t := p) (w := D 50 p) dX3_isOpen_8 fg_RX3_226 rfl rfl rfl rfl hM (vFp (by decide) (by omega)) rfl (fun r8 => ?_)
    have b8 := hI.a50 p
    refine V_aload_n dX3_isOpen_11 rfl ?_
    refine V_dg (f := 8) (F := 6) (i := 0) (t := 0) (w := D 6 0) dX3_isOpen_12 fg_RX3_155 rfl rfl rfl hM.fx.1 hM (vFx (by decide)) rfl (fun r12 => ?_)
    have b12 := hI.a6
    refine V_icmp_lt (tgt := 22) dX3_isOpen_15 (by decide) (by omega) (by omega) (fun q15 => ?_) (fun q15 => ?_)
    · refine V_iconst dX3_isOpen_22 ?_
      refine V_zret (by first | exact pI_01 _ | omega) dX3_isOpen_23 rfl ?_
      exact ⟨by rw [pI_f (fun e => by have := e.1; have := e.2; omega)], rfl⟩
    · refine V_iconst dX3_isOpen_18 ?_
      refine V_goto (tgt := 23) dX3_isOpen_19 (by decide) ?_
      refine V_zret (by first | exact pI_01 _ | omega) dX3_isOpen_23 rfl ?_
      exact ⟨by rw [pI_t ⟨by omega, by omega⟩], rfl⟩
theorem T_X3_isAvailable (g : GP) {h : AH} {A : AD} {D : MS} {N U : Nat} (hM : DR h A D N U) (q : Int)  (hI : ID D) (h1 : 0 ≤ q ∧ q < D 90 0) : TP g m_X3_isAvailable 1 [xR 8, xR (A 0 q)] h (xI (pI (dAv D q))) := by
  refine TP.of (by decide) rfl (fun v hv => ?_) (Nat.le_of_ble_eq_true rfl) ?_
  · simp only [List.mem_cons, List.not_mem_nil, or_false] at hv
    rcases hv with rfl | rfl <;> first | rfl | exact cat_R
  obtain ⟨i90, i91, i92⟩ := hI.n
  obtain ⟨c90, c91, c92⟩ := hI.c
  obtain ⟨⟨z90, -⟩, ⟨z91, -⟩, z92, -⟩ := hM.b.2.2.1
  change V g m_X3_isAvailable 1 _ h 0 [xR 8, xR (A 0 q)] []
  refine V_aload_n dX3_isAvailable_0 rfl ?_
  refine V_dg (f := 0) (F := 28) (i := q) (t := q) (w := D 28 q) dX3_isAvailable_1 fg_RX3_254 rfl rfl rfl rfl hM (vFq (by decide) (by omega)) rfl (fun r1 => ?_)
  have b1 := hI.a28 q
  refine V_if_eq (tgt := 9) dX3_isAvailable_4 (by decide) (by omega) (fun q4 => ?_) (fun q4 => ?_)
  · refine V_aload_n dX3_isAvailable_9 rfl ?_
    refine V_dg (f := 0) (F := 30) (i := q) (t := q) (w := D 30 q) dX3_isAvailable_10 fg_RX3_257 rfl rfl rfl rfl hM (vFq (by decide) (by omega)) rfl (fun r10 => ?_)
    have b10 := hI.a30 q
    refine V_iconst dX3_isAvailable_13 ?_
    refine V_icmp_eq (tgt := 30) dX3_isAvailable_14 (by decide) (by omega) (by omega) (fun q14 => ?_) (fun q14 => ?_)
    · refine V_iconst dX3_isAvailable_30 ?_
      refine V_goto (tgt := 35) dX3_isAvailable_31 (by decide) ?_
      refine V_zret (by first | exact pI_01 _ | omega) dX3_isAvailable_35 rfl ?_
      exact ⟨by rw [pI_t ⟨by omega, by omega⟩], rfl⟩
    · refine V_aload_n dX3_isAvailable_17 rfl ?_
      refine V_dg (f := 8) (F := 6) (i := 0) (t := 0) (w := D 6 0) dX3_isAvailable_18 fg_RX3_155 rfl rfl rfl hM.fx.1 hM (vFx (by decide)) rfl (fun r18 => ?_)
      have b18 := hI.a6
      refine V_aload_n dX3_isAvailable_21 rfl ?_
      refine V_dg (f := 0) (F := 30) (i := q) (t := q) (w := D 30 q) dX3_isAvailable_22 fg_RX3_257 rfl rfl rfl rfl hM (vFq (by decide) (by omega)) rfl (fun r22 => ?_)
      have b22 := hI.a30 q
      refine V_isub dX3_isAvailable_25 ?_
      refine V_iconst dX3_isAvailable_26 ?_
      refine V_icmp_le (tgt := 34) dX3_isAvailable_27 (by decide) (by omega) (by omega) (fun q27 => ?_) (fun q27 => ?_)
      · refine V_iconst dX3_isAvailable_34 ?_
        refine V_zret (by first | exact pI_01 _ | omega) dX3_isAvailable_35 rfl ?_
        exact ⟨by rw [pI_f (fun e => by have := e.1; have := e.2; omega)], rfl⟩
      · refine V_iconst dX3_isAvailable_30 ?_
        refine V_goto (tgt := 35) dX3_isAvailable_31 (by decide) ?_
        refine V_zret (by first | exact pI_01 _ | omega) dX3_isAvailable_35 rfl ?_
        exact ⟨by rw [pI_t ⟨by omega, by omega⟩], rfl⟩
  · refine V_iconst dX3_isAvailable_7 ?_
    refine V_zret (by first | exact pI_01 _ | omega) dX3_isAvailable_8 rfl ?_
    exact ⟨by rw [pI_f (fun e => by have := e.1; have := e.2; omega)], rfl⟩

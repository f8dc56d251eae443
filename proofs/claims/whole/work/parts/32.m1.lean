-- deps: 09 10 11 12 21 20 30 31
theorem T_X4_in (g : GP) (v : Int) (a : Int) (b : Int) (r_v : -2147483648 ≤ v ∧ v ≤ 2147483647) (r_a : -2147483648 ≤ a ∧ a ≤ 2147483647) (r_b : -2147483648 ≤ b ∧ b ≤ 2147483647)  {h : AH} : TP g m_X4_in 1 [xI v, xI a, xI b] h (xI (pI (a ≤ v ∧ v ≤ b))) := by
  refine TP.of (by decide) rfl (fun v hv => ?_) (Nat.le_of_ble_eq_true rfl) ?_
  · simp only [List.mem_cons, List.not_mem_nil, or_false] at hv
    rcases hv with rfl | rfl | rfl <;> rfl
  change V g m_X4_in 1 _ h 0 [xI v, xI a, xI b] []
  refine V_iload_n dX4_in_0 rfl ?_
  refine V_iload_n dX4_in_1 rfl ?_
  refine V_icmp_lt (tgt := 14) dX4_in_2 (by decide) (by omega) (by omega) (fun q2 => ?_) (fun q2 => ?_)
  · refine V_iconst dX4_in_14 ?_
    refine V_zret (by first | exact pI_01 _ | omega) dX4_in_15 rfl ?_
    exact ⟨by rw [pI_f (by omega)], rfl⟩
  · refine V_iload_n dX4_in_5 rfl ?_
    refine V_iload_n dX4_in_6 rfl ?_
    refine V_icmp_gt (tgt := 14) dX4_in_7 (by decide) (by omega) (by omega) (fun q7 => ?_) (fun q7 => ?_)
    · refine V_iconst dX4_in_14 ?_
      refine V_zret (by first | exact pI_01 _ | omega) dX4_in_15 rfl ?_
      exact ⟨by rw [pI_f (by omega)], rfl⟩
    · refine V_iconst dX4_in_10 ?_
      refine V_goto (tgt := 15) dX4_in_11 (by decide) ?_
      refine V_zret (by first | exact pI_01 _ | omega) dX4_in_15 rfl ?_
      exact ⟨by rw [pI_t (by omega)], rfl⟩
theorem T_X4_isKind (g : GP) (v : Int) (r_v : -2147483648 ≤ v ∧ v ≤ 2147483647)  {h : AH} : TP g m_X4_isKind 1 [xI v] h (xI (pI (v = 101 ∨ v = 109 ∨ v = 104))) := by
  refine TP.of (by decide) rfl (fun v hv => ?_) (Nat.le_of_ble_eq_true rfl) ?_
  · simp only [List.mem_cons, List.not_mem_nil, or_false] at hv
    subst hv; rfl
  change V g m_X4_isKind 1 _ h 0 [xI v] []
  refine V_iload_n dX4_isKind_0 rfl ?_
  refine V_bipush dX4_isKind_1 (by decide) ?_
  refine V_icmp_eq (tgt := 18) dX4_isKind_3 (by decide) (by omega) (by omega) (fun q3 => ?_) (fun q3 => ?_)
  · refine V_iconst dX4_isKind_18 ?_
    refine V_goto (tgt := 23) dX4_isKind_19 (by decide) ?_
    refine V_zret (by first | exact pI_01 _ | omega) dX4_isKind_23 rfl ?_
    exact ⟨by rw [pI_t (by omega)], rfl⟩
  · refine V_iload_n dX4_isKind_6 rfl ?_
    refine V_bipush dX4_isKind_7 (by decide) ?_
    refine V_icmp_eq (tgt := 18) dX4_isKind_9 (by decide) (by omega) (by omega) (fun q9 => ?_) (fun q9 => ?_)
    · refine V_iconst dX4_isKind_18 ?_
      refine V_goto (tgt := 23) dX4_isKind_19 (by decide) ?_
      refine V_zret (by first | exact pI_01 _ | omega) dX4_isKind_23 rfl ?_
      exact ⟨by rw [pI_t (by omega)], rfl⟩
    · refine V_iload_n dX4_isKind_12 rfl ?_
      refine V_bipush dX4_isKind_13 (by decide) ?_
      refine V_icmp_ne (tgt := 22) dX4_isKind_15 (by decide) (by omega) (by omega) (fun q15 => ?_) (fun q15 => ?_)
      · refine V_iconst dX4_isKind_22 ?_
        refine V_zret (by first | exact pI_01 _ | omega) dX4_isKind_23 rfl ?_
        exact ⟨by rw [pI_f (by omega)], rfl⟩
      · refine V_iconst dX4_isKind_18 ?_
        refine V_goto (tgt := 23) dX4_isKind_19 (by decide) ?_
        refine V_zret (by first | exact pI_01 _ | omega) dX4_isKind_23 rfl ?_
        exact ⟨by rw [pI_t (by omega)], rfl⟩
theorem T_X4_plain (g : GP) (M : MS) (v : Int) (r_v : -2147483648 ≤ v ∧ v ≤ 2147483647)  : TM g m_X4_plain 1 [xI v] M (some (xI v)) ((mset M 27 0 0)) := by
  refine TM.of (by decide) rfl (fun v hv => ?_) (Nat.le_of_ble_eq_true rfl) ?_
  · simp only [List.mem_cons, List.not_mem_nil, or_false] at hv
    subst hv; exact ⟨_, rfl⟩
  intro h0 h hM hF
  change V g m_X4_plain 1 _ h 0 [xR 18, xI v] []
  refine V_aload_n dX4_plain_0 rfl ?_
  refine V_iconst dX4_plain_1 ?_
  refine V_mp (f := 27) dX4_plain_2 f_RX4_72 rfl (by decide) hM hF (by omega) (fun h hM hF => ?_)
  refine V_iload_n dX4_plain_5 rfl ?_
  refine V_iret dX4_plain_6 rfl ?_
  exact mret hM hF rfl rfl
theorem T_X4_isQuestion (g : GP) (M : MS) (v : Int) (r_v : -2147483648 ≤ v ∧ v ≤ 2147483647) (hI : IM M) : TM g m_X4_isQuestion 2 [xI v] M (some (xI (pI (isQ M v)))) (M) := by
  refine TM.of (by decide) rfl (fun v hv => ?_) (Nat.le_of_ble_eq_true rfl) ?_
  · simp only [List.mem_cons, List.not_mem_nil, or_false] at hv
    subst hv; exact ⟨_, rfl⟩
  intro h0 h hM hF
  change V g m_X4_isQuestion 2 _ h 0 [xR 18, xI v] []
  obtain ⟨⟨i19, i20, i21, i22, i23, i24, i25, i26, i29⟩, iA⟩ := id hI
  refine V_iload_n dX4_isQuestion_0 rfl ?_
  refine V_iconst dX4_isQuestion_1 ?_
  refine V_aload_n dX4_isQuestion_2 rfl ?_
  refine V_mg (f := 20) (z := M 20 0) dX4_isQuestion_3 fg_RX4_76 rfl (by decide) hM rfl (fun r3 => ?_)
  refine V_iconst dX4_isQuestion_6 ?_
  refine V_isub dX4_isQuestion_7 ?_
  refine V_pS (as := [_, _, _]) dX4_isQuestion_8 c_RX4_79 rfl (by decide) rfl (Nat.le_of_ble_eq_true rfl) (T_X4_in g v 0 ((M 20 0) - 1) (by omega) (by omega) (by omega)) ?_
  refine V_zret (by first | exact pI_01 _ | omega) dX4_isQuestion_11 rfl ?_
  exact mret hM hF (congrArg pI (propext (by unfold isQ; omega))) rfl
theorem T_X4_isPlan (g : GP) (M : MS) (v : Int) (r_v : -2147483648 ≤ v ∧ v ≤ 2147483647) (hI : IM M) : TM g m_X4_isPlan 2 [xI v] M (some (xI (pI (isP M v)))) (M) := by
  refine TM.of (by decide) rfl (fun v hv => ?_) (Nat.le_of_ble_eq_true rfl) ?_
  · simp only [List.mem_cons, List.not_mem_nil, or_false] at hv
    subst hv; exact ⟨_, rfl⟩
  intro h0 h hM hF
  change V g m_X4_isPlan 2 _ h 0 [xR 18, xI v] []
  obtain ⟨⟨i19, i20, i21, i22, i23, i24, i25, i26, i29⟩, iA⟩ := id hI
  refine V_iload_n dX4_isPlan_0 rfl ?_
  refine V_iconst dX4_isPlan_1 ?_
  refine V_aload_n dX4_isPlan_2 rfl ?_
  refine V_mg (f := 22) (z := M 22 0) dX4_isPlan_3 fg_RX4_83 rfl (by decide) hM rfl (fun r3 => ?_)
  refine V_iconst dX4_isPlan_6 ?_
  refine V_isub dX4_isPlan_7 ?_
  refine V_pS (as := [_, _, _]) dX4_isPlan_8 c_RX4_79 rfl (by decide) rfl (Nat.le_of_ble_eq_true rfl) (T_X4_in g v 0 ((M 22 0) - 1) (by omega) (by omega) (by omega)) ?_
  refine V_zret (by first | exact pI_01 _ | omega) dX4_isPlan_11 rfl ?_
  exact mret hM hF (congrArg pI (propext (by unfold isP; omega))) rfl
theorem T_X4_isSheet (g : GP) (M : MS) (v : Int) (r_v : -2147483648 ≤ v ∧ v ≤ 2147483647) (hI : IM M) : TM g m_X4_isSheet 2 [xI v] M (some (xI (pI (isS M v)))) (M) := by
  refine TM.of (by decide) rfl (fun v hv => ?_) (Nat.le_of_ble_eq_true rfl) ?_
  · simp only [List.mem_cons, List.not_mem_nil, or_false] at hv
    subst hv; exact ⟨_, rfl⟩
  intro h0 h hM hF
  change V g m_X4_isSheet 2 _ h 0 [xR 18, xI v] []
  obtain ⟨⟨i19, i20, i21, i22, i23, i24, i25, i26, i29⟩, iA⟩ := id hI
  refine V_iload_n dX4_isSheet_0 rfl ?_
  refine V_iconst dX4_isSheet_1 ?_
  refine V_aload_n dX4_isSheet_2 rfl ?_
  refine V_mg (f := 23) (z := M 23 0) dX4_isSheet_3 fg_RX4_86 rfl (by decide) hM rfl (fun r3 => ?_)
  refine V_iconst dX4_isSheet_6 ?_
  refine V_isub dX4_isSheet_7 ?_
  refine V_pS (as := [_, _, _]) dX4_isSheet_8 c_RX4_79 rfl (by decide) rfl (Nat.le_of_ble_eq_true rfl) (T_X4_in g v 0 ((M 23 0) - 1) (by omega) (by omega) (by omega)) ?_
  refine V_zret (by first | exact pI_01 _ | omega) dX4_isSheet_11 rfl ?_
  exact mret hM hF (congrArg pI (propext (by unfold isS; omega))) rfl
theorem T_X4_type (g : GP) (M : MS) (w : Int) (r_w : -2147483648 ≤ w ∧ w ≤ 2147483647) (hI : IM M) : TM g m_X4_type 2 [xI w] M (some (xI ((s_type M w).1))) ((s_type M w).2) := by
  refine TM.of (by decide) rfl (fun v hv => ?_) (Nat.le_of_ble_eq_true rfl) ?_
  · simp only [List.mem_cons, List.not_mem_nil, or_false] at hv
    subst hv; exact ⟨_, rfl⟩
  intro h0 h hM hF
  change V g m_X4_type 2 _ h 0 [xR 18, xI w] []
  obtain ⟨⟨i19, i20, i21, i22, i23, i24, i25, i26, i29⟩, iA⟩ := id hI
  refine V_aload_n dX4_type_0 rfl ?_
  refine V_iload_n dX4_type_1 rfl ?_
  refine V_iconst dX4_type_2 ?_
  refine V_bipush dX4_type_3 (by decide) ?_
  refine V_pS (as := [_, _, _]) dX4_type_5 c_RX4_79 rfl (by decide) rfl (Nat.le_of_ble_eq_true rfl) (T_X4_in g w 0 29 (by omega) (by omega) (by omega)) ?_
  refine V_ifb_ne (tgt := 15) dX4_type_8 (by decide) (fun q8 => ?_) (fun q8 => ?_)
  · refine V_aload_n dX4_type_15 rfl ?_
    refine V_mg (f := 19) (z := M 19 0) dX4_type_16 fg_RX4_89 rfl (by decide) hM rfl (fun r16 => ?_)
    refine V_bipush dX4_type_19 (by decide) ?_
    refine V_icmp_ne (tgt := 28) dX4_type_21 (by decide) (by omega) (by omega) (fun q21 => ?_) (fun q21 => ?_)
    · refine V_iconst dX4_type_28 ?_
      refine V_mp (f := 27) dX4_type_29 f_RX4_72 rfl (by decide) hM hF (by omega) (fun h hM hF => ?_)
      refine V_aload_n dX4_type_32 rfl ?_
      refine V_mg (f := 27) (z := 0) dX4_type_33 fg_RX4_72 rfl (by decide) hM (by simp [sT, mset]) (fun r33 => ?_)
      refine V_if_le (tgt := 41) dX4_type_36 (by decide) (by decide) (fun _ => ?_) (fun q36 => absurd q36 (by decide))
      refine V_aload_n dX4_type_41 rfl ?_
      refine V_mgA (f := 0) (a := 19) dX4_type_42 fg_RX4_7 rfl (by decide) hM rfl ?_
      refine V_aload_n dX4_type_45 rfl ?_
      refine V_mg (f := 19) (z := M 19 0) dX4_type_46 fg_RX4_89 rfl (by decide) hM (by simp [sT, mset]) (fun r46 => ?_)
      refine V_iload_n dX4_type_49 rfl ?_
      refine V_mis (f := 0) (n := 6) dX4_type_50 rfl rfl (by decide) rfl rfl hM hF (by omega) (by omega) (fun h hM hF => ?_)
      refine V_aload_n dX4_type_51 rfl ?_
      refine V_dup dX4_type_52 cat_R ?_
      refine V_mg (f := 19) (z := M 19 0) dX4_type_53 fg_RX4_89 rfl (by decide) hM (by simp [sT, mset]) (fun r53 => ?_)
      refine V_iconst dX4_type_56 ?_
      refine V_iadd dX4_type_57 ?_
      refine V_mp (f := 19) dX4_type_58 f_RX4_89 rfl (by decide) hM hF (by omega) (fun h hM hF => ?_)
      refine V_aload_n dX4_type_61 rfl ?_
      refine V_mg (f := 19) (z := ((M 19 0) + 1)) dX4_type_62 fg_RX4_89 rfl (by decide) hM (by simp [sT, mset]) (fun r62 => ?_)
      refine V_iret dX4_type_65 rfl ?_
      refine mret hM hF ?_ ?_ <;> (unfold s_type; (repeat' split) <;> first | rfl | (exfalso; (try simp only [isQ, isP, isS, sFrc, sTw] at *); omega))
    · refine V_iconst dX4_type_24 ?_
      refine V_goto (tgt := 29) dX4_type_25 (by decide) ?_
      refine V_mp (f := 27) dX4_type_29 f_RX4_72 rfl (by decide) hM hF (by omega) (fun h hM hF => ?_)
      refine V_aload_n dX4_type_32 rfl ?_
      refine V_mg (f := 27) (z := 2) dX4_type_33 fg_RX4_72 rfl (by decide) hM (by simp [sT, mset]) (fun r33 => ?_)
      refine V_if_le (tgt := 41) dX4_type_36 (by decide) (by decide) (fun q36 => absurd q36 (by decide)) (fun _ => ?_)
      refine V_iconst dX4_type_39 ?_
      refine V_iret dX4_type_40 rfl ?_
      refine mret hM hF ?_ ?_ <;> (unfold s_type; (repeat' split) <;> first | rfl | (exfalso; (try simp only [isQ, isP, isS, sFrc, sTw] at *); omega))
  · refine V_iconst dX4_type_11 ?_
    refine V_goto (tgt := 29) dX4_type_12 (by decide) ?_
    refine V_mp (f := 27) dX4_type_29 f_RX4_72 rfl (by decide) hM hF (by omega) (fun h hM hF => ?_)
    refine V_aload_n dX4_type_32 rfl ?_
    refine V_mg (f := 27) (z := 1) dX4_type_33 fg_RX4_72 rfl (by decide) hM (by simp [sT, mset]) (fun r33 => ?_)
    refine V_if_le (tgt := 41) dX4_type_36 (by decide) (by decide) (fun q36 => absurd q36 (by decide)) (fun _ => ?_)
    refine V_iconst dX4_type_39 ?_
    refine V_iret dX4_type_40 rfl ?_
    refine mret hM hF ?_ ?_ <;> (unfold s_type; (repeat' split) <;> first | rfl | (exfalso; (try simp only [isQ, isP, isS, sFrc, sTw] at *); omega))
theorem T_X4_erase (g : GP) (M : MS)    : TM g m_X4_erase 1 [] M (some (xI (M 19 0))) (mset (sT M 0) 19 0 0) := by
  refine TM.of (by decide) rfl (fun v hv => ?_) (Nat.le_of_ble_eq_true rfl) ?_
  · cases hv
  intro h0 h hM hF
  change V g m_X4_erase 1 _ h 0 [xR 18, xU] []
  refine V_aload_n dX4_erase_0 rfl ?_
  refine V_iconst dX4_erase_1 ?_
  refine V_mp (f := 27) dX4_erase_2 f_RX4_72 rfl (by decide) hM hF (by omega) (fun h hM hF => ?_)
  refine V_aload_n dX4_erase_5 rfl ?_
  refine V_mg (f := 19) (z := M 19 0) dX4_erase_6 fg_RX4_89 rfl (by decide) hM (by simp [sT, mset]) (fun r6 => ?_)
  refine V_istore_n (lc' := [_, _]) dX4_erase_9 (by decide) rfl ?_
  refine V_aload_n dX4_erase_10 rfl ?_
  refine V_iconst dX4_erase_11 ?_
  refine V_mp (f := 19) dX4_erase_12 f_RX4_89 rfl (by decide) hM hF (by omega) (fun h hM hF => ?_)
  refine V_iload_n dX4_erase_15 rfl ?_
  refine V_iret dX4_erase_16 rfl ?_
  exact mret hM hF rfl rfl
theorem T_X4_wrongQuestion (g : GP) (M : MS) (v : Int) (r_v : -2147483648 ≤ v ∧ v ≤ 2147483647) (hI : IM M) : TM g m_X4_wrongQuestion 3 [xI v] M (some (xI (tQ M v))) ((mset M 27 0 (tQ M v))) := by
  refine TM.of (by decide) rfl (fun v hv => ?_) (Nat.le_of_ble_eq_true rfl) ?_
  · simp only [List.mem_cons, List.not_mem_nil, or_false] at hv
    subst hv; exact ⟨_, rfl⟩
  intro h0 h hM hF
  change V g m_X4_wrongQuestion 3 _ h 0 [xR 18, xI v] []
  obtain ⟨⟨i19, i20, i21, i22, i23, i24, i25, i26, i29⟩, iA⟩ := id hI
  refine V_aload_n dX4_wrongQuestion_0 rfl ?_
  refine V_aload_n dX4_wrongQuestion_1 rfl ?_
  refine V_iload_n dX4_wrongQuestion_2 rfl ?_
  refine V_mC (as := [_]) dX4_wrongQuestion_3 c_RX4_95 rfl (by decide) rfl (Nat.le_of_ble_eq_true rfl) hM hF (T_X4_isQuestion g M v (by omega) hI) (fun h hM hF => ?_)
  refine V_ifb_eq (tgt := 13) dX4_wrongQuestion_6 (by decide) (fun q6 => ?_) (fun q6 => ?_)
  · refine V_iconst dX4_wrongQuestion_13 ?_
    refine V_mp (f := 27) dX4_wrongQuestion_14 f_RX4_72 rfl (by decide) hM hF (by omega) (fun h hM hF => ?_)
    refine V_aload_n dX4_wrongQuestion_17 rfl ?_
    refine V_mg (f := 27) (z := 1) dX4_wrongQuestion_18 fg_RX4_72 rfl (by decide) hM (by simp [sT, mset]) (fun r18 => ?_)
    refine V_iret dX4_wrongQuestion_21 rfl ?_
    exact mret hM hF (by unfold tQ; split <;> first | rfl | contradiction) (by unfold tQ; split <;> first | rfl | contradiction)
  · refine V_iconst dX4_wrongQuestion_9 ?_
    refine V_goto (tgt := 14) dX4_wrongQuestion_10 (by decide) ?_
    refine V_mp (f := 27) dX4_wrongQuestion_14 f_RX4_72 rfl (by decide) hM hF (by omega) (fun h hM hF => ?_)
    refine V_aload_n dX4_wrongQuestion_17 rfl ?_
    refine V_mg (f := 27) (z := 0) dX4_wrongQuestion_18 fg_RX4_72 rfl (by decide) hM (by simp [sT, mset]) (fun r18 => ?_)
    refine V_iret dX4_wrongQuestion_21 rfl ?_
    exact mret hM hF (by unfold tQ; split <;> first | rfl | contradiction) (by unfold tQ; split <;> first | rfl | contradiction)
theorem T_X4_wrongPlan (g : GP) (M : MS) (v : Int) (r_v : -2147483648 ≤ v ∧ v ≤ 2147483647) (hI : IM M) : TM g m_X4_wrongPlan 3 [xI v] M (some (xI (tP M v))) ((mset M 27 0 (tP M v))) := by
  refine TM.of (by decide) rfl (fun v hv => ?_) (Nat.le_of_ble_eq_true rfl) ?_
  · simp only [List.mem_cons, List.not_mem_nil, or_false] at hv
    subst hv; exact ⟨_, rfl⟩
  intro h0 h hM hF
  change V g m_X4_wrongPlan 3 _ h 0 [xR 18, xI v] []
  obtain ⟨⟨i19, i20, i21, i22, i23, i24, i25, i26, i29⟩, iA⟩ := id hI
  refine V_aload_n dX4_wrongPlan_0 rfl ?_
  refine V_aload_n dX4_wrongPlan_1 rfl ?_
  refine V_iload_n dX4_wrongPlan_2 rfl ?_
  refine V_mC (as := [_]) dX4_wrongPlan_3 c_RX4_136 rfl (by decide) rfl (Nat.le_of_ble_eq_true rfl) hM hF (T_X4_isPlan g M v (by omega) hI) (fun h hM hF => ?_)
  refine V_ifb_eq (tgt := 13) dX4_wrongPlan_6 (by decide) (fun q6 => ?_) (fun q6 => ?_)
  · refine V_iconst dX4_wrongPlan_13 ?_
    refine V_mp (f := 27) dX4_wrongPlan_14 f_RX4_72 rfl (by decide) hM hF (by omega) (fun h hM hF => ?_)
    refine V_aload_n dX4_wrongPlan_17 rfl ?_
    refine V_mg (f := 27) (z := 1) dX4_wrongPlan_18 fg_RX4_72 rfl (by decide) hM (by simp [sT, mset]) (fun r18 => ?_)
    refine V_iret dX4_wrongPlan_21 rfl ?_
    exact mret hM hF (by unfold tP; split <;> first | rfl | contradiction) (by unfold tP; split <;> first | rfl | contradiction)
  · refine V_iconst dX4_wrongPlan_9 ?_
    refine V_goto (tgt := 14) dX4_wrongPlan_10 (by decide) ?_
    refine V_mp (f := 27) dX4_wrongPlan_14 f_RX4_72 rfl (by decide) hM hF (by omega) (fun h hM hF => ?_)
    refine V_aload_n dX4_wrongPlan_17 rfl ?_
    refine V_mg (f := 27) (z := 0) dX4_wrongPlan_18 fg_RX4_72 rfl (by decide) hM (by simp [sT, mset]) (fun r18 => ?_)
    refine V_iret dX4_wrongPlan_21 rfl ?_
    exact mret hM hF (by unfold tP; split <;> first | rfl | contradiction) (by unfold tP; split <;> first | rfl | contradiction)
theorem T_X4_wrongSheet (g : GP) (M : MS) (v : Int) (r_v : -2147483648 ≤ v ∧ v ≤ 2147483647) (hI : IM M) : TM g m_X4_wrongSheet 3 [xI v] M (some (xI (tS M v))) ((mset M 27 0 (tS M v))) := by
  refine TM.of (by decide) rfl (fun v hv => ?_) (Nat.le_of_ble_eq_true rfl) ?_
  · simp only [List.mem_cons, List.not_mem_nil, or_false] at hv
    subst hv; exact ⟨_, rfl⟩
  intro h0 h hM hF
  change V g m_X4_wrongSheet 3 _ h 0 [xR 18, xI v] []
  obtain ⟨⟨i19, i20, i21, i22, i23, i24, i25, i26, i29⟩, iA⟩ := id hI
  refine V_aload_n dX4_wrongSheet_0 rfl ?_
  refine V_aload_n dX4_wrongSheet_1 rfl ?_
  refine V_iload_n dX4_wrongSheet_2 rfl ?_
  refine V_mC (as := [_]) dX4_wrongSheet_3 c_RX4_176 rfl (by decide) rfl (Nat.le_of_ble_eq_true rfl) hM hF (T_X4_isSheet g M v (by omega) hI) (fun h hM hF => ?_)
  refine V_ifb_eq (tgt := 13) dX4_wrongSheet_6 (by decide) (fun q6 => ?_) (fun q6 => ?_)
  · refine V_iconst dX4_wrongSheet_13 ?_
    refine V_mp (f := 27) dX4_wrongSheet_14 f_RX4_72 rfl (by decide) hM hF (by omega) (fun h hM hF => ?_)
    refine V_aload_n dX4_wrongSheet_17 rfl ?_
    refine V_mg (f := 27) (z := 1) dX4_wrongSheet_18 fg_RX4_72 rfl (by decide) hM (by simp [sT, mset]) (fun r18 => ?_)
    refine V_iret dX4_wrongSheet_21 rfl ?_
    exact mret hM hF (by unfold tS; split <;> first | rfl | contradiction) (by unfold tS; split <;> first | rfl | contradiction)
  · refine V_iconst dX4_wrongSheet_9 ?_
    refine V_goto (tgt := 14) dX4_wrongSheet_10 (by decide) ?_
    refine V_mp (f := 27) dX4_wrongSheet_14 f_RX4_72 rfl (by decide) hM hF (by omega) (fun h hM hF => ?_)
    refine V_aload_n dX4_wrongSheet_17 rfl ?_
    refine V_mg (f := 27) (z := 0) dX4_wrongSheet_18 fg_RX4_72 rfl (by decide) hM (by simp [sT, mset]) (fun r18 => ?_)
    refine V_iret dX4_wrongSheet_21 rfl ?_
    exact mret hM hF (by unfold tS; split <;> first | rfl | contradiction) (by unfold tS; split <;> first | rfl | contradiction)
theorem T_X4_week (g : GP) (M : MS)   (hI : IM M) : TM g m_X4_week 2 [] M (some (xI (M 24 0))) (sT M 0) := by
  refine TM.of (by decide) rfl (fun v hv => ?_) (Nat.le_of_ble_eq_true rfl) ?_
  · cases hv
  intro h0 h hM hF
  change V g m_X4_week 2 _ h 0 [xR 18] []
  obtain ⟨⟨i19, i20, i21, i22, i23, i24, i25, i26, i29⟩, iA⟩ := id hI
  refine V_aload_n dX4_week_0 rfl ?_
  refine V_aload_n dX4_week_1 rfl ?_
  refine V_mg (f := 24) (z := M 24 0) dX4_week_2 fg_RX4_123 rfl (by decide) hM rfl (fun r2 => ?_)
  refine V_mC (as := [_]) dX4_week_5 c_RX4_126 rfl (by decide) rfl (Nat.le_of_ble_eq_true rfl) hM hF (T_X4_plain g M (M 24 0) (by omega)) (fun h hM hF => ?_)
  refine V_iret dX4_week_8 rfl ?_
  exact mret hM hF rfl rfl
theorem T_X4_answers (g : GP) (M : MS)   (hI : IM M) : TM g m_X4_answers 2 [] M (some (xI (M 25 0))) (sT M 0) := by
  refine TM.of (by decide) rfl (fun v hv => ?_) (Nat.le_of_ble_eq_true rfl) ?_
  · cases hv
  intro h0 h hM hF
  change V g m_X4_answers 2 _ h 0 [xR 18] []
  obtain ⟨⟨i19, i20, i21, i22, i23, i24, i25, i26, i29⟩, iA⟩ := id hI
  refine V_aload_n dX4_answers_0 rfl ?_
  refine V_aload_n dX4_answers_1 rfl ?_
  refine V_mg (f := 25) (z := M 25 0) dX4_answers_2 fg_RX4_186 rfl (by decide) hM rfl (fun r2 => ?_)
  refine V_mC (as := [_]) dX4_answers_5 c_RX4_126 rfl (by decide) rfl (Nat.le_of_ble_eq_true rfl) hM hF (T_X4_plain g M (M 25 0) (by omega)) (fun h hM hF => ?_)
  refine V_iret dX4_answers_8 rfl ?_
  exact mret hM hF rfl rfl
theorem T_X4_thrown (g : GP) (M : MS)    : TM g m_X4_thrown 1 [] M (some (xI (M 27 0))) (M) := by
  refine TM.of (by decide) rfl (fun v hv => ?_) (Nat.le_of_ble_eq_true rfl) ?_
  · cases hv
  intro h0 h hM hF
  change V g m_X4_thrown 1 _ h 0 [xR 18] []
  refine V_aload_n dX4_thrown_0 rfl ?_
  refine V_mg (f := 27) (z := M 27 0) dX4_thrown_1 fg_RX4_72 rfl (by decide) hM rfl (fun r1 => ?_)
  refine V_iret dX4_thrown_4 rfl ?_
  exact mret hM hF rfl rfl
theorem T_X4_areTwin (g : GP) (M : MS) (a : Int) (b : Int) (r_a : -2147483648 ≤ a ∧ a ≤ 2147483647) (r_b : -2147483648 ≤ b ∧ b ≤ 2147483647) (h1 : 0 ≤ a ∧ a ≤ 39) (h2 : 0 ≤ b ∧ b ≤ 39) : TM g m_X4_areTwin 1 [xI a, xI b] M (some (xI (pI (sTw M a b)))) (M) := by
  refine TM.of (by decide) rfl (fun v hv => ?_) (Nat.le_of_ble_eq_true rfl) ?_
  · simp only [List.mem_cons, List.not_mem_nil, or_false] at hv
    rcases hv with rfl | rfl <;> exact ⟨_, rfl⟩
  intro h0 h hM hF
  change V g m_X4_areTwin 1 _ h 0 [xR 18, xI a, xI b] []
  refine V_iload_n dX4_areTwin_0 rfl ?_
  refine V_iload_n dX4_areTwin_1 rfl ?_
  refine V_icmp_eq (tgt := 24) dX4_areTwin_2 (by decide) (by omega) (by omega) (fun q2 => ?_) (fun q2 => ?_)
  · refine V_iconst dX4_areTwin_24 ?_
    refine V_zret (by first | exact pI_01 _ | omega) dX4_areTwin_25 rfl ?_
    refine mret hM hF (pI_f (by omega)).symm rfl
  · refine V_aload_n dX4_areTwin_5 rfl ?_
    refine V_mgA (f := 4) (a := 23) dX4_areTwin_6 fg_RX4_22 rfl (by decide) hM rfl ?_
    refine V_iload_n dX4_areTwin_9 rfl ?_
    refine V_mi (f := 4) (n := 40) (w := M 4 a) dX4_areTwin_10 rfl rfl (by decide) rfl rfl hM (by omega) rfl (fun r10 => ?_)
    refine V_aload_n dX4_areTwin_11 rfl ?_
    refine V_mgA (f := 4) (a := 23) dX4_areTwin_12 fg_RX4_22 rfl (by decide) hM rfl ?_
    refine V_iload_n dX4_areTwin_15 rfl ?_
    refine V_mi (f := 4) (n := 40) (w := M 4 b) dX4_areTwin_16 rfl rfl (by decide) rfl rfl hM (by omega) rfl (fun r16 => ?_)
    refine V_icmp_ne (tgt := 24) dX4_areTwin_17 (by decide) (by omega) (by omega) (fun q17 => ?_) (fun q17 => ?_)
    · refine V_iconst dX4_areTwin_24 ?_
      refine V_zret (by first | exact pI_01 _ | omega) dX4_areTwin_25 rfl ?_
      refine mret hM hF (pI_f (by omega)).symm rfl
    · refine V_iconst dX4_areTwin_20 ?_
      refine V_goto (tgt := 25) dX4_areTwin_21 (by decide) ?_
      refine V_zret (by first | exact pI_01 _ | omega) dX4_areTwin_25 rfl ?_
      refine mret hM hF (pI_t (by omega)).symm rfl
theorem T_X4_areTwins (g : GP) (M : MS) (a : Int) (b : Int) (r_a : -2147483648 ≤ a ∧ a ≤ 2147483647) (r_b : -2147483648 ≤ b ∧ b ≤ 2147483647) (hI : IM M) : TM g m_X4_areTwins 3 [xI a, xI b] M (some (xI (pI (isQ M a ∧ isQ M b ∧ sTw M a b)))) ((mset M 27 0 (tQQ M a b))) := by
  refine TM.of (by decide) rfl (fun v hv => ?_) (Nat.le_of_ble_eq_true rfl) ?_
  · simp only [List.mem_cons, List.not_mem_nil, or_false] at hv
    rcases hv with rfl | rfl <;> exact ⟨_, rfl⟩
  intro h0 h hM hF
  change V g m_X4_areTwins 3 _ h 0 [xR 18, xI a, xI b] []
  obtain ⟨⟨i19, i20, i21, i22, i23, i24, i25, i26, i29⟩, iA⟩ := id hI
  refine V_aload_n dX4_areTwins_0 rfl ?_
  refine V_aload_n dX4_areTwins_1 rfl ?_
  refine V_iload_n dX4_areTwins_2 rfl ?_
  refine V_mC (as := [_]) dX4_areTwins_3 c_RX4_95 rfl (by decide) rfl (Nat.le_of_ble_eq_true rfl) hM hF (T_X4_isQuestion g M a (by omega) hI) (fun h hM hF => ?_)
  refine V_ifb_eq (tgt := 21) dX4_areTwins_6 (by decide) (fun q6 => ?_) (fun q6 => ?_)
  · refine V_iconst dX4_areTwins_21 ?_
    refine V_mp (f := 27) dX4_areTwins_22 f_RX4_72 rfl (by decide) hM hF (by omega) (fun h hM hF => ?_)
    refine V_aload_n dX4_areTwins_25 rfl ?_
    refine V_mg (f := 27) (z := 1) dX4_areTwins_26 fg_RX4_72 rfl (by decide) hM (by simp [sT, mset]) (fun r26 => ?_)
    refine V_if_ne (tgt := 45) dX4_areTwins_29 (by decide) (by decide) (fun _ => ?_) (fun q29 => absurd q29 (by decide))
    refine V_iconst dX4_areTwins_45 ?_
    refine V_zret (by first | exact pI_01 _ | omega) dX4_areTwins_46 rfl ?_
    refine mret hM hF (pI_f (by simp only [isQ, sTw] at *; omega)).symm (by unfold tQQ; split <;> first | rfl | (exfalso; simp only [isQ, sTw] at *; omega))
  · refine V_aload_n dX4_areTwins_9 rfl ?_
    refine V_iload_n dX4_areTwins_10 rfl ?_
    refine V_mC (as := [_]) dX4_areTwins_11 c_RX4_95 rfl (by decide) rfl (Nat.le_of_ble_eq_true rfl) hM hF (T_X4_isQuestion g M b (by omega) hI) (fun h hM hF => ?_)
    refine V_ifb_eq (tgt := 21) dX4_areTwins_14 (by decide) (fun q14 => ?_) (fun q14 => ?_)
    · refine V_iconst dX4_areTwins_21 ?_
      refine V_mp (f := 27) dX4_areTwins_22 f_RX4_72 rfl (by decide) hM hF (by omega) (fun h hM hF => ?_)
      refine V_aload_n dX4_areTwins_25 rfl ?_
      refine V_mg (f := 27) (z := 1) dX4_areTwins_26 fg_RX4_72 rfl (by decide) hM (by simp [sT, mset]) (fun r26 => ?_)
      refine V_if_ne (tgt := 45) dX4_areTwins_29 (by decide) (by decide) (fun _ => ?_) (fun q29 => absurd q29 (by decide))
      refine V_iconst dX4_areTwins_45 ?_
      refine V_zret (by first | exact pI_01 _ | omega) dX4_areTwins_46 rfl ?_
      refine mret hM hF (pI_f (by simp only [isQ, sTw] at *; omega)).symm (by unfold tQQ; split <;> first | rfl | (exfalso; simp only [isQ, sTw] at *; omega))
    · refine V_iconst dX4_areTwins_17 ?_
      refine V_goto (tgt := 22) dX4_areTwins_18 (by decide) ?_
      refine V_mp (f := 27) dX4_areTwins_22 f_RX4_72 rfl (by decide) hM hF (by omega) (fun h hM hF => ?_)
      refine V_aload_n dX4_areTwins_25 rfl ?_
      refine V_mg (f := 27) (z := 0) dX4_areTwins_26 fg_RX4_72 rfl (by decide) hM (by simp [sT, mset]) (fun r26 => ?_)
      refine V_if_ne (tgt := 45) dX4_areTwins_29 (by decide) (by decide) (fun q29 => absurd q29 (by decide)) (fun _ => ?_)
      refine V_aload_n dX4_areTwins_32 rfl ?_
      refine V_iload_n dX4_areTwins_33 rfl ?_
      refine V_iload_n dX4_areTwins_34 rfl ?_
      refine V_mC (as := [_, _]) dX4_areTwins_35 c_RX4_99 rfl (by decide) rfl (Nat.le_of_ble_eq_true rfl) hM hF (show TM g m_X4_areTwin _ _ (mset M 27 0 0) (some (xI (pI (sTw M a b)))) (mset M 27 0 0) from T_X4_areTwin g (mset M 27 0 0) a b (by omega) (by omega) (by omega) (by omega)) (fun h hM hF => ?_)
      refine V_ifb_eq (tgt := 45) dX4_areTwins_38 (by decide) (fun q38 => ?_) (fun q38 => ?_)
      · refine V_iconst dX4_areTwins_45 ?_
        refine V_zret (by first | exact pI_01 _ | omega) dX4_areTwins_46 rfl ?_
        refine mret hM hF (pI_f (by simp only [isQ, sTw] at *; omega)).symm (by unfold tQQ; split <;> first | rfl | (exfalso; simp only [isQ, sTw] at *; omega))
      · refine V_iconst dX4_areTwins_41 ?_
        refine V_goto (tgt := 46) dX4_areTwins_42 (by decide) ?_
        refine V_zret (by first | exact pI_01 _ | omega) dX4_areTwins_46 rfl ?_
        refine mret hM hF (pI_t (by simp only [isQ, sTw] at *; omega)).symm (by unfold tQQ; split <;> first | rfl | (exfalso; simp only [isQ, sTw] at *; omega))
theorem T_X4_wordAt (g : GP) (M : MS) (q : Int) (i : Int) (r_q : -2147483648 ≤ q ∧ q ≤ 2147483647) (r_i : -2147483648 ≤ i ∧ i ≤ 2147483647) (hI : IM M) : TM g m_X4_wordAt 4 [xI q, xI i] M (some (xI ((s_wordAt M q i).1))) ((s_wordAt M q i).2) := by
  refine TM.of (by decide) rfl (fun v hv => ?_) (Nat.le_of_ble_eq_true rfl) ?_
  · simp only [List.mem_cons, List.not_mem_nil, or_false] at hv
    rcases hv with rfl | rfl <;> exact ⟨_, rfl⟩
  intro h0 h hM hF
  change V g m_X4_wordAt 4 _ h 0 [xR 18, xI q, xI i] []
  obtain ⟨⟨i19, i20, i21, i22, i23, i24, i25, i26, i29⟩, iA⟩ := id hI
  refine V_aload_n dX4_wordAt_0 rfl ?_
  refine V_iload_n dX4_wordAt_1 rfl ?_
  refine V_mC (as := [_]) dX4_wordAt_2 c_RX4_103 rfl (by decide) rfl (Nat.le_of_ble_eq_true rfl) hM hF (T_X4_wrongQuestion g M q (by omega) hI) (fun h hM hF => ?_)
  rcases tQ_c M q with ⟨et, et1, et2⟩ | ⟨et, et1⟩
  · rw [et] at hM ⊢
    refine V_if_ne (tgt := 29) dX4_wordAt_5 (by decide) (by decide) (fun q5 => absurd q5 (by decide)) (fun _ => ?_)
    refine V_iload_n dX4_wordAt_8 rfl ?_
    refine V_iconst dX4_wordAt_9 ?_
    refine V_aload_n dX4_wordAt_10 rfl ?_
    refine V_mgA (f := 2) (a := 21) dX4_wordAt_11 fg_RX4_16 rfl (by decide) hM rfl ?_
    refine V_iload_n dX4_wordAt_14 rfl ?_
    refine V_mi (f := 2) (n := 40) (w := M 2 q) dX4_wordAt_15 rfl rfl (by decide) rfl rfl hM (by omega) (by simp [sT, mset]) (fun r15 => ?_)
    have b15 := hI.a2 q
    refine V_iconst dX4_wordAt_16 ?_
    refine V_isub dX4_wordAt_17 ?_
    refine V_pS (as := [_, _, _]) dX4_wordAt_18 c_RX4_79 rfl (by decide) rfl (Nat.le_of_ble_eq_true rfl) (T_X4_in g i 0 ((M 2 q) - 1) (by omega) (by omega) (by omega)) ?_
    refine V_ifb_ne (tgt := 29) dX4_wordAt_21 (by decide) (fun q21 => ?_) (fun q21 => ?_)
    · refine V_aload_n dX4_wordAt_29 rfl ?_
      refine V_mg (f := 27) (z := 0) dX4_wordAt_30 fg_RX4_72 rfl (by decide) hM (by simp [sT, mset]) (fun r30 => ?_)
      refine V_if_le (tgt := 40) dX4_wordAt_33 (by decide) (by decide) (fun _ => ?_) (fun q33 => absurd q33 (by decide))
      refine V_aload_n dX4_wordAt_40 rfl ?_
      refine V_mgA (f := 1) (a := 20) dX4_wordAt_41 fg_RX4_13 rfl (by decide) hM rfl ?_
      refine V_bipush dX4_wordAt_44 (by decide) ?_
      refine V_iload_n dX4_wordAt_46 rfl ?_
      refine V_imul dX4_wordAt_47 ?_
      refine V_iload_n dX4_wordAt_48 rfl ?_
      refine V_iadd dX4_wordAt_49 ?_
      refine V_mi (f := 1) (n := 240) (w := M 1 ((6 * q) + i)) dX4_wordAt_50 rfl rfl (by decide) rfl rfl hM (by omega) (by simp [sT, mset]) (fun r50 => ?_)
      refine V_iret dX4_wordAt_51 rfl ?_
      refine mret hM hF ?_ ?_ <;> (unfold s_wordAt; (repeat' split) <;> first | rfl | (exfalso; (try simp only [isQ, isP, isS, sFrc, sTw] at *); omega))
    · refine V_aload_n dX4_wordAt_24 rfl ?_
      refine V_iconst dX4_wordAt_25 ?_
      refine V_mp (f := 27) dX4_wordAt_26 f_RX4_72 rfl (by decide) hM hF (by omega) (fun h hM hF => ?_)
      refine V_aload_n dX4_wordAt_29 rfl ?_
      refine V_mg (f := 27) (z := 2) dX4_wordAt_30 fg_RX4_72 rfl (by decide) hM (by simp [sT, mset]) (fun r30 => ?_)
      refine V_if_le (tgt := 40) dX4_wordAt_33 (by decide) (by decide) (fun q33 => absurd q33 (by decide)) (fun _ => ?_)
      refine V_iconst dX4_wordAt_36 ?_
      refine V_goto (tgt := 51) dX4_wordAt_37 (by decide) ?_
      refine V_iret dX4_wordAt_51 rfl ?_
      refine mret hM hF ?_ ?_ <;> (unfold s_wordAt; (repeat' split) <;> first | rfl | (exfalso; (try simp only [isQ, isP, isS, sFrc, sTw] at *); omega))
  · rw [et] at hM ⊢
    refine V_if_ne (tgt := 29) dX4_wordAt_5 (by decide) (by decide) (fun _ => ?_) (fun q5 => absurd q5 (by decide))
    refine V_aload_n dX4_wordAt_29 rfl ?_
    refine V_mg (f := 27) (z := 1) dX4_wordAt_30 fg_RX4_72 rfl (by decide) hM (by simp [sT, mset]) (fun r30 => ?_)
    refine V_if_le (tgt := 40) dX4_wordAt_33 (by decide) (by decide) (fun q33 => absurd q33 (by decide)) (fun _ => ?_)
    refine V_iconst dX4_wordAt_36 ?_
    refine V_goto (tgt := 51) dX4_wordAt_37 (by decide) ?_
    refine V_iret dX4_wordAt_51 rfl ?_
    refine mret hM hF ?_ ?_ <;> (unfold s_wordAt; (repeat' split) <;> first | rfl | (exfalso; (try simp only [isQ, isP, isS, sFrc, sTw] at *); omega))
theorem T_X4_level (g : GP) (M : MS) (q : Int) (r_q : -2147483648 ≤ q ∧ q ≤ 2147483647) (hI : IM M) : TM g m_X4_level 4 [xI q] M (some (xI ((s_level M q).1))) ((s_level M q).2) := by
  refine TM.of (by decide) rfl (fun v hv => ?_) (Nat.le_of_ble_eq_true rfl) ?_
  · simp only [List.mem_cons, List.not_mem_nil, or_false] at hv
    subst hv; exact ⟨_, rfl⟩
  intro h0 h hM hF
  change V g m_X4_level 4 _ h 0 [xR 18, xI q] []
  obtain ⟨⟨i19, i20, i21, i22, i23, i24, i25, i26, i29⟩, iA⟩ := id hI
  refine V_aload_n dX4_level_0 rfl ?_
  refine V_iload_n dX4_level_1 rfl ?_
  refine V_mC (as := [_]) dX4_level_2 c_RX4_103 rfl (by decide) rfl (Nat.le_of_ble_eq_true rfl) hM hF (T_X4_wrongQuestion g M q (by omega) hI) (fun h hM hF => ?_)
  rcases tQ_c M q with ⟨et, et1, et2⟩ | ⟨et, et1⟩
  · rw [et] at hM ⊢
    refine V_if_le (tgt := 12) dX4_level_5 (by decide) (by decide) (fun _ => ?_) (fun q5 => absurd q5 (by decide))
    refine V_aload_n dX4_level_12 rfl ?_
    refine V_mgA (f := 3) (a := 22) dX4_level_13 fg_RX4_19 rfl (by decide) hM rfl ?_
    refine V_iload_n dX4_level_16 rfl ?_
    refine V_mi (f := 3) (n := 40) (w := M 3 q) dX4_level_17 rfl rfl (by decide) rfl rfl hM (by omega) (by simp [sT, mset]) (fun r17 => ?_)
    have b17 := hI.a3 q
    refine V_iret dX4_level_18 rfl ?_
    refine mret hM hF ?_ ?_ <;> (unfold s_level; (repeat' split) <;> first | rfl | (exfalso; (try simp only [isQ, isP, isS, sFrc, sTw] at *); omega))
  · rw [et] at hM ⊢
    refine V_if_le (tgt := 12) dX4_level_5 (by decide) (by decide) (fun q5 => absurd q5 (by decide)) (fun _ => ?_)
    refine V_iconst dX4_level_8 ?_
    refine V_goto (tgt := 18) dX4_level_9 (by decide) ?_
    refine V_iret dX4_level_18 rfl ?_
    refine mret hM hF ?_ ?_ <;> (unfold s_level; (repeat' split) <;> first | rfl | (exfalso; (try simp only [isQ, isP, isS, sFrc, sTw] at *); omega))
theorem T_X4_levelAnew (g : GP) (M : MS) (q : Int) (r_q : -2147483648 ≤ q ∧ q ≤ 2147483647) (hI : IM M) : TM g m_X4_levelAnew 4 [xI q] M (some (xI ((s_level M q).1))) ((s_level M q).2) := by
  refine TM.of (by decide) rfl (fun v hv => ?_) (Nat.le_of_ble_eq_true rfl) ?_
  · simp only [List.mem_cons, List.not_mem_nil, or_false] at hv
    subst hv; exact ⟨_, rfl⟩
  intro h0 h hM hF
  change V g m_X4_levelAnew 4 _ h 0 [xR 18, xI q] []
  obtain ⟨⟨i19, i20, i21, i22, i23, i24, i25, i26, i29⟩, iA⟩ := id hI
  refine V_aload_n dX4_levelAnew_0 rfl ?_
  refine V_iload_n dX4_levelAnew_1 rfl ?_
  refine V_mC (as := [_]) dX4_levelAnew_2 c_RX4_103 rfl (by decide) rfl (Nat.le_of_ble_eq_true rfl) hM hF (T_X4_wrongQuestion g M q (by omega) hI) (fun h hM hF => ?_)
  rcases tQ_c M q with ⟨et, et1, et2⟩ | ⟨et, et1⟩
  · rw [et] at hM ⊢
    refine V_if_le (tgt := 12) dX4_levelAnew_5 (by decide) (by decide) (fun _ => ?_) (fun q5 => absurd q5 (by decide))
    refine V_aload_n dX4_levelAnew_12 rfl ?_
    refine V_mgA (f := 3) (a := 22) dX4_levelAnew_13 fg_RX4_19 rfl (by decide) hM rfl ?_
    refine V_iload_n dX4_levelAnew_16 rfl ?_
    refine V_mi (f := 3) (n := 40) (w := M 3 q) dX4_levelAnew_17 rfl rfl (by decide) rfl rfl hM (by omega) (by simp [sT, mset]) (fun r17 => ?_)
    have b17 := hI.a3 q
    refine V_iret dX4_levelAnew_18 rfl ?_
    refine mret hM hF ?_ ?_ <;> (unfold s_level; (repeat' split) <;> first | rfl | (exfalso; (try simp only [isQ, isP, isS, sFrc, sTw] at *); omega))
  · rw [et] at hM ⊢
    refine V_if_le (tgt := 12) dX4_levelAnew_5 (by decide) (by decide) (fun q5 => absurd q5 (by decide)) (fun _ => ?_)
    refine V_iconst dX4_levelAnew_8 ?_
    refine V_goto (tgt := 18) dX4_levelAnew_9 (by decide) ?_
    refine V_iret dX4_levelAnew_18 rfl ?_
    refine mret hM hF ?_ ?_ <;> (unfold s_level; (repeat' split) <;> first | rfl | (exfalso; (try simp only [isQ, isP, isS, sFrc, sTw] at *); omega))
theorem T_X4_kindOf (g : GP) (M : MS) (q : Int) (r_q : -2147483648 ≤ q ∧ q ≤ 2147483647) (hI : IM M) (h1 : 0 ≤ q ∧ q ≤ 39) : TM g m_X4_kindOf 1 [xI q] M (some (xI (sKd (M 3 q)))) (M) := by
  refine TM.of (by decide) rfl (fun v hv => ?_) (Nat.le_of_ble_eq_true rfl) ?_
  · simp only [List.mem_cons, List.not_mem_nil, or_false] at hv
    subst hv; exact ⟨_, rfl⟩
  intro h0 h hM hF
  change V g m_X4_kindOf 1 _ h 0 [xR 18, xI q] []
  obtain ⟨⟨i19, i20, i21, i22, i23, i24, i25, i26, i29⟩, iA⟩ := id hI
  refine V_aload_n dX4_kindOf_0 rfl ?_
  refine V_mgA (f := 3) (a := 22) dX4_kindOf_1 fg_RX4_19 rfl (by decide) hM rfl ?_
  refine V_iload_n dX4_kindOf_4 rfl ?_
  refine V_mi (f := 3) (n := 40) (w := M 3 q) dX4_kindOf_5 rfl rfl (by decide) rfl rfl hM (by omega) rfl (fun r5 => ?_)
  have b5 := hI.a3 q
  refine V_bipush dX4_kindOf_6 (by decide) ?_
  refine V_icmp_ge (tgt := 16) dX4_kindOf_8 (by decide) (by omega) (by omega) (fun q8 => ?_) (fun q8 => ?_)
  · refine V_aload_n dX4_kindOf_16 rfl ?_
    refine V_mgA (f := 3) (a := 22) dX4_kindOf_17 fg_RX4_19 rfl (by decide) hM rfl ?_
    refine V_iload_n dX4_kindOf_20 rfl ?_
    refine V_mi (f := 3) (n := 40) (w := M 3 q) dX4_kindOf_21 rfl rfl (by decide) rfl rfl hM (by omega) rfl (fun r21 => ?_)
    have b21 := hI.a3 q
    refine V_bipush dX4_kindOf_22 (by decide) ?_
    refine V_icmp_ge (tgt := 32) dX4_kindOf_24 (by decide) (by omega) (by omega) (fun q24 => ?_) (fun q24 => ?_)
    · refine V_bipush dX4_kindOf_32 (by decide) ?_
      refine V_cret (by omega) dX4_kindOf_34 rfl ?_
      refine mret hM hF ?_ rfl <;> (unfold sKd; (repeat' split) <;> first | rfl | (exfalso; omega))
    · refine V_bipush dX4_kindOf_27 (by decide) ?_
      refine V_goto (tgt := 34) dX4_kindOf_29 (by decide) ?_
      refine V_cret (by omega) dX4_kindOf_34 rfl ?_
      refine mret hM hF ?_ rfl <;> (unfold sKd; (repeat' split) <;> first | rfl | (exfalso; omega))
  · refine V_bipush dX4_kindOf_11 (by decide) ?_
    refine V_goto (tgt := 34) dX4_kindOf_13 (by decide) ?_
    refine V_cret (by omega) dX4_kindOf_34 rfl ?_
    refine mret hM hF ?_ rfl <;> (unfold sKd; (repeat' split) <;> first | rfl | (exfalso; omega))
theorem T_X4_kind (g : GP) (M : MS) (q : Int) (r_q : -2147483648 ≤ q ∧ q ≤ 2147483647) (hI : IM M) : TM g m_X4_kind 4 [xI q] M (some (xI ((s_kind M q).1))) ((s_kind M q).2) := by
  refine TM.of (by decide) rfl (fun v hv => ?_) (Nat.le_of_ble_eq_true rfl) ?_
  · simp only [List.mem_cons, List.not_mem_nil, or_false] at hv
    subst hv; exact ⟨_, rfl⟩
  intro h0 h hM hF
  change V g m_X4_kind 4 _ h 0 [xR 18, xI q] []
  obtain ⟨⟨i19, i20, i21, i22, i23, i24, i25, i26, i29⟩, iA⟩ := id hI
  refine V_aload_n dX4_kind_0 rfl ?_
  refine V_iload_n dX4_kind_1 rfl ?_
  refine V_mC (as := [_]) dX4_kind_2 c_RX4_103 rfl (by decide) rfl (Nat.le_of_ble_eq_true rfl) hM hF (T_X4_wrongQuestion g M q (by omega) hI) (fun h hM hF => ?_)
  rcases tQ_c M q with ⟨et, et1, et2⟩ | ⟨et, et1⟩
  · rw [et] at hM ⊢
    refine V_if_le (tgt := 13) dX4_kind_5 (by decide) (by decide) (fun _ => ?_) (fun q5 => absurd q5 (by decide))
    refine V_aload_n dX4_kind_13 rfl ?_
    refine V_iload_n dX4_kind_14 rfl ?_
    refine V_mC (as := [_]) dX4_kind_15 c_RX4_107 rfl (by decide) rfl (Nat.le_of_ble_eq_true rfl) hM hF (show TM g m_X4_kindOf _ _ (mset M 27 0 0) (some (xI (sKd (M 3 q)))) (mset M 27 0 0) from T_X4_kindOf g (mset M 27 0 0) q (by omega) hI (by omega)) (fun h hM hF => ?_)
    have t15 := sKd_r (M 3 q)
    refine V_cret (by omega) dX4_kind_18 rfl ?_
    refine mret hM hF ?_ ?_ <;> (unfold s_kind; (repeat' split) <;> first | rfl | (exfalso; (try simp only [isQ, isP, isS, sFrc, sTw] at *); omega))
  · rw [et] at hM ⊢
    refine V_if_le (tgt := 13) dX4_kind_5 (by decide) (by decide) (fun q5 => absurd q5 (by decide)) (fun _ => ?_)
    refine V_bipush dX4_kind_8 (by decide) ?_
    refine V_goto (tgt := 18) dX4_kind_10 (by decide) ?_
    refine V_cret (by omega) dX4_kind_18 rfl ?_
    refine mret hM hF ?_ ?_ <;> (unfold s_kind; (repeat' split) <;> first | rfl | (exfalso; (try simp only [isQ, isP, isS, sFrc, sTw] at *); omega))
theorem T_X4_isTyped (g : GP) (M : MS) (w : Int) (r_w : -2147483648 ≤ w ∧ w ≤ 2147483647) (hI : IM M) : TM g m_X4_isTyped 1 [xI w] M (some (xI (pI (sTyped M w)))) (M) := by
  refine TM.of (by decide) rfl (fun v hv => ?_) (Nat.le_of_ble_eq_true rfl) ?_
  · simp only [List.mem_cons, List.not_mem_nil, or_false] at hv
    subst hv; exact ⟨_, rfl⟩
  intro h0 h hM hF
  change V g m_X4_isTyped 1 _ h 0 [xR 18, xI w, xU] []
  obtain ⟨⟨i19, i20, i21, i22, i23, i24, i25, i26, i29⟩, iA⟩ := id hI
  refine V_iconst dX4_isTyped_0 ?_
  refine V_istore_n (lc' := [_, _, _]) dX4_isTyped_1 (by decide) rfl ?_
  have lp2 : ∀ k2 : Int, (0 ≤ k2 ∧ k2 ≤ M 19 0 ∧ ∀ j : Int, 0 ≤ j → j < k2 → M 0 j ≠ w) → ∀ h, MR h M → FR h0 h → V g m_X4_isTyped 1 (Qm h0 (some (xI (pI (sTyped M w)))) (M)) h 2 [xR 18, xI w, xI k2] [] := by
    refine lp_up (M 19 0) (fun k2 ih2 => ?_)
    intro hk h hM hF
    obtain ⟨k2l, k2u, k2A⟩ := hk
    refine V_iload_n dX4_isTyped_2 rfl ?_
    refine V_aload_n dX4_isTyped_3 rfl ?_
    refine V_mg (f := 19) (z := M 19 0) dX4_isTyped_4 fg_RX4_89 rfl (by decide) hM rfl (fun r4 => ?_)
    refine V_icmp_ge (tgt := 28) dX4_isTyped_7 (by decide) (by omega) (by omega) (fun q7 => ?_) (fun q7 => ?_)
    · refine V_iconst dX4_isTyped_28 ?_
      refine V_zret (by first | exact pI_01 _ | omega) dX4_isTyped_29 rfl ?_
      refine mret hM hF (pI_f (fun ⟨j, a, b, c⟩ => k2A j a (by omega) c)).symm rfl
    · refine V_aload_n dX4_isTyped_10 rfl ?_
      refine V_mgA (f := 0) (a := 19) dX4_isTyped_11 fg_RX4_7 rfl (by decide) hM rfl ?_
      refine V_iload_n dX4_isTyped_14 rfl ?_
      refine V_mi (f := 0) (n := 6) (w := M 0 k2) dX4_isTyped_15 rfl rfl (by decide) rfl rfl hM (by omega) rfl (fun r15 => ?_)
      refine V_iload_n dX4_isTyped_16 rfl ?_
      refine V_icmp_ne (tgt := 22) dX4_isTyped_17 (by decide) (by omega) (by omega) (fun q17 => ?_) (fun q17 => ?_)
      · refine V_iinc (lc' := [_, _, _]) dX4_isTyped_22 rfl (by decide) rfl ?_
        refine V_goto (tgt := 2) dX4_isTyped_25 (by decide) ?_
        exact ih2 (by omega) ⟨by omega, by omega, all_succ k2A (by first | assumption |  omega)⟩ h hM hF
      · refine V_iconst dX4_isTyped_20 ?_
        refine V_zret (by first | exact pI_01 _ | omega) dX4_isTyped_21 rfl ?_
        refine mret hM hF (pI_t ⟨k2, by omega, by omega, by omega⟩).symm rfl
  exact lp2 0 ⟨by omega, by omega, fun j a b => absurd b (by omega)⟩ h hM hF
theorem T_X4_hasAhead (g : GP) (M : MS) (q : Int) (i : Int) (r_q : -2147483648 ≤ q ∧ q ≤ 2147483647) (r_i : -2147483648 ≤ i ∧ i ≤ 2147483647) (h1 : 0 ≤ q ∧ q ≤ 39) (h2 : 0 ≤ i ∧ i ≤ 5) : TM g m_X4_hasAhead 1 [xI q, xI i] M (some (xI (pI (sAhead M q i)))) (M) := by
  refine TM.of (by decide) rfl (fun v hv => ?_) (Nat.le_of_ble_eq_true rfl) ?_
  · simp only [List.mem_cons, List.not_mem_nil, or_false] at hv
    rcases hv with rfl | rfl <;> exact ⟨_, rfl⟩
  intro h0 h hM hF
  change V g m_X4_hasAhead 1 _ h 0 [xR 18, xI q, xI i, xU] []
  refine V_iconst dX4_hasAhead_0 ?_
  refine V_istore_n (lc' := [_, _, _, _]) dX4_hasAhead_1 (by decide) rfl ?_
  have lp2 : ∀ k2 : Int, (0 ≤ k2 ∧ k2 ≤ i ∧ ∀ j : Int, 0 ≤ j → j < k2 → M 1 (6 * q + j) ≠ M 1 (6 * q + i)) → ∀ h, MR h M → FR h0 h → V g m_X4_hasAhead 1 (Qm h0 (some (xI (pI (sAhead M q i)))) (M)) h 2 [xR 18, xI q, xI i, xI k2] [] := by
    refine lp_up (i) (fun k2 ih2 => ?_)
    intro hk h hM hF
    obtain ⟨k2l, k2u, k2A⟩ := hk
    refine V_iload_n dX4_hasAhead_2 rfl ?_
    refine V_iload_n dX4_hasAhead_3 rfl ?_
    refine V_icmp_ge (tgt := 40) dX4_hasAhead_4 (by decide) (by omega) (by omega) (fun q4 => ?_) (fun q4 => ?_)
    · refine V_iconst dX4_hasAhead_40 ?_
      refine V_zret (by first | exact pI_01 _ | omega) dX4_hasAhead_41 rfl ?_
      refine mret hM hF (pI_f (fun ⟨j, a, b, c⟩ => k2A j a (by omega) c)).symm rfl
    · refine V_aload_n dX4_hasAhead_7 rfl ?_
      refine V_mgA (f := 1) (a := 20) dX4_hasAhead_8 fg_RX4_13 rfl (by decide) hM rfl ?_
      refine V_bipush dX4_hasAhead_11 (by decide) ?_
      refine V_iload_n dX4_hasAhead_13 rfl ?_
      refine V_imul dX4_hasAhead_14 ?_
      refine V_iload_n dX4_hasAhead_15 rfl ?_
      refine V_iadd dX4_hasAhead_16 ?_
      refine V_mi (f := 1) (n := 240) (w := M 1 ((6 * q) + k2)) dX4_hasAhead_17 rfl rfl (by decide) rfl rfl hM (by omega) rfl (fun r17 => ?_)
      refine V_aload_n dX4_hasAhead_18 rfl ?_
      refine V_mgA (f := 1) (a := 20) dX4_hasAhead_19 fg_RX4_13 rfl (by decide) hM rfl ?_
      refine V_bipush dX4_hasAhead_22 (by decide) ?_
      refine V_iload_n dX4_hasAhead_24 rfl ?_
      refine V_imul dX4_hasAhead_25 ?_
      refine V_iload_n dX4_hasAhead_26 rfl ?_
      refine V_iadd dX4_hasAhead_27 ?_
      refine V_mi (f := 1) (n := 240) (w := M 1 ((6 * q) + i)) dX4_hasAhead_28 rfl rfl (by decide) rfl rfl hM (by omega) rfl (fun r28 => ?_)
      refine V_icmp_ne (tgt := 34) dX4_hasAhead_29 (by decide) (by omega) (by omega) (fun q29 => ?_) (fun q29 => ?_)
      · refine V_iinc (lc' := [_, _, _, _]) dX4_hasAhead_34 rfl (by decide) rfl ?_
        refine V_goto (tgt := 2) dX4_hasAhead_37 (by decide) ?_
        exact ih2 (by omega) ⟨by omega, by omega, all_succ k2A (by first | assumption |  omega)⟩ h hM hF
      · refine V_iconst dX4_hasAhead_32 ?_
        refine V_zret (by first | exact pI_01 _ | omega) dX4_hasAhead_33 rfl ?_
        refine mret hM hF (pI_t ⟨k2, by omega, by omega, by omega⟩).symm rfl
  exact lp2 0 ⟨by omega, by omega, fun j a b => absurd b (by omega)⟩ h hM hF
theorem T_X4_hitAt (g : GP) (M : MS) (i : Int) (r_i : -2147483648 ≤ i ∧ i ≤ 2147483647) (hI : IM M) : TM g m_X4_hitAt 2 [xI i] M (some (xI ((s_hitAt M 6 i).1))) ((s_hitAt M 6 i).2) := by
  refine TM.of (by decide) rfl (fun v hv => ?_) (Nat.le_of_ble_eq_true rfl) ?_
  · simp only [List.mem_cons, List.not_mem_nil, or_false] at hv
    subst hv; exact ⟨_, rfl⟩
  intro h0 h hM hF
  change V g m_X4_hitAt 2 _ h 0 [xR 18, xI i] []
  obtain ⟨⟨i19, i20, i21, i22, i23, i24, i25, i26, i29⟩, iA⟩ := id hI
  refine V_aload_n dX4_hitAt_0 rfl ?_
  refine V_iload_n dX4_hitAt_1 rfl ?_
  refine V_iconst dX4_hitAt_2 ?_
  refine V_aload_n dX4_hitAt_3 rfl ?_
  refine V_mg (f := 21) (z := M 21 0) dX4_hitAt_4 fg_RX4_117 rfl (by decide) hM rfl (fun r4 => ?_)
  refine V_iconst dX4_hitAt_7 ?_
  refine V_isub dX4_hitAt_8 ?_
  refine V_pS (as := [_, _, _]) dX4_hitAt_9 c_RX4_79 rfl (by decide) rfl (Nat.le_of_ble_eq_true rfl) (T_X4_in g i 0 ((M 21 0) - 1) (by omega) (by omega) (by omega)) ?_
  refine V_ifb_eq (tgt := 19) dX4_hitAt_12 (by decide) (fun q12 => ?_) (fun q12 => ?_)
  · refine V_iconst dX4_hitAt_19 ?_
    refine V_mp (f := 27) dX4_hitAt_20 f_RX4_72 rfl (by decide) hM hF (by omega) (fun h hM hF => ?_)
    refine V_aload_n dX4_hitAt_23 rfl ?_
    refine V_mg (f := 27) (z := 1) dX4_hitAt_24 fg_RX4_72 rfl (by decide) hM (by simp [sT, mset]) (fun r24 => ?_)
    refine V_if_le (tgt := 34) dX4_hitAt_27 (by decide) (by decide) (fun q27 => absurd q27 (by decide)) (fun _ => ?_)
    refine V_iconst dX4_hitAt_30 ?_
    refine V_goto (tgt := 40) dX4_hitAt_31 (by decide) ?_
    refine V_iret dX4_hitAt_40 rfl ?_
    refine mret hM hF ?_ ?_ <;> (unfold s_hitAt; (repeat' split) <;> first | rfl | (exfalso; (try simp only [isQ, isP, isS, sFrc, sTw] at *); omega))
  · refine V_iconst dX4_hitAt_15 ?_
    refine V_goto (tgt := 20) dX4_hitAt_16 (by decide) ?_
    refine V_mp (f := 27) dX4_hitAt_20 f_RX4_72 rfl (by decide) hM hF (by omega) (fun h hM hF => ?_)
    refine V_aload_n dX4_hitAt_23 rfl ?_
    refine V_mg (f := 27) (z := 0) dX4_hitAt_24 fg_RX4_72 rfl (by decide) hM (by simp [sT, mset]) (fun r24 => ?_)
    refine V_if_le (tgt := 34) dX4_hitAt_27 (by decide) (by decide) (fun _ => ?_) (fun q27 => absurd q27 (by decide))
    refine V_aload_n dX4_hitAt_34 rfl ?_
    refine V_mgA (f := 6) (a := 25) dX4_hitAt_35 fg_RX4_28 rfl (by decide) hM rfl ?_
    refine V_iload_n dX4_hitAt_38 rfl ?_
    refine V_mi (f := 6) (n := 40) (w := M 6 i) dX4_hitAt_39 rfl rfl (by decide) rfl rfl hM (by omega) (by simp [sT, mset]) (fun r39 => ?_)
    refine V_iret dX4_hitAt_40 rfl ?_
    refine mret hM hF ?_ ?_ <;> (unfold s_hitAt; (repeat' split) <;> first | rfl | (exfalso; (try simp only [isQ, isP, isS, sFrc, sTw] at *); omega))
theorem T_X4_rankAt (g : GP) (M : MS) (i : Int) (r_i : -2147483648 ≤ i ∧ i ≤ 2147483647) (hI : IM M) : TM g m_X4_rankAt 2 [xI i] M (some (xI ((s_hitAt M 7 i).1))) ((s_hitAt M 7 i).2) := by
  refine TM.of (by decide) rfl (fun v hv => ?_) (Nat.le_of_ble_eq_true rfl) ?_
  · simp only [List.mem_cons, List.not_mem_nil, or_false] at hv
    subst hv; exact ⟨_, rfl⟩
  intro h0 h hM hF
  change V g m_X4_rankAt 2 _ h 0 [xR 18, xI i] []
  obtain ⟨⟨i19, i20, i21, i22, i23, i24, i25, i26, i29⟩, iA⟩ := id hI
  refine V_aload_n dX4_rankAt_0 rfl ?_
  refine V_iload_n dX4_rankAt_1 rfl ?_
  refine V_iconst dX4_rankAt_2 ?_
  refine V_aload_n dX4_rankAt_3 rfl ?_
  refine V_mg (f := 21) (z := M 21 0) dX4_rankAt_4 fg_RX4_117 rfl (by decide) hM rfl (fun r4 => ?_)
  refine V_iconst dX4_rankAt_7 ?_
  refine V_isub dX4_rankAt_8 ?_
  refine V_pS (as := [_, _, _]) dX4_rankAt_9 c_RX4_79 rfl (by decide) rfl (Nat.le_of_ble_eq_true rfl) (T_X4_in g i 0 ((M 21 0) - 1) (by omega) (by omega) (by omega)) ?_
  refine V_ifb_eq (tgt := 19) dX4_rankAt_12 (by decide) (fun q12 => ?_) (fun q12 => ?_)
  · refine V_iconst dX4_rankAt_19 ?_
    refine V_mp (f := 27) dX4_rankAt_20 f_RX4_72 rfl (by decide) hM hF (by omega) (fun h hM hF => ?_)
    refine V_aload_n dX4_rankAt_23 rfl ?_
    refine V_mg (f := 27) (z := 1) dX4_rankAt_24 fg_RX4_72 rfl (by decide) hM (by simp [sT, mset]) (fun r24 => ?_)
    refine V_if_le (tgt := 34) dX4_rankAt_27 (by decide) (by decide) (fun q27 => absurd q27 (by decide)) (fun _ => ?_)
    refine V_iconst dX4_rankAt_30 ?_
    refine V_goto (tgt := 40) dX4_rankAt_31 (by decide) ?_
    refine V_iret dX4_rankAt_40 rfl ?_
    refine mret hM hF ?_ ?_ <;> (unfold s_hitAt; (repeat' split) <;> first | rfl | (exfalso; (try simp only [isQ, isP, isS, sFrc, sTw] at *); omega))
  · refine V_iconst dX4_rankAt_15 ?_
    refine V_goto (tgt := 20) dX4_rankAt_16 (by decide) ?_
    refine V_mp (f := 27) dX4_rankAt_20 f_RX4_72 rfl (by decide) hM hF (by omega) (fun h hM hF => ?_)
    refine V_aload_n dX4_rankAt_23 rfl ?_
    refine V_mg (f := 27) (z := 0) dX4_rankAt_24 fg_RX4_72 rfl (by decide) hM (by simp [sT, mset]) (fun r24 => ?_)
    refine V_if_le (tgt := 34) dX4_rankAt_27 (by decide) (by decide) (fun _ => ?_) (fun q27 => absurd q27 (by decide))
    refine V_aload_n dX4_rankAt_34 rfl ?_
    refine V_mgA (f := 7) (a := 26) dX4_rankAt_35 fg_RX4_31 rfl (by decide) hM rfl ?_
    refine V_iload_n dX4_rankAt_38 rfl ?_
    refine V_mi (f := 7) (n := 40) (w := M 7 i) dX4_rankAt_39 rfl rfl (by decide) rfl rfl hM (by omega) (by simp [sT, mset]) (fun r39 => ?_)
    refine V_iret dX4_rankAt_40 rfl ?_
    refine mret hM hF ?_ ?_ <;> (unfold s_hitAt; (repeat' split) <;> first | rfl | (exfalso; (try simp only [isQ, isP, isS, sFrc, sTw] at *); omega))
theorem T_X4_isInForce (g : GP) (M : MS) (p : Int) (r_p : -2147483648 ≤ p ∧ p ≤ 2147483647) (hI : IM M) (h1 : 0 ≤ p ∧ p ≤ 11) : TM g m_X4_isInForce 1 [xI p] M (some (xI (pI (sFrc M p)))) (M) := by
  refine TM.of (by decide) rfl (fun v hv => ?_) (Nat.le_of_ble_eq_true rfl) ?_
  · simp only [List.mem_cons, List.not_mem_nil, or_false] at hv
    subst hv; exact ⟨_, rfl⟩
  intro h0 h hM hF
  change V g m_X4_isInForce 1 _ h 0 [xR 18, xI p] []
  obtain ⟨⟨i19, i20, i21, i22, i23, i24, i25, i26, i29⟩, iA⟩ := id hI
  refine V_aload_n dX4_isInForce_0 rfl ?_
  refine V_mgA (f := 14) (a := 33) dX4_isInForce_1 fg_RX4_53 rfl (by decide) hM rfl ?_
  refine V_iload_n dX4_isInForce_4 rfl ?_
  refine V_mz (f := 14) (n := 12) (w := M 14 p) dX4_isInForce_5 rfl rfl (by decide) rfl rfl hM (by omega) rfl (fun r5 => ?_)
  have b5 := hI.a14 p
  refine V_if_ne (tgt := 26) dX4_isInForce_6 (by decide) (by omega) (fun q6 => ?_) (fun q6 => ?_)
  · refine V_iconst dX4_isInForce_26 ?_
    refine V_zret (by first | exact pI_01 _ | omega) dX4_isInForce_27 rfl ?_
    refine mret hM hF (pI_f (by omega)).symm rfl
  · refine V_aload_n dX4_isInForce_9 rfl ?_
    refine V_mgA (f := 8) (a := 27) dX4_isInForce_10 fg_RX4_34 rfl (by decide) hM rfl ?_
    refine V_iload_n dX4_isInForce_13 rfl ?_
    refine V_mi (f := 8) (n := 12) (w := M 8 p) dX4_isInForce_14 rfl rfl (by decide) rfl rfl hM (by omega) rfl (fun r14 => ?_)
    have b14 := hI.a8 p
    refine V_aload_n dX4_isInForce_15 rfl ?_
    refine V_mg (f := 24) (z := M 24 0) dX4_isInForce_16 fg_RX4_123 rfl (by decide) hM rfl (fun r16 => ?_)
    refine V_icmp_lt (tgt := 26) dX4_isInForce_19 (by decide) (by omega) (by omega) (fun q19 => ?_) (fun q19 => ?_)
    · refine V_iconst dX4_isInForce_26 ?_
      refine V_zret (by first | exact pI_01 _ | omega) dX4_isInForce_27 rfl ?_
      refine mret hM hF (pI_f (by omega)).symm rfl
    · refine V_iconst dX4_isInForce_22 ?_
      refine V_goto (tgt := 27) dX4_isInForce_23 (by decide) ?_
      refine V_zret (by first | exact pI_01 _ | omega) dX4_isInForce_27 rfl ?_
      refine mret hM hF (pI_t (by omega)).symm rfl
theorem T_X4_heldBy (g : GP) (M : MS) (p : Int) (r_p : -2147483648 ≤ p ∧ p ≤ 2147483647) (hI : IM M) (h1 : 0 ≤ p ∧ p ≤ 11) : TM g m_X4_heldBy 2 [xI p] M (some (xI (sHb M p))) (M) := by
  refine TM.of (by decide) rfl (fun v hv => ?_) (Nat.le_of_ble_eq_true rfl) ?_
  · simp only [List.mem_cons, List.not_mem_nil, or_false] at hv
    subst hv; exact ⟨_, rfl⟩
  intro h0 h hM hF
  change V g m_X4_heldBy 2 _ h 0 [xR 18, xI p] []
  obtain ⟨⟨i19, i20, i21, i22, i23, i24, i25, i26, i29⟩, iA⟩ := id hI
  refine V_aload_n dX4_heldBy_0 rfl ?_
  refine V_iload_n dX4_heldBy_1 rfl ?_
  refine V_mC (as := [_]) dX4_heldBy_2 c_RX4_133 rfl (by decide) rfl (Nat.le_of_ble_eq_true rfl) hM hF (T_X4_isInForce g M p (by omega) hI (by omega)) (fun h hM hF => ?_)
  refine V_ifb_eq (tgt := 17) dX4_heldBy_5 (by decide) (fun q5 => ?_) (fun q5 => ?_)
  · refine V_iconst dX4_heldBy_17 ?_
    refine V_iret dX4_heldBy_18 rfl ?_
    refine mret hM hF ?_ rfl <;> (unfold sHb; split <;> first | rfl | contradiction)
  · refine V_aload_n dX4_heldBy_8 rfl ?_
    refine V_mgA (f := 11) (a := 30) dX4_heldBy_9 fg_RX4_43 rfl (by decide) hM rfl ?_
    refine V_iload_n dX4_heldBy_12 rfl ?_
    refine V_mi (f := 11) (n := 12) (w := M 11 p) dX4_heldBy_13 rfl rfl (by decide) rfl rfl hM (by omega) rfl (fun r13 => ?_)
    have b13 := hI.a11 p
    refine V_goto (tgt := 18) dX4_heldBy_14 (by decide) ?_
    refine V_iret dX4_heldBy_18 rfl ?_
    refine mret hM hF ?_ rfl <;> (unfold sHb; split <;> first | rfl | contradiction)
theorem T_X4_held (g : GP) (M : MS) (p : Int) (r_p : -2147483648 ≤ p ∧ p ≤ 2147483647) (hI : IM M) : TM g m_X4_held 4 [xI p] M (some (xI ((s_held M p).1))) ((s_held M p).2) := by
  refine TM.of (by decide) rfl (fun v hv => ?_) (Nat.le_of_ble_eq_true rfl) ?_
  · simp only [List.mem_cons, List.not_mem_nil, or_false] at hv
    subst hv; exact ⟨_, rfl⟩
  intro h0 h hM hF
  change V g m_X4_held 4 _ h 0 [xR 18, xI p] []
  obtain ⟨⟨i19, i20, i21, i22, i23, i24, i25, i26, i29⟩, iA⟩ := id hI
  refine V_aload_n dX4_held_0 rfl ?_
  refine V_iload_n dX4_held_1 rfl ?_
  refine V_mC (as := [_]) dX4_held_2 c_RX4_142 rfl (by decide) rfl (Nat.le_of_ble_eq_true rfl) hM hF (T_X4_wrongPlan g M p (by omega) hI) (fun h hM hF => ?_)
  rcases tP_c M p with ⟨et, et1, et2⟩ | ⟨et, et1⟩
  · rw [et] at hM ⊢
    refine V_if_le (tgt := 12) dX4_held_5 (by decide) (by decide) (fun _ => ?_) (fun q5 => absurd q5 (by decide))
    refine V_aload_n dX4_held_12 rfl ?_
    refine V_iload_n dX4_held_13 rfl ?_
    refine V_mC (as := [_]) dX4_held_14 c_RX4_139 rfl (by decide) rfl (Nat.le_of_ble_eq_true rfl) hM hF (show TM g m_X4_heldBy _ _ (mset M 27 0 0) (some (xI (sHb M p))) (mset M 27 0 0) from T_X4_heldBy g (mset M 27 0 0) p (by omega) hI (by omega)) (fun h hM hF => ?_)
    have t14 := sHb_r hI p
    refine V_iret dX4_held_17 rfl ?_
    refine mret hM hF ?_ ?_ <;> (unfold s_held; (repeat' split) <;> first | rfl | (exfalso; (try simp only [isQ, isP, isS, sFrc, sTw] at *); omega))
  · rw [et] at hM ⊢
    refine V_if_le (tgt := 12) dX4_held_5 (by decide) (by decide) (fun q5 => absurd q5 (by decide)) (fun _ => ?_)
    refine V_iconst dX4_held_8 ?_
    refine V_goto (tgt := 17) dX4_held_9 (by decide) ?_
    refine V_iret dX4_held_17 rfl ?_
    refine mret hM hF ?_ ?_ <;> (unfold s_held; (repeat' split) <;> first | rfl | (exfalso; (try simp only [isQ, isP, isS, sFrc, sTw] at *); omega))
theorem T_X4_heldAt (g : GP) (M : MS) (p : Int) (i : Int) (r_p : -2147483648 ≤ p ∧ p ≤ 2147483647) (r_i : -2147483648 ≤ i ∧ i ≤ 2147483647) (hI : IM M) : TM g m_X4_heldAt 4 [xI p, xI i] M (some (xI ((s_heldAt M p i).1))) ((s_heldAt M p i).2) := by
  refine TM.of (by decide) rfl (fun v hv => ?_) (Nat.le_of_ble_eq_true rfl) ?_
  · simp only [List.mem_cons, List.not_mem_nil, or_false] at hv
    rcases hv with rfl | rfl <;> exact ⟨_, rfl⟩
  intro h0 h hM hF
  change V g m_X4_heldAt 4 _ h 0 [xR 18, xI p, xI i] []
  obtain ⟨⟨i19, i20, i21, i22, i23, i24, i25, i26, i29⟩, iA⟩ := id hI
  refine V_aload_n dX4_heldAt_0 rfl ?_
  refine V_iload_n dX4_heldAt_1 rfl ?_
  refine V_mC (as := [_]) dX4_heldAt_2 c_RX4_142 rfl (by decide) rfl (Nat.le_of_ble_eq_true rfl) hM hF (T_X4_wrongPlan g M p (by omega) hI) (fun h hM hF => ?_)
  rcases tP_c M p with ⟨et, et1, et2⟩ | ⟨et, et1⟩
  · rw [et] at hM ⊢
    refine V_if_ne (tgt := 28) dX4_heldAt_5 (by decide) (by decide) (fun q5 => absurd q5 (by decide)) (fun _ => ?_)
    refine V_iload_n dX4_heldAt_8 rfl ?_
    refine V_iconst dX4_heldAt_9 ?_
    refine V_aload_n dX4_heldAt_10 rfl ?_
    refine V_iload_n dX4_heldAt_11 rfl ?_
    refine V_mC (as := [_]) dX4_heldAt_12 c_RX4_139 rfl (by decide) rfl (Nat.le_of_ble_eq_true rfl) hM hF (show TM g m_X4_heldBy _ _ (mset M 27 0 0) (some (xI (sHb M p))) (mset M 27 0 0) from T_X4_heldBy g (mset M 27 0 0) p (by omega) hI (by omega)) (fun h hM hF => ?_)
    have t12 := sHb_r hI p
    refine V_iconst dX4_heldAt_15 ?_
    refine V_isub dX4_heldAt_16 ?_
    refine V_pS (as := [_, _, _]) dX4_heldAt_17 c_RX4_79 rfl (by decide) rfl (Nat.le_of_ble_eq_true rfl) (T_X4_in g i 0 (sHb M p - 1) (by omega) (by omega) (by omega)) ?_
    refine V_ifb_ne (tgt := 28) dX4_heldAt_20 (by decide) (fun q20 => ?_) (fun q20 => ?_)
    · refine V_aload_n dX4_heldAt_28 rfl ?_
      refine V_mg (f := 27) (z := 0) dX4_heldAt_29 fg_RX4_72 rfl (by decide) hM (by simp [sT, mset]) (fun r29 => ?_)
      refine V_if_le (tgt := 39) dX4_heldAt_32 (by decide) (by decide) (fun _ => ?_) (fun q32 => absurd q32 (by decide))
      refine V_aload_n dX4_heldAt_39 rfl ?_
      refine V_mgA (f := 10) (a := 29) dX4_heldAt_40 fg_RX4_40 rfl (by decide) hM rfl ?_
      refine V_bipush dX4_heldAt_43 (by decide) ?_
      refine V_iload_n dX4_heldAt_45 rfl ?_
      refine V_imul dX4_heldAt_46 ?_
      refine V_iload_n dX4_heldAt_47 rfl ?_
      refine V_iadd dX4_heldAt_48 ?_
      refine V_mi (f := 10) (n := 108) (w := M 10 ((9 * p) + i)) dX4_heldAt_49 rfl rfl (by decide) rfl rfl hM (by omega) (by simp [sT, mset]) (fun r49 => ?_)
      have b49 := hI.a10 ((9 * p) + i)
      refine V_iret dX4_heldAt_50 rfl ?_
      refine mret hM hF ?_ ?_ <;> (unfold s_heldAt; (repeat' split) <;> first | rfl | (exfalso; (try simp only [isQ, isP, isS, sFrc, sTw] at *); omega))
    · refine V_aload_n dX4_heldAt_23 rfl ?_
      refine V_iconst dX4_heldAt_24 ?_
      refine V_mp (f := 27) dX4_heldAt_25 f_RX4_72 rfl (by decide) hM hF (by omega) (fun h hM hF => ?_)
      refine V_aload_n dX4_heldAt_28 rfl ?_
      refine V_mg (f := 27) (z := 2) dX4_heldAt_29 fg_RX4_72 rfl (by decide) hM (by simp [sT, mset]) (fun r29 => ?_)
      refine V_if_le (tgt := 39) dX4_heldAt_32 (by decide) (by decide) (fun q32 => absurd q32 (by decide)) (fun _ => ?_)
      refine V_iconst dX4_heldAt_35 ?_
      refine V_goto (tgt := 50) dX4_heldAt_36 (by decide) ?_
      refine V_iret dX4_heldAt_50 rfl ?_
      refine mret hM hF ?_ ?_ <;> (unfold s_heldAt; (repeat' split) <;> first | rfl | (exfalso; (try simp only [isQ, isP, isS, sFrc, sTw] at *); omega))
  · rw [et] at hM ⊢
    refine V_if_ne (tgt := 28) dX4_heldAt_5 (by decide) (by decide) (fun _ => ?_) (fun q5 => absurd q5 (by decide))
    refine V_aload_n dX4_heldAt_28 rfl ?_
    refine V_mg (f := 27) (z := 1) dX4_heldAt_29 fg_RX4_72 rfl (by decide) hM (by simp [sT, mset]) (fun r29 => ?_)
    refine V_if_le (tgt := 39) dX4_heldAt_32 (by decide) (by decide) (fun q32 => absurd q32 (by decide)) (fun _ => ?_)
    refine V_iconst dX4_heldAt_35 ?_
    refine V_goto (tgt := 50) dX4_heldAt_36 (by decide) ?_
    refine V_iret dX4_heldAt_50 rfl ?_
    refine mret hM hF ?_ ?_ <;> (unfold s_heldAt; (repeat' split) <;> first | rfl | (exfalso; (try simp only [isQ, isP, isS, sFrc, sTw] at *); omega))
theorem T_X4_lacks (g : GP) (M : MS) (p : Int) (r_p : -2147483648 ≤ p ∧ p ≤ 2147483647) (hI : IM M) : TM g m_X4_lacks 4 [xI p] M (some (xI ((s_lacks M p).1))) ((s_lacks M p).2) := by
  refine TM.of (by decide) rfl (fun v hv => ?_) (Nat.le_of_ble_eq_true rfl) ?_
  · simp only [List.mem_cons, List.not_mem_nil, or_false] at hv
    subst hv; exact ⟨_, rfl⟩
  intro h0 h hM hF
  change V g m_X4_lacks 4 _ h 0 [xR 18, xI p] []
  obtain ⟨⟨i19, i20, i21, i22, i23, i24, i25, i26, i29⟩, iA⟩ := id hI
  refine V_aload_n dX4_lacks_0 rfl ?_
  refine V_iload_n dX4_lacks_1 rfl ?_
  refine V_mC (as := [_]) dX4_lacks_2 c_RX4_142 rfl (by decide) rfl (Nat.le_of_ble_eq_true rfl) hM hF (T_X4_wrongPlan g M p (by omega) hI) (fun h hM hF => ?_)
  rcases tP_c M p with ⟨et, et1, et2⟩ | ⟨et, et1⟩
  · rw [et] at hM ⊢
    refine V_if_gt (tgt := 16) dX4_lacks_5 (by decide) (by decide) (fun q5 => absurd q5 (by decide)) (fun _ => ?_)
    refine V_aload_n dX4_lacks_8 rfl ?_
    refine V_iload_n dX4_lacks_9 rfl ?_
    refine V_mC (as := [_]) dX4_lacks_10 c_RX4_133 rfl (by decide) rfl (Nat.le_of_ble_eq_true rfl) hM hF (show TM g m_X4_isInForce _ _ (mset M 27 0 0) (some (xI (pI (sFrc M p)))) (mset M 27 0 0) from T_X4_isInForce g (mset M 27 0 0) p (by omega) hI (by omega)) (fun h hM hF => ?_)
    refine V_ifb_ne (tgt := 20) dX4_lacks_13 (by decide) (fun q13 => ?_) (fun q13 => ?_)
    · refine V_aload_n dX4_lacks_20 rfl ?_
      refine V_mgA (f := 9) (a := 28) dX4_lacks_21 fg_RX4_37 rfl (by decide) hM rfl ?_
      refine V_iload_n dX4_lacks_24 rfl ?_
      refine V_mi (f := 9) (n := 12) (w := M 9 p) dX4_lacks_25 rfl rfl (by decide) rfl rfl hM (by omega) (by simp [sT, mset]) (fun r25 => ?_)
      have b25 := hI.a9 p
      refine V_aload_n dX4_lacks_26 rfl ?_
      refine V_mgA (f := 11) (a := 30) dX4_lacks_27 fg_RX4_43 rfl (by decide) hM rfl ?_
      refine V_iload_n dX4_lacks_30 rfl ?_
      refine V_mi (f := 11) (n := 12) (w := M 11 p) dX4_lacks_31 rfl rfl (by decide) rfl rfl hM (by omega) (by simp [sT, mset]) (fun r31 => ?_)
      have b31 := hI.a11 p
      refine V_isub dX4_lacks_32 ?_
      refine V_iret dX4_lacks_33 rfl ?_
      refine mret hM hF ?_ ?_ <;> (unfold s_lacks; (repeat' split) <;> first | rfl | (exfalso; (try simp only [isQ, isP, isS, sFrc, sTw] at *); omega))
    · refine V_iconst dX4_lacks_16 ?_
      refine V_goto (tgt := 33) dX4_lacks_17 (by decide) ?_
      refine V_iret dX4_lacks_33 rfl ?_
      refine mret hM hF ?_ ?_ <;> (unfold s_lacks; (repeat' split) <;> first | rfl | (exfalso; (try simp only [isQ, isP, isS, sFrc, sTw] at *); omega))
  · rw [et] at hM ⊢
    refine V_if_gt (tgt := 16) dX4_lacks_5 (by decide) (by decide) (fun _ => ?_) (fun q5 => absurd q5 (by decide))
    refine V_iconst dX4_lacks_16 ?_
    refine V_goto (tgt := 33) dX4_lacks_17 (by decide) ?_
    refine V_iret dX4_lacks_33 rfl ?_
    refine mret hM hF ?_ ?_ <;> (unfold s_lacks; (repeat' split) <;> first | rfl | (exfalso; (try simp only [isQ, isP, isS, sFrc, sTw] at *); omega))
theorem T_X4_size (g : GP) (M : MS) (p : Int) (r_p : -2147483648 ≤ p ∧ p ≤ 2147483647) (hI : IM M) : TM g m_X4_size 4 [xI p] M (some (xI ((s_size M p).1))) ((s_size M p).2) := by
  refine TM.of (by decide) rfl (fun v hv => ?_) (Nat.le_of_ble_eq_true rfl) ?_
  · simp only [List.mem_cons, List.not_mem_nil, or_false] at hv
    subst hv; exact ⟨_, rfl⟩
  intro h0 h hM hF
  change V g m_X4_size 4 _ h 0 [xR 18, xI p] []
  obtain ⟨⟨i19, i20, i21, i22, i23, i24, i25, i26, i29⟩, iA⟩ := id hI
  refine V_aload_n dX4_size_0 rfl ?_
  refine V_iload_n dX4_size_1 rfl ?_
  refine V_mC (as := [_]) dX4_size_2 c_RX4_179 rfl (by decide) rfl (Nat.le_of_ble_eq_true rfl) hM hF (T_X4_wrongSheet g M p (by omega) hI) (fun h hM hF => ?_)
  rcases tS_c M p with ⟨et, et1, et2⟩ | ⟨et, et1⟩
  · rw [et] at hM ⊢
    refine V_if_le (tgt := 12) dX4_size_5 (by decide) (by decide) (fun _ => ?_) (fun q5 => absurd q5 (by decide))
    refine V_aload_n dX4_size_12 rfl ?_
    refine V_mgA (f := 17) (a := 36) dX4_size_13 fg_RX4_63 rfl (by decide) hM rfl ?_
    refine V_iload_n dX4_size_16 rfl ?_
    refine V_mi (f := 17) (n := 30) (w := M 17 p) dX4_size_17 rfl rfl (by decide) rfl rfl hM (by omega) (by simp [sT, mset]) (fun r17 => ?_)
    have b17 := hI.a17 p
    refine V_iret dX4_size_18 rfl ?_
    refine mret hM hF ?_ ?_ <;> (unfold s_size; (repeat' split) <;> first | rfl | (exfalso; (try simp only [isQ, isP, isS, sFrc, sTw] at *); omega))
  · rw [et] at hM ⊢
    refine V_if_le (tgt := 12) dX4_size_5 (by decide) (by decide) (fun q5 => absurd q5 (by decide)) (fun _ => ?_)
    refine V_iconst dX4_size_8 ?_
    refine V_goto (tgt := 18) dX4_size_9 (by decide) ?_
    refine V_iret dX4_size_18 rfl ?_
    refine mret hM hF ?_ ?_ <;> (unfold s_size; (repeat' split) <;> first | rfl | (exfalso; (try simp only [isQ, isP, isS, sFrc, sTw] at *); omega))
theorem T_X4_stateOf (g : GP) (M : MS) (p : Int) (r_p : -2147483648 ≤ p ∧ p ≤ 2147483647) (hI : IM M) : TM g m_X4_stateOf 4 [xI p] M (some (xI ((s_stateOf M p).1))) ((s_stateOf M p).2) := by
  refine TM.of (by decide) rfl (fun v hv => ?_) (Nat.le_of_ble_eq_true rfl) ?_
  · simp only [List.mem_cons, List.not_mem_nil, or_false] at hv
    subst hv; exact ⟨_, rfl⟩
  intro h0 h hM hF
  change V g m_X4_stateOf 4 _ h 0 [xR 18, xI p] []
  obtain ⟨⟨i19, i20, i21, i22, i23, i24, i25, i26, i29⟩, iA⟩ := id hI
  refine V_aload_n dX4_stateOf_0 rfl ?_
  refine V_iload_n dX4_stateOf_1 rfl ?_
  refine V_mC (as := [_]) dX4_stateOf_2 c_RX4_179 rfl (by decide) rfl (Nat.le_of_ble_eq_true rfl) hM hF (T_X4_wrongSheet g M p (by omega) hI) (fun h hM hF => ?_)
  rcases tS_c M p with ⟨et, et1, et2⟩ | ⟨et, et1⟩
  · rw [et] at hM ⊢
    refine V_if_le (tgt := 13) dX4_stateOf_5 (by decide) (by decide) (fun _ => ?_) (fun q5 => absurd q5 (by decide))
    refine V_aload_n dX4_stateOf_13 rfl ?_
    refine V_mgA (f := 13) (a := 32) dX4_stateOf_14 fg_RX4_50 rfl (by decide) hM rfl ?_
    refine V_iload_n dX4_stateOf_17 rfl ?_
    refine V_mc (f := 13) (n := 30) (w := M 13 p) dX4_stateOf_18 rfl rfl (by decide) rfl rfl hM (by omega) (by simp [sT, mset]) (fun r18 => ?_)
    have b18 := hI.a13 p
    refine V_cret (by omega) dX4_stateOf_19 rfl ?_
    refine mret hM hF ?_ ?_ <;> (unfold s_stateOf; (repeat' split) <;> first | rfl | (exfalso; (try simp only [isQ, isP, isS, sFrc, sTw] at *); omega))
  · rw [et] at hM ⊢
    refine V_if_le (tgt := 13) dX4_stateOf_5 (by decide) (by decide) (fun q5 => absurd q5 (by decide)) (fun _ => ?_)
    refine V_bipush dX4_stateOf_8 (by decide) ?_
    refine V_goto (tgt := 19) dX4_stateOf_10 (by decide) ?_
    refine V_cret (by omega) dX4_stateOf_19 rfl ?_
    refine mret hM hF ?_ ?_ <;> (unfold s_stateOf; (repeat' split) <;> first | rfl | (exfalso; (try simp only [isQ, isP, isS, sFrc, sTw] at *); omega))
theorem T_X4_questionAt (g : GP) (M : MS) (p : Int) (i : Int) (r_p : -2147483648 ≤ p ∧ p ≤ 2147483647) (r_i : -2147483648 ≤ i ∧ i ≤ 2147483647) (hI : IM M) : TM g m_X4_questionAt 4 [xI p, xI i] M (some (xI ((s_questionAt M p i).1))) ((s_questionAt M p i).2) := by
  refine TM.of (by decide) rfl (fun v hv => ?_) (Nat.le_of_ble_eq_true rfl) ?_
  · simp only [List.mem_cons, List.not_mem_nil, or_false] at hv
    rcases hv with rfl | rfl <;> exact ⟨_, rfl⟩
  intro h0 h hM hF
  change V g m_X4_questionAt 4 _ h 0 [xR 18, xI p, xI i] []
  obtain ⟨⟨i19, i20, i21, i22, i23, i24, i25, i26, i29⟩, iA⟩ := id hI
  refine V_aload_n dX4_questionAt_0 rfl ?_
  refine V_iload_n dX4_questionAt_1 rfl ?_
  refine V_mC (as := [_]) dX4_questionAt_2 c_RX4_179 rfl (by decide) rfl (Nat.le_of_ble_eq_true rfl) hM hF (T_X4_wrongSheet g M p (by omega) hI) (fun h hM hF => ?_)
  rcases tS_c M p with ⟨et, et1, et2⟩ | ⟨et, et1⟩
  · rw [et] at hM ⊢
    refine V_if_ne (tgt := 29) dX4_questionAt_5 (by decide) (by decide) (fun q5 => absurd q5 (by decide)) (fun _ => ?_)
    refine V_iload_n dX4_questionAt_8 rfl ?_
    refine V_iconst dX4_questionAt_9 ?_
    refine V_aload_n dX4_questionAt_10 rfl ?_
    refine V_mgA (f := 17) (a := 36) dX4_questionAt_11 fg_RX4_63 rfl (by decide) hM rfl ?_
    refine V_iload_n dX4_questionAt_14 rfl ?_
    refine V_mi (f := 17) (n := 30) (w := M 17 p) dX4_questionAt_15 rfl rfl (by decide) rfl rfl hM (by omega) (by simp [sT, mset]) (fun r15 => ?_)
    have b15 := hI.a17 p
    refine V_iconst dX4_questionAt_16 ?_
    refine V_isub dX4_questionAt_17 ?_
    refine V_pS (as := [_, _, _]) dX4_questionAt_18 c_RX4_79 rfl (by decide) rfl (Nat.le_of_ble_eq_true rfl) (T_X4_in g i 0 ((M 17 p) - 1) (by omega) (by omega) (by omega)) ?_
    refine V_ifb_ne (tgt := 29) dX4_questionAt_21 (by decide) (fun q21 => ?_) (fun q21 => ?_)
    · refine V_aload_n dX4_questionAt_29 rfl ?_
      refine V_mg (f := 27) (z := 0) dX4_questionAt_30 fg_RX4_72 rfl (by decide) hM (by simp [sT, mset]) (fun r30 => ?_)
      refine V_if_le (tgt := 40) dX4_questionAt_33 (by decide) (by decide) (fun _ => ?_) (fun q33 => absurd q33 (by decide))
      refine V_aload_n dX4_questionAt_40 rfl ?_
      refine V_mgA (f := 16) (a := 35) dX4_questionAt_41 fg_RX4_60 rfl (by decide) hM rfl ?_
      refine V_bipush dX4_questionAt_44 (by decide) ?_
      refine V_iload_n dX4_questionAt_46 rfl ?_
      refine V_imul dX4_questionAt_47 ?_
      refine V_iload_n dX4_questionAt_48 rfl ?_
      refine V_iadd dX4_questionAt_49 ?_
      refine V_mi (f := 16) (n := 810) (w := M 16 ((27 * p) + i)) dX4_questionAt_50 rfl rfl (by decide) rfl rfl hM (by omega) (by simp [sT, mset]) (fun r50 => ?_)
      have b50 := hI.a16 ((27 * p) + i)
      refine V_iret dX4_questionAt_51 rfl ?_
      refine mret hM hF ?_ ?_ <;> (unfold s_questionAt; (repeat' split) <;> first | rfl | (exfalso; (try simp only [isQ, isP, isS, sFrc, sTw] at *); omega))
    · refine V_aload_n dX4_questionAt_24 rfl ?_
      refine V_iconst dX4_questionAt_25 ?_
      refine V_mp (f := 27) dX4_questionAt_26 f_RX4_72 rfl (by decide) hM hF (by omega) (fun h hM hF => ?_)
      refine V_aload_n dX4_questionAt_29 rfl ?_
      refine V_mg (f := 27) (z := 2) dX4_questionAt_30 fg_RX4_72 rfl (by decide) hM (by simp [sT, mset]) (fun r30 => ?_)
      refine V_if_le (tgt := 40) dX4_questionAt_33 (by decide) (by decide) (fun q33 => absurd q33 (by decide)) (fun _ => ?_)
      refine V_iconst dX4_questionAt_36 ?_
      refine V_goto (tgt := 51) dX4_questionAt_37 (by decide) ?_
      refine V_iret dX4_questionAt_51 rfl ?_
      refine mret hM hF ?_ ?_ <;> (unfold s_questionAt; (repeat' split) <;> first | rfl | (exfalso; (try simp only [isQ, isP, isS, sFrc, sTw] at *); omega))
  · rw [et] at hM ⊢
    refine V_if_ne (tgt := 29) dX4_questionAt_5 (by decide) (by decide) (fun _ => ?_) (fun q5 => absurd q5 (by decide))
    refine V_aload_n dX4_questionAt_29 rfl ?_
    refine V_mg (f := 27) (z := 1) dX4_questionAt_30 fg_RX4_72 rfl (by decide) hM (by simp [sT, mset]) (fun r30 => ?_)
    refine V_if_le (tgt := 40) dX4_questionAt_33 (by decide) (by decide) (fun q33 => absurd q33 (by decide)) (fun _ => ?_)
    refine V_iconst dX4_questionAt_36 ?_
    refine V_goto (tgt := 51) dX4_questionAt_37 (by decide) ?_
    refine V_iret dX4_questionAt_51 rfl ?_
    refine mret hM hF ?_ ?_ <;> (unfold s_questionAt; (repeat' split) <;> first | rfl | (exfalso; (try simp only [isQ, isP, isS, sFrc, sTw] at *); omega))

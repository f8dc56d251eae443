-- deps: 09 10 11 12 21 20 30 31 32 33 34 35 36
theorem T_X4_made (g : GP) (M : MS) (z : Int) (r_z : -2147483648 ≤ z ∧ z ≤ 2147483647) (hI : IM M) (h1 : 0 ≤ z ∧ z ≤ 27) (h2 : M 23 0 ≤ 29) : TM g m_X4_made 6 [xI z] M none (sSettle (sMade M z)) := by
  refine TM.of (by decide) rfl (fun v hv => ?_) (Nat.le_of_ble_eq_true rfl) ?_
  · simp only [List.mem_cons, List.not_mem_nil, or_false] at hv
    subst hv; exact ⟨_, rfl⟩
  intro h0 h hM hF
  change V g m_X4_made 6 _ h 0 [xR 18, xI z] []
  obtain ⟨⟨i19, i20, i21, i22, i23, i24, i25, i26, i29⟩, iA⟩ := id hI
  refine V_aload_n dX4_made_0 rfl ?_
  refine V_mgA (f := 17) (a := 36) dX4_made_1 fg_RX4_63 rfl (by decide) hM rfl ?_
  refine V_aload_n dX4_made_4 rfl ?_
  refine V_mg (f := 23) (z := M 23 0) dX4_made_5 fg_RX4_86 rfl (by decide) hM rfl (fun r5 => ?_)
  refine V_iload_n dX4_made_8 rfl ?_
  refine V_mis (f := 17) (n := 30) dX4_made_9 rfl rfl (by decide) rfl rfl hM hF (by omega) (by omega) (fun h hM hF => ?_)
  refine V_aload_n dX4_made_10 rfl ?_
  refine V_mgA (f := 13) (a := 32) dX4_made_11 fg_RX4_50 rfl (by decide) hM rfl ?_
  refine V_aload_n dX4_made_14 rfl ?_
  refine V_mg (f := 23) (z := M 23 0) dX4_made_15 fg_RX4_86 rfl (by decide) hM (by simp [sT, mset]) (fun r15 => ?_)
  refine V_bipush dX4_made_18 (by decide) ?_
  refine V_mcs (f := 13) (n := 30) dX4_made_20 rfl rfl (by decide) rfl rfl hM hF (by omega) (by omega) (fun h hM hF => ?_)
  refine V_aload_n dX4_made_21 rfl ?_
  refine V_dup dX4_made_22 cat_R ?_
  refine V_mg (f := 23) (z := M 23 0) dX4_made_23 fg_RX4_86 rfl (by decide) hM (by simp [sT, mset]) (fun r23 => ?_)
  refine V_iconst dX4_made_26 ?_
  refine V_iadd dX4_made_27 ?_
  refine V_mp (f := 23) dX4_made_28 f_RX4_86 rfl (by decide) hM hF (by omega) (fun h hM hF => ?_)
  refine V_aload_n dX4_made_31 rfl ?_
  have hJ32 : IM (mset (mset (mset M 17 (M 23 0) z) 13 (M 23 0) 115) 23 0 ((M 23 0) + 1)) := ((hI.s17 (by omega)).s13 (by omega)).s23 (by omega)
  refine V_mC (as := []) dX4_made_32 c_RX4_92 rfl (by decide) rfl (Nat.le_of_ble_eq_true rfl) hM hF (T_X4_settle g (mset (mset (mset M 17 (M 23 0) z) 13 (M 23 0) 115) 23 0 ((M 23 0) + 1))  hJ32) (fun h hM hF => ?_)
  obtain ⟨N32, eN32⟩ : ∃ X, X = sSettle (mset (mset (mset M 17 (M 23 0) z) 13 (M 23 0) 115) 23 0 ((M 23 0) + 1)) := ⟨_, rfl⟩
  rw [← eN32] at hM
  obtain ⟨oN32, hIN32⟩ := sSettle_o hJ32
  rw [← eN32] at oN32 hIN32
  refine V_vret dX4_made_35 rfl ?_
  exact mretV hM hF (by rw [eN32]; rfl)
theorem T_X4_quizOf (g : GP) (M : MS) (p : Int) (r_p : -2147483648 ≤ p ∧ p ≤ 2147483647) (hI : IM M) : TM g m_X4_quizOf 7 [xI p] M (some (xI ((s_quizOf M p).1))) ((s_quizOf M p).2) := by
  refine TM.of (by decide) rfl (fun v hv => ?_) (Nat.le_of_ble_eq_true rfl) ?_
  · simp only [List.mem_cons, List.not_mem_nil, or_false] at hv
    subst hv; exact ⟨_, rfl⟩
  intro h0 h hM hF
  change V g m_X4_quizOf 7 _ h 0 [xR 18, xI p, xU, xU] []
  obtain ⟨⟨i19, i20, i21, i22, i23, i24, i25, i26, i29⟩, iA⟩ := id hI
  refine V_aload_n dX4_quizOf_0 rfl ?_
  refine V_aload_n dX4_quizOf_1 rfl ?_
  refine V_iload_n dX4_quizOf_2 rfl ?_
  refine V_mC (as := [_]) dX4_quizOf_3 c_RX4_136 rfl (by decide) rfl (Nat.le_of_ble_eq_true rfl) hM hF (T_X4_isPlan g M p (by omega) hI) (fun h hM hF => ?_)
  refine V_ifb_ne (tgt := 13) dX4_quizOf_6 (by decide) (fun q6 => ?_) (fun q6 => ?_)
  · refine V_aload_n dX4_quizOf_13 rfl ?_
    refine V_mgA (f := 14) (a := 33) dX4_quizOf_14 fg_RX4_53 rfl (by decide) hM rfl ?_
    refine V_iload_n dX4_quizOf_17 rfl ?_
    refine V_mz (f := 14) (n := 12) (w := M 14 p) dX4_quizOf_18 rfl rfl (by decide) rfl rfl hM (by omega) rfl (fun r18 => ?_)
    have b18 := hI.a14 p
    refine V_if_ne (tgt := 44) dX4_quizOf_19 (by decide) (by omega) (fun q19 => ?_) (fun q19 => ?_)
    · refine V_iconst dX4_quizOf_44 ?_
      refine V_goto (tgt := 62) dX4_quizOf_45 (by decide) ?_
      refine V_mp (f := 27) dX4_quizOf_62 f_RX4_72 rfl (by decide) hM hF (by omega) (fun h hM hF => ?_)
      refine V_aload_n dX4_quizOf_65 rfl ?_
      refine V_mg (f := 27) (z := 2) dX4_quizOf_66 fg_RX4_72 rfl (by decide) hM (by simp [sT, mset]) (fun r66 => ?_)
      refine V_if_le (tgt := 74) dX4_quizOf_69 (by decide) (by decide) (fun q69 => absurd q69 (by decide)) (fun _ => ?_)
      refine V_iconst dX4_quizOf_72 ?_
      refine V_iret dX4_quizOf_73 rfl ?_
      refine mret hM hF ?_ ?_ <;> (unfold s_quizOf; (repeat' split) <;> first | rfl | (exfalso; (try simp only [isQ, isP, isS, sFrc, sTw] at *); omega) | (rw [show mset M83 14 p 1 23 0 = M 23 0 from s83]; done) | (rw [show mset M83 14 p 1 23 0 = M 23 0 from s83]; rfl) | (rw [eN128, k83e, show k83 = M 11 p by omega]; done) | (rw [eN128, k83e, show k83 = M 11 p by omega]; rfl))
    · refine V_aload_n dX4_quizOf_22 rfl ?_
      refine V_mgA (f := 8) (a := 27) dX4_quizOf_23 fg_RX4_34 rfl (by decide) hM rfl ?_
      refine V_iload_n dX4_quizOf_26 rfl ?_
      refine V_mi (f := 8) (n := 12) (w := M 8 p) dX4_quizOf_27 rfl rfl (by decide) rfl rfl hM (by omega) rfl (fun r27 => ?_)
      have b27 := hI.a8 p
      refine V_aload_n dX4_quizOf_28 rfl ?_
      refine V_mg (f := 24) (z := M 24 0) dX4_quizOf_29 fg_RX4_123 rfl (by decide) hM rfl (fun r29 => ?_)
      refine V_icmp_ne (tgt := 44) dX4_quizOf_32 (by decide) (by omega) (by omega) (fun q32 => ?_) (fun q32 => ?_)
      · refine V_iconst dX4_quizOf_44 ?_
        refine V_goto (tgt := 62) dX4_quizOf_45 (by decide) ?_
        refine V_mp (f := 27) dX4_quizOf_62 f_RX4_72 rfl (by decide) hM hF (by omega) (fun h hM hF => ?_)
        refine V_aload_n dX4_quizOf_65 rfl ?_
        refine V_mg (f := 27) (z := 2) dX4_quizOf_66 fg_RX4_72 rfl (by decide) hM (by simp [sT, mset]) (fun r66 => ?_)
        refine V_if_le (tgt := 74) dX4_quizOf_69 (by decide) (by decide) (fun q69 => absurd q69 (by decide)) (fun _ => ?_)
        refine V_iconst dX4_quizOf_72 ?_
        refine V_iret dX4_quizOf_73 rfl ?_
        refine mret hM hF ?_ ?_ <;> (unfold s_quizOf; (repeat' split) <;> first | rfl | (exfalso; (try simp only [isQ, isP, isS, sFrc, sTw] at *); omega) | (rw [show mset M83 14 p 1 23 0 = M 23 0 from s83]; done) | (rw [show mset M83 14 p 1 23 0 = M 23 0 from s83]; rfl) | (rw [eN128, k83e, show k83 = M 11 p by omega]; done) | (rw [eN128, k83e, show k83 = M 11 p by omega]; rfl))
      · refine V_aload_n dX4_quizOf_35 rfl ?_
        refine V_mgA (f := 11) (a := 30) dX4_quizOf_36 fg_RX4_43 rfl (by decide) hM rfl ?_
        refine V_iload_n dX4_quizOf_39 rfl ?_
        refine V_mi (f := 11) (n := 12) (w := M 11 p) dX4_quizOf_40 rfl rfl (by decide) rfl rfl hM (by omega) rfl (fun r40 => ?_)
        have b40 := hI.a11 p
        refine V_if_ne (tgt := 48) dX4_quizOf_41 (by decide) (by omega) (fun q41 => ?_) (fun q41 => ?_)
        · refine V_aload_n dX4_quizOf_48 rfl ?_
          refine V_mg (f := 23) (z := M 23 0) dX4_quizOf_49 fg_RX4_86 rfl (by decide) hM rfl (fun r49 => ?_)
          refine V_bipush dX4_quizOf_52 (by decide) ?_
          refine V_icmp_ne (tgt := 61) dX4_quizOf_54 (by decide) (by omega) (by omega) (fun q54 => ?_) (fun q54 => ?_)
          · refine V_iconst dX4_quizOf_61 ?_
            refine V_mp (f := 27) dX4_quizOf_62 f_RX4_72 rfl (by decide) hM hF (by omega) (fun h hM hF => ?_)
            refine V_aload_n dX4_quizOf_65 rfl ?_
            refine V_mg (f := 27) (z := 0) dX4_quizOf_66 fg_RX4_72 rfl (by decide) hM (by simp [sT, mset]) (fun r66 => ?_)
            refine V_if_le (tgt := 74) dX4_quizOf_69 (by decide) (by decide) (fun _ => ?_) (fun q69 => absurd q69 (by decide))
            refine V_aload_n dX4_quizOf_74 rfl ?_
            refine V_mgA (f := 11) (a := 30) dX4_quizOf_75 fg_RX4_43 rfl (by decide) hM rfl ?_
            refine V_iload_n dX4_quizOf_78 rfl ?_
            refine V_mi (f := 11) (n := 12) (w := M 11 p) dX4_quizOf_79 rfl rfl (by decide) rfl rfl hM (by omega) (by simp [sT, mset]) (fun r79 => ?_)
            have b79 := hI.a11 p
            refine V_istore_n (lc' := [_, _, _, _]) dX4_quizOf_80 (by decide) rfl ?_
            refine V_iconst dX4_quizOf_81 ?_
            refine V_istore_n (lc' := [_, _, _, _]) dX4_quizOf_82 (by decide) rfl ?_
            have lp83 : ∀ k83 : Int, ∀ M83 : MS, (0 ≤ k83 ∧ k83 ≤ M 11 p ∧ M83 = sCqN (mset M 27 0 0) p k83.toNat) → ∀ h, MR h M83 → FR h0 h → V g m_X4_quizOf 7 (Qm h0 (some (xI ((s_quizOf M p).1))) ((s_quizOf M p).2)) h 83 [xR 18, xI p, xI (M 11 p), xI k83] [] := by
              refine lp_up (M 11 p) (fun k83 ih83 => ?_)
              intro M83 hk h hM hF
              obtain ⟨k83l, k83u, k83e⟩ := hk
              have oI83 := sCqN_o (M := mset M 27 0 0) (p := p) hI k83.toNat
              rw [← k83e] at oI83
              obtain ⟨o83, hI83⟩ := oI83
              have s83 : M83 23 0 = M 23 0 := o83 23 0 (by decide)
              refine V_iload_n dX4_quizOf_83 rfl ?_
              refine V_iload_n dX4_quizOf_84 rfl ?_
              refine V_icmp_ge (tgt := 119) dX4_quizOf_85 (by decide) (by omega) (by omega) (fun q85 => ?_) (fun q85 => ?_)
              · refine V_aload_n dX4_quizOf_119 rfl ?_
                refine V_mgA (f := 14) (a := 33) dX4_quizOf_120 fg_RX4_53 rfl (by decide) hM rfl ?_
                refine V_iload_n dX4_quizOf_123 rfl ?_
                refine V_iconst dX4_quizOf_124 ?_
                refine V_mzs (f := 14) (n := 12) dX4_quizOf_125 rfl rfl (by decide) rfl rfl hM hF (by omega) (by omega) (fun h hM hF => ?_)
                refine V_aload_n dX4_quizOf_126 rfl ?_
                refine V_iload_n dX4_quizOf_127 rfl ?_
                have hJ128 : IM (mset M83 14 p 1) := hI83.s14 (Or.inr rfl)
                refine V_mC (as := [_]) dX4_quizOf_128 c_RX4_169 rfl (by decide) rfl (Nat.le_of_ble_eq_true rfl) hM hF (T_X4_made g (mset M83 14 p 1) (M 11 p) (by omega) hJ128 (by omega) (show M83 23 0 ≤ 29 by omega)) (fun h hM hF => ?_)
                have hM : MR h (sSettle (mset (mset (mset (mset M83 14 p 1) 17 ((mset M83 14 p 1) 23 0) (M 11 p)) 13 ((mset M83 14 p 1) 23 0) 115) 23 0 ((mset M83 14 p 1) 23 0 + 1))) := hM
                obtain ⟨N128, eN128⟩ : ∃ X, X = sSettle (mset (mset (mset (mset M83 14 p 1) 17 ((mset M83 14 p 1) 23 0) (M 11 p)) 13 ((mset M83 14 p 1) 23 0) 115) 23 0 ((mset M83 14 p 1) 23 0 + 1)) := ⟨_, rfl⟩
                rw [← eN128] at hM
                obtain ⟨oN128, hIN128⟩ := sSettle_o (M := (mset (mset (mset (mset M83 14 p 1) 17 ((mset M83 14 p 1) 23 0) (M 11 p)) 13 ((mset M83 14 p 1) 23 0) 115) 23 0 ((mset M83 14 p 1) 23 0 + 1))) ((((hI83.s14 (Or.inr rfl)).s17 (by omega)).s13 (by omega)).s23 (show 0 ≤ M83 23 0 + 1 ∧ M83 23 0 + 1 ≤ 30 by omega))
                rw [← eN128] at oN128 hIN128
                refine V_aload_n dX4_quizOf_131 rfl ?_
                refine V_mg (f := 23) (z := ((mset M83 14 p 1) 23 0 + 1)) dX4_quizOf_132 fg_RX4_86 rfl (by decide) hM ((oN128 23 _ (by decide)).trans (by simp [sT, mset])) (fun r132 => ?_)
                refine V_iconst dX4_quizOf_135 ?_
                refine V_isub dX4_quizOf_136 ?_
                refine V_iret dX4_quizOf_137 rfl ?_
                refine mret hM hF ?_ ?_ <;> (unfold s_quizOf; (repeat' split) <;> first | rfl | (exfalso; (try simp only [isQ, isP, isS, sFrc, sTw] at *); omega) | (rw [show mset M83 14 p 1 23 0 = M 23 0 from s83]; done) | (rw [show mset M83 14 p 1 23 0 = M 23 0 from s83]; rfl) | (rw [eN128, k83e, show k83 = M 11 p by omega]; done) | (rw [eN128, k83e, show k83 = M 11 p by omega]; rfl))
              · refine V_aload_n dX4_quizOf_88 rfl ?_
                refine V_mgA (f := 16) (a := 35) dX4_quizOf_89 fg_RX4_60 rfl (by decide) hM rfl ?_
                refine V_bipush dX4_quizOf_92 (by decide) ?_
                refine V_aload_n dX4_quizOf_94 rfl ?_
                refine V_mg (f := 23) (z := M 23 0) dX4_quizOf_95 fg_RX4_86 rfl (by decide) hM ((o83 23 _ (by decide)).trans (by simp [sT, mset])) (fun r95 => ?_)
                refine V_imul dX4_quizOf_98 ?_
                refine V_iload_n dX4_quizOf_99 rfl ?_
                refine V_iadd dX4_quizOf_100 ?_
                refine V_aload_n dX4_quizOf_101 rfl ?_
                refine V_mgA (f := 10) (a := 29) dX4_quizOf_102 fg_RX4_40 rfl (by decide) hM rfl ?_
                refine V_bipush dX4_quizOf_105 (by decide) ?_
                refine V_iload_n dX4_quizOf_107 rfl ?_
                refine V_imul dX4_quizOf_108 ?_
                refine V_iload_n dX4_quizOf_109 rfl ?_
                refine V_iadd dX4_quizOf_110 ?_
                refine V_mi (f := 10) (n := 108) (w := M 10 ((9 * p) + k83)) dX4_quizOf_111 rfl rfl (by decide) rfl rfl hM (by omega) ((o83 10 _ (by decide)).trans (by simp [sT, mset])) (fun r111 => ?_)
                have b111 := hI.a10 ((9 * p) + k83)
                refine V_mis (f := 16) (n := 810) dX4_quizOf_112 rfl rfl (by decide) rfl rfl hM hF (by omega) (by omega) (fun h hM hF => ?_)
                refine V_iinc (lc' := [_, _, _, _]) dX4_quizOf_113 rfl (by decide) rfl ?_
                refine V_goto (tgt := 83) dX4_quizOf_116 (by decide) ?_
                exact ih83 (by omega) (mset M83 16 ((27 * (M 23 0)) + k83) (M 10 ((9 * p) + k83))) ⟨by omega, by omega, by rw [sCqN_s k83l, ← k83e]; rfl⟩ h hM hF
            exact lp83 0 (mset M 27 0 0) ⟨by omega, by omega, rfl⟩ h hM hF
          · refine V_iconst dX4_quizOf_57 ?_
            refine V_goto (tgt := 62) dX4_quizOf_58 (by decide) ?_
            refine V_mp (f := 27) dX4_quizOf_62 f_RX4_72 rfl (by decide) hM hF (by omega) (fun h hM hF => ?_)
            refine V_aload_n dX4_quizOf_65 rfl ?_
            refine V_mg (f := 27) (z := 3) dX4_quizOf_66 fg_RX4_72 rfl (by decide) hM (by simp [sT, mset]) (fun r66 => ?_)
            refine V_if_le (tgt := 74) dX4_quizOf_69 (by decide) (by decide) (fun q69 => absurd q69 (by decide)) (fun _ => ?_)
            refine V_iconst dX4_quizOf_72 ?_
            refine V_iret dX4_quizOf_73 rfl ?_
            refine mret hM hF ?_ ?_ <;> (unfold s_quizOf; (repeat' split) <;> first | rfl | (exfalso; (try simp only [isQ, isP, isS, sFrc, sTw] at *); omega) | (rw [show mset M83 14 p 1 23 0 = M 23 0 from s83]; done) | (rw [show mset M83 14 p 1 23 0 = M 23 0 from s83]; rfl) | (rw [eN128, k83e, show k83 = M 11 p by omega]; done) | (rw [eN128, k83e, show k83 = M 11 p by omega]; rfl))
        · refine V_iconst dX4_quizOf_44 ?_
          refine V_goto (tgt := 62) dX4_quizOf_45 (by decide) ?_
          refine V_mp (f := 27) dX4_quizOf_62 f_RX4_72 rfl (by decide) hM hF (by omega) (fun h hM hF => ?_)
          refine V_aload_n dX4_quizOf_65 rfl ?_
          refine V_mg (f := 27) (z := 2) dX4_quizOf_66 fg_RX4_72 rfl (by decide) hM (by simp [sT, mset]) (fun r66 => ?_)
          refine V_if_le (tgt := 74) dX4_quizOf_69 (by decide) (by decide) (fun q69 => absurd q69 (by decide)) (fun _ => ?_)
          refine V_iconst dX4_quizOf_72 ?_
          refine V_iret dX4_quizOf_73 rfl ?_
          refine mret hM hF ?_ ?_ <;> (unfold s_quizOf; (repeat' split) <;> first | rfl | (exfalso; (try simp only [isQ, isP, isS, sFrc, sTw] at *); omega) | (rw [show mset M83 14 p 1 23 0 = M 23 0 from s83]; done) | (rw [show mset M83 14 p 1 23 0 = M 23 0 from s83]; rfl) | (rw [eN128, k83e, show k83 = M 11 p by omega]; done) | (rw [eN128, k83e, show k83 = M 11 p by omega]; rfl))
  · refine V_iconst dX4_quizOf_9 ?_
    refine V_goto (tgt := 62) dX4_quizOf_10 (by decide) ?_
    refine V_mp (f := 27) dX4_quizOf_62 f_RX4_72 rfl (by decide) hM hF (by omega) (fun h hM hF => ?_)
    refine V_aload_n dX4_quizOf_65 rfl ?_
    refine V_mg (f := 27) (z := 1) dX4_quizOf_66 fg_RX4_72 rfl (by decide) hM (by simp [sT, mset]) (fun r66 => ?_)
    refine V_if_le (tgt := 74) dX4_quizOf_69 (by decide) (by decide) (fun q69 => absurd q69 (by decide)) (fun _ => ?_)
    refine V_iconst dX4_quizOf_72 ?_
    refine V_iret dX4_quizOf_73 rfl ?_
    refine mret hM hF ?_ ?_ <;> (unfold s_quizOf; (repeat' split) <;> first | rfl | (exfalso; (try simp only [isQ, isP, isS, sFrc, sTw] at *); omega) | (rw [show mset M83 14 p 1 23 0 = M 23 0 from s83]; done) | (rw [show mset M83 14 p 1 23 0 = M 23 0 from s83]; rfl) | (rw [eN128, k83e, show k83 = M 11 p by omega]; done) | (rw [eN128, k83e, show k83 = M 11 p by omega]; rfl))
theorem T_X4_cancel (g : GP) (M : MS) (s : Int) (r_s : -2147483648 ≤ s ∧ s ≤ 2147483647) (hI : IM M) : TM g m_X4_cancel 6 [xI s] M (some (xI ((s_cancel M s).1))) ((s_cancel M s).2) := by
  refine TM.of (by decide) rfl (fun v hv => ?_) (Nat.le_of_ble_eq_true rfl) ?_
  · simp only [List.mem_cons, List.not_mem_nil, or_false] at hv
    subst hv; exact ⟨_, rfl⟩
  intro h0 h hM hF
  change V g m_X4_cancel 6 _ h 0 [xR 18, xI s] []
  obtain ⟨⟨i19, i20, i21, i22, i23, i24, i25, i26, i29⟩, iA⟩ := id hI
  refine V_aload_n dX4_cancel_0 rfl ?_
  refine V_iload_n dX4_cancel_1 rfl ?_
  refine V_mC (as := [_]) dX4_cancel_2 c_RX4_179 rfl (by decide) rfl (Nat.le_of_ble_eq_true rfl) hM hF (T_X4_wrongSheet g M s (by omega) hI) (fun h hM hF => ?_)
  rcases tS_c M s with ⟨et, et1, et2⟩ | ⟨et, et1⟩
  · rw [et] at hM ⊢
    refine V_if_ne (tgt := 24) dX4_cancel_5 (by decide) (by decide) (fun q5 => absurd q5 (by decide)) (fun _ => ?_)
    refine V_aload_n dX4_cancel_8 rfl ?_
    refine V_mgA (f := 13) (a := 32) dX4_cancel_9 fg_RX4_50 rfl (by decide) hM rfl ?_
    refine V_iload_n dX4_cancel_12 rfl ?_
    refine V_mc (f := 13) (n := 30) (w := M 13 s) dX4_cancel_13 rfl rfl (by decide) rfl rfl hM (by omega) (by simp [sT, mset]) (fun r13 => ?_)
    have b13 := hI.a13 s
    refine V_bipush dX4_cancel_14 (by decide) ?_
    refine V_icmp_eq (tgt := 24) dX4_cancel_16 (by decide) (by omega) (by omega) (fun q16 => ?_) (fun q16 => ?_)
    · refine V_aload_n dX4_cancel_24 rfl ?_
      refine V_mg (f := 27) (z := 0) dX4_cancel_25 fg_RX4_72 rfl (by decide) hM (by simp [sT, mset]) (fun r25 => ?_)
      refine V_if_le (tgt := 33) dX4_cancel_28 (by decide) (by decide) (fun _ => ?_) (fun q28 => absurd q28 (by decide))
      refine V_aload_n dX4_cancel_33 rfl ?_
      refine V_mgA (f := 13) (a := 32) dX4_cancel_34 fg_RX4_50 rfl (by decide) hM rfl ?_
      refine V_iload_n dX4_cancel_37 rfl ?_
      refine V_bipush dX4_cancel_38 (by decide) ?_
      refine V_mcs (f := 13) (n := 30) dX4_cancel_40 rfl rfl (by decide) rfl rfl hM hF (by omega) (by omega) (fun h hM hF => ?_)
      refine V_aload_n dX4_cancel_41 rfl ?_
      have hJ42 : IM (mset (mset M 27 0 0) 13 s 99) := IM.s13 (M := mset M 27 0 0) hI (by omega)
      refine V_mC (as := []) dX4_cancel_42 c_RX4_92 rfl (by decide) rfl (Nat.le_of_ble_eq_true rfl) hM hF (T_X4_settle g (mset (mset M 27 0 0) 13 s 99)  hJ42) (fun h hM hF => ?_)
      obtain ⟨N42, eN42⟩ : ∃ X, X = sSettle (mset (mset M 27 0 0) 13 s 99) := ⟨_, rfl⟩
      rw [← eN42] at hM
      obtain ⟨oN42, hIN42⟩ := sSettle_o hJ42
      rw [← eN42] at oN42 hIN42
      refine V_aload_n dX4_cancel_45 rfl ?_
      refine V_mgA (f := 17) (a := 36) dX4_cancel_46 fg_RX4_63 rfl (by decide) hM rfl ?_
      refine V_iload_n dX4_cancel_49 rfl ?_
      refine V_mi (f := 17) (n := 30) (w := M 17 s) dX4_cancel_50 rfl rfl (by decide) rfl rfl hM (by omega) ((oN42 17 _ (by decide)).trans (by simp [sT, mset])) (fun r50 => ?_)
      have b50 := hI.a17 s
      refine V_iret dX4_cancel_51 rfl ?_
      refine mret hM hF ?_ ?_ <;> (unfold s_cancel; (repeat' split) <;> first | rfl | (exfalso; (try simp only [isQ, isP, isS, sFrc, sTw] at *); omega) | (rw [eN42]; done) | (rw [eN42]; rfl))
    · refine V_aload_n dX4_cancel_19 rfl ?_
      refine V_iconst dX4_cancel_20 ?_
      refine V_mp (f := 27) dX4_cancel_21 f_RX4_72 rfl (by decide) hM hF (by omega) (fun h hM hF => ?_)
      refine V_aload_n dX4_cancel_24 rfl ?_
      refine V_mg (f := 27) (z := 2) dX4_cancel_25 fg_RX4_72 rfl (by decide) hM (by simp [sT, mset]) (fun r25 => ?_)
      refine V_if_le (tgt := 33) dX4_cancel_28 (by decide) (by decide) (fun q28 => absurd q28 (by decide)) (fun _ => ?_)
      refine V_iconst dX4_cancel_31 ?_
      refine V_iret dX4_cancel_32 rfl ?_
      refine mret hM hF ?_ ?_ <;> (unfold s_cancel; (repeat' split) <;> first | rfl | (exfalso; (try simp only [isQ, isP, isS, sFrc, sTw] at *); omega) | (rw [eN42]; done) | (rw [eN42]; rfl))
  · rw [et] at hM ⊢
    refine V_if_ne (tgt := 24) dX4_cancel_5 (by decide) (by decide) (fun _ => ?_) (fun q5 => absurd q5 (by decide))
    refine V_aload_n dX4_cancel_24 rfl ?_
    refine V_mg (f := 27) (z := 1) dX4_cancel_25 fg_RX4_72 rfl (by decide) hM (by simp [sT, mset]) (fun r25 => ?_)
    refine V_if_le (tgt := 33) dX4_cancel_28 (by decide) (by decide) (fun q28 => absurd q28 (by decide)) (fun _ => ?_)
    refine V_iconst dX4_cancel_31 ?_
    refine V_iret dX4_cancel_32 rfl ?_
    refine mret hM hF ?_ ?_ <;> (unfold s_cancel; (repeat' split) <;> first | rfl | (exfalso; (try simp only [isQ, isP, isS, sFrc, sTw] at *); omega) | (rw [eN42]; done) | (rw [eN42]; rfl))
theorem T_X4_print (g : GP) (M : MS)   (hI : IM M) : TM g m_X4_print 6 [] M (some (xI ((s_print M).1))) ((s_print M).2) := by
  refine TM.of (by decide) rfl (fun v hv => ?_) (Nat.le_of_ble_eq_true rfl) ?_
  · cases hv
  intro h0 h hM hF
  change V g m_X4_print 6 _ h 0 [xR 18, xU, xU] []
  obtain ⟨⟨i19, i20, i21, i22, i23, i24, i25, i26, i29⟩, iA⟩ := id hI
  refine V_iconst dX4_print_0 ?_
  refine V_istore_n (lc' := [_, _, _]) dX4_print_1 (by decide) rfl ?_
  have lp2 : ∀ k2 : Int, (0 ≤ k2 ∧ k2 ≤ M 23 0 ∧ ∀ j : Int, 0 ≤ j → j < k2 → M 13 j ≠ 115) → ∀ h, MR h M → FR h0 h → V g m_X4_print 6 (Qm h0 (some (xI ((s_print M).1))) ((s_print M).2)) h 2 [xR 18, xI k2, xU] [] := by
    refine lp_up (M 23 0) (fun k2 ih2 => ?_)
    intro hk h hM hF
    obtain ⟨k2l, k2u, k2A⟩ := hk
    refine V_iload_n dX4_print_2 rfl ?_
    refine V_aload_n dX4_print_3 rfl ?_
    refine V_mg (f := 23) (z := M 23 0) dX4_print_4 fg_RX4_86 rfl (by decide) hM rfl (fun r4 => ?_)
    refine V_icmp_ge (tgt := 27) dX4_print_7 (by decide) (by omega) (by omega) (fun q7 => ?_) (fun q7 => ?_)
    · have eF : sFst M (M 23 0).toNat = k2 := by rw [sFst_no _ (fun j a b => k2A j a (by omega))]; omega
      refine V_aload_n dX4_print_27 rfl ?_
      refine V_aload_n dX4_print_28 rfl ?_
      refine V_mg (f := 29) (z := M 29 0) dX4_print_29 fg_RX4_182 rfl (by decide) hM rfl (fun r29 => ?_)
      refine V_if_eq (tgt := 39) dX4_print_32 (by decide) (by omega) (fun q32 => ?_) (fun q32 => ?_)
      · refine V_iload_n dX4_print_39 rfl ?_
        refine V_aload_n dX4_print_40 rfl ?_
        refine V_mg (f := 23) (z := M 23 0) dX4_print_41 fg_RX4_86 rfl (by decide) hM rfl (fun r41 => ?_)
        refine V_icmp_ne (tgt := 51) dX4_print_44 (by decide) (by omega) (by omega) (fun q44 => ?_) (fun q44 => ?_)
        · refine V_iconst dX4_print_51 ?_
          refine V_mp (f := 27) dX4_print_52 f_RX4_72 rfl (by decide) hM hF (by omega) (fun h hM hF => ?_)
          refine V_aload_n dX4_print_55 rfl ?_
          refine V_mg (f := 27) (z := 0) dX4_print_56 fg_RX4_72 rfl (by decide) hM (by simp [sT, mset]) (fun r56 => ?_)
          refine V_if_le (tgt := 64) dX4_print_59 (by decide) (by decide) (fun _ => ?_) (fun q59 => absurd q59 (by decide))
          refine V_aload_n dX4_print_64 rfl ?_
          refine V_mgA (f := 13) (a := 32) dX4_print_65 fg_RX4_50 rfl (by decide) hM rfl ?_
          refine V_iload_n dX4_print_68 rfl ?_
          refine V_bipush dX4_print_69 (by decide) ?_
          refine V_mcs (f := 13) (n := 30) dX4_print_71 rfl rfl (by decide) rfl rfl hM hF (by omega) (by omega) (fun h hM hF => ?_)
          refine V_iconst dX4_print_72 ?_
          refine V_istore_n (lc' := [_, _, _]) dX4_print_73 (by decide) rfl ?_
          have b17 := hI.a17 k2
          have lp74 : ∀ k74 : Int, ∀ M74 : MS, (0 ≤ k74 ∧ k74 ≤ M 17 k2 ∧ M74 = sPrN (mset (mset M 27 0 0) 13 k2 112) k2 k74.toNat) → ∀ h, MR h M74 → FR h0 h → V g m_X4_print 6 (Qm h0 (some (xI ((s_print M).1))) ((s_print M).2)) h 74 [xR 18, xI k2, xI k74] [] := by
            refine lp_up (M 17 k2) (fun k74 ih74 => ?_)
            intro M74 hk h hM hF
            obtain ⟨k74l, k74u, k74e⟩ := hk
            have oI74 := sPrN_o (M := mset (mset M 27 0 0) 13 k2 112) (s := k2) (IM.s13 (M := mset M 27 0 0) hI (by omega)) k74.toNat
            rw [← k74e] at oI74
            obtain ⟨o74, hI74⟩ := oI74
            refine V_iload_n dX4_print_74 rfl ?_
            refine V_aload_n dX4_print_75 rfl ?_
            refine V_mgA (f := 17) (a := 36) dX4_print_76 fg_RX4_63 rfl (by decide) hM rfl ?_
            refine V_iload_n dX4_print_79 rfl ?_
            refine V_mi (f := 17) (n := 30) (w := M 17 k2) dX4_print_80 rfl rfl (by decide) rfl rfl hM (by omega) ((o74 17 _ (by decide)).trans (by simp [sT, mset])) (fun r80 => ?_)
            have b80 := hI.a17 k2
            refine V_icmp_ge (tgt := 110) dX4_print_81 (by decide) (by omega) (by omega) (fun q81 => ?_) (fun q81 => ?_)
            · refine V_aload_n dX4_print_110 rfl ?_
              have hJ111 : IM M74 := hI74
              refine V_mC (as := []) dX4_print_111 c_RX4_92 rfl (by decide) rfl (Nat.le_of_ble_eq_true rfl) hM hF (T_X4_settle g M74  hJ111) (fun h hM hF => ?_)
              obtain ⟨N111, eN111⟩ : ∃ X, X = sSettle M74 := ⟨_, rfl⟩
              rw [← eN111] at hM
              obtain ⟨oN111, hIN111⟩ := sSettle_o hJ111
              rw [← eN111] at oN111 hIN111
              refine V_iload_n dX4_print_114 rfl ?_
              refine V_iret dX4_print_115 rfl ?_
              refine mret hM hF ?_ ?_ <;> (unfold s_print; rw [eF]; (repeat' split) <;> first | rfl | (exfalso; omega) | (rw [eN111, k74e, show k74 = M 17 k2 by omega]; try rfl))
            · refine V_aload_n dX4_print_84 rfl ?_
              refine V_mgA (f := 5) (a := 24) dX4_print_85 fg_RX4_25 rfl (by decide) hM rfl ?_
              refine V_aload_n dX4_print_88 rfl ?_
              refine V_mgA (f := 16) (a := 35) dX4_print_89 fg_RX4_60 rfl (by decide) hM rfl ?_
              refine V_bipush dX4_print_92 (by decide) ?_
              refine V_iload_n dX4_print_94 rfl ?_
              refine V_imul dX4_print_95 ?_
              refine V_iload_n dX4_print_96 rfl ?_
              refine V_iadd dX4_print_97 ?_
              refine V_mi (f := 16) (n := 810) (w := M 16 ((27 * k2) + k74)) dX4_print_98 rfl rfl (by decide) rfl rfl hM (by omega) ((o74 16 _ (by decide)).trans (by simp [sT, mset])) (fun r98 => ?_)
              have b98 := hI.a16 ((27 * k2) + k74)
              refine V_aload_n dX4_print_99 rfl ?_
              refine V_mg (f := 24) (z := M 24 0) dX4_print_100 fg_RX4_123 rfl (by decide) hM ((o74 24 _ (by decide)).trans (by simp [sT, mset])) (fun r100 => ?_)
              refine V_mis (f := 5) (n := 40) dX4_print_103 rfl rfl (by decide) rfl rfl hM hF (by omega) (by omega) (fun h hM hF => ?_)
              refine V_iinc (lc' := [_, _, _]) dX4_print_104 rfl (by decide) rfl ?_
              refine V_goto (tgt := 74) dX4_print_107 (by decide) ?_
              exact ih74 (by omega) (mset M74 5 (M 16 ((27 * k2) + k74)) (M 24 0)) ⟨by omega, by omega, by rw [sPrN_s k74l, ← k74e]; try rfl⟩ h hM hF
          exact lp74 0 (mset (mset M 27 0 0) 13 k2 112) ⟨by omega, by omega, rfl⟩ h hM hF
        · refine V_iconst dX4_print_47 ?_
          refine V_goto (tgt := 52) dX4_print_48 (by decide) ?_
          refine V_mp (f := 27) dX4_print_52 f_RX4_72 rfl (by decide) hM hF (by omega) (fun h hM hF => ?_)
          refine V_aload_n dX4_print_55 rfl ?_
          refine V_mg (f := 27) (z := 2) dX4_print_56 fg_RX4_72 rfl (by decide) hM (by simp [sT, mset]) (fun r56 => ?_)
          refine V_if_le (tgt := 64) dX4_print_59 (by decide) (by decide) (fun q59 => absurd q59 (by decide)) (fun _ => ?_)
          refine V_iconst dX4_print_62 ?_
          refine V_iret dX4_print_63 rfl ?_
          refine mret hM hF ?_ ?_ <;> (unfold s_print; rw [eF]; (repeat' split) <;> first | rfl | (exfalso; omega) | (rw [eN111, k74e, show k74 = M 17 k2 by omega]; try rfl))
      · refine V_iconst dX4_print_35 ?_
        refine V_goto (tgt := 52) dX4_print_36 (by decide) ?_
        refine V_mp (f := 27) dX4_print_52 f_RX4_72 rfl (by decide) hM hF (by omega) (fun h hM hF => ?_)
        refine V_aload_n dX4_print_55 rfl ?_
        refine V_mg (f := 27) (z := 1) dX4_print_56 fg_RX4_72 rfl (by decide) hM (by simp [sT, mset]) (fun r56 => ?_)
        refine V_if_le (tgt := 64) dX4_print_59 (by decide) (by decide) (fun q59 => absurd q59 (by decide)) (fun _ => ?_)
        refine V_iconst dX4_print_62 ?_
        refine V_iret dX4_print_63 rfl ?_
        refine mret hM hF ?_ ?_ <;> (unfold s_print; rw [eF]; (repeat' split) <;> first | rfl | (exfalso; omega) | (rw [eN111, k74e, show k74 = M 17 k2 by omega]; try rfl))
    · refine V_aload_n dX4_print_10 rfl ?_
      refine V_mgA (f := 13) (a := 32) dX4_print_11 fg_RX4_50 rfl (by decide) hM rfl ?_
      refine V_iload_n dX4_print_14 rfl ?_
      refine V_mc (f := 13) (n := 30) (w := M 13 k2) dX4_print_15 rfl rfl (by decide) rfl rfl hM (by omega) rfl (fun r15 => ?_)
      have b15 := hI.a13 k2
      refine V_bipush dX4_print_16 (by decide) ?_
      refine V_icmp_eq (tgt := 27) dX4_print_18 (by decide) (by omega) (by omega) (fun q18 => ?_) (fun q18 => ?_)
      · have eF : sFst M (M 23 0).toNat = k2 := sFst_at k2l k2A q18 _ (by omega)
        refine V_aload_n dX4_print_27 rfl ?_
        refine V_aload_n dX4_print_28 rfl ?_
        refine V_mg (f := 29) (z := M 29 0) dX4_print_29 fg_RX4_182 rfl (by decide) hM rfl (fun r29 => ?_)
        refine V_if_eq (tgt := 39) dX4_print_32 (by decide) (by omega) (fun q32 => ?_) (fun q32 => ?_)
        · refine V_iload_n dX4_print_39 rfl ?_
          refine V_aload_n dX4_print_40 rfl ?_
          refine V_mg (f := 23) (z := M 23 0) dX4_print_41 fg_RX4_86 rfl (by decide) hM rfl (fun r41 => ?_)
          refine V_icmp_ne (tgt := 51) dX4_print_44 (by decide) (by omega) (by omega) (fun q44 => ?_) (fun q44 => ?_)
          · refine V_iconst dX4_print_51 ?_
            refine V_mp (f := 27) dX4_print_52 f_RX4_72 rfl (by decide) hM hF (by omega) (fun h hM hF => ?_)
            refine V_aload_n dX4_print_55 rfl ?_
            refine V_mg (f := 27) (z := 0) dX4_print_56 fg_RX4_72 rfl (by decide) hM (by simp [sT, mset]) (fun r56 => ?_)
            refine V_if_le (tgt := 64) dX4_print_59 (by decide) (by decide) (fun _ => ?_) (fun q59 => absurd q59 (by decide))
            refine V_aload_n dX4_print_64 rfl ?_
            refine V_mgA (f := 13) (a := 32) dX4_print_65 fg_RX4_50 rfl (by decide) hM rfl ?_
            refine V_iload_n dX4_print_68 rfl ?_
            refine V_bipush dX4_print_69 (by decide) ?_
            refine V_mcs (f := 13) (n := 30) dX4_print_71 rfl rfl (by decide) rfl rfl hM hF (by omega) (by omega) (fun h hM hF => ?_)
            refine V_iconst dX4_print_72 ?_
            refine V_istore_n (lc' := [_, _, _]) dX4_print_73 (by decide) rfl ?_
            have b17 := hI.a17 k2
            have lp74 : ∀ k74 : Int, ∀ M74 : MS, (0 ≤ k74 ∧ k74 ≤ M 17 k2 ∧ M74 = sPrN (mset (mset M 27 0 0) 13 k2 112) k2 k74.toNat) → ∀ h, MR h M74 → FR h0 h → V g m_X4_print 6 (Qm h0 (some (xI ((s_print M).1))) ((s_print M).2)) h 74 [xR 18, xI k2, xI k74] [] := by
              refine lp_up (M 17 k2) (fun k74 ih74 => ?_)
              intro M74 hk h hM hF
              obtain ⟨k74l, k74u, k74e⟩ := hk
              have oI74 := sPrN_o (M := mset (mset M 27 0 0) 13 k2 112) (s := k2) (IM.s13 (M := mset M 27 0 0) hI (by omega)) k74.toNat
              rw [← k74e] at oI74
              obtain ⟨o74, hI74⟩ := oI74
              refine V_iload_n dX4_print_74 rfl ?_
              refine V_aload_n dX4_print_75 rfl ?_
              refine V_mgA (f := 17) (a := 36) dX4_print_76 fg_RX4_63 rfl (by decide) hM rfl ?_
              refine V_iload_n dX4_print_79 rfl ?_
              refine V_mi (f := 17) (n := 30) (w := M 17 k2) dX4_print_80 rfl rfl (by decide) rfl rfl hM (by omega) ((o74 17 _ (by decide)).trans (by simp [sT, mset])) (fun r80 => ?_)
              have b80 := hI.a17 k2
              refine V_icmp_ge (tgt := 110) dX4_print_81 (by decide) (by omega) (by omega) (fun q81 => ?_) (fun q81 => ?_)
              · refine V_aload_n dX4_print_110 rfl ?_
                have hJ111 : IM M74 := hI74
                refine V_mC (as := []) dX4_print_111 c_RX4_92 rfl (by decide) rfl (Nat.le_of_ble_eq_true rfl) hM hF (T_X4_settle g M74  hJ111) (fun h hM hF => ?_)
                obtain ⟨N111, eN111⟩ : ∃ X, X = sSettle M74 := ⟨_, rfl⟩
                rw [← eN111] at hM
                obtain ⟨oN111, hIN111⟩ := sSettle_o hJ111
                rw [← eN111] at oN111 hIN111
                refine V_iload_n dX4_print_114 rfl ?_
                refine V_iret dX4_print_115 rfl ?_
                refine mret hM hF ?_ ?_ <;> (unfold s_print; rw [eF]; (repeat' split) <;> first | rfl | (exfalso; omega) | (rw [eN111, k74e, show k74 = M 17 k2 by omega]; try rfl))
              · refine V_aload_n dX4_print_84 rfl ?_
                refine V_mgA (f := 5) (a := 24) dX4_print_85 fg_RX4_25 rfl (by decide) hM rfl ?_
                refine V_aload_n dX4_print_88 rfl ?_
                refine V_mgA (f := 16) (a := 35) dX4_print_89 fg_RX4_60 rfl (by decide) hM rfl ?_
                refine V_bipush dX4_print_92 (by decide) ?_
                refine V_iload_n dX4_print_94 rfl ?_
                refine V_imul dX4_print_95 ?_
                refine V_iload_n dX4_print_96 rfl ?_
                refine V_iadd dX4_print_97 ?_
                refine V_mi (f := 16) (n := 810) (w := M 16 ((27 * k2) + k74)) dX4_print_98 rfl rfl (by decide) rfl rfl hM (by omega) ((o74 16 _ (by decide)).trans (by simp [sT, mset])) (fun r98 => ?_)
                have b98 := hI.a16 ((27 * k2) + k74)
                refine V_aload_n dX4_print_99 rfl ?_
                refine V_mg (f := 24) (z := M 24 0) dX4_print_100 fg_RX4_123 rfl (by decide) hM ((o74 24 _ (by decide)).trans (by simp [sT, mset])) (fun r100 => ?_)
                refine V_mis (f := 5) (n := 40) dX4_print_103 rfl rfl (by decide) rfl rfl hM hF (by omega) (by omega) (fun h hM hF => ?_)
                refine V_iinc (lc' := [_, _, _]) dX4_print_104 rfl (by decide) rfl ?_
                refine V_goto (tgt := 74) dX4_print_107 (by decide) ?_
                exact ih74 (by omega) (mset M74 5 (M 16 ((27 * k2) + k74)) (M 24 0)) ⟨by omega, by omega, by rw [sPrN_s k74l, ← k74e]; try rfl⟩ h hM hF
            exact lp74 0 (mset (mset M 27 0 0) 13 k2 112) ⟨by omega, by omega, rfl⟩ h hM hF
          · refine V_iconst dX4_print_47 ?_
            refine V_goto (tgt := 52) dX4_print_48 (by decide) ?_
            refine V_mp (f := 27) dX4_print_52 f_RX4_72 rfl (by decide) hM hF (by omega) (fun h hM hF => ?_)
            refine V_aload_n dX4_print_55 rfl ?_
            refine V_mg (f := 27) (z := 2) dX4_print_56 fg_RX4_72 rfl (by decide) hM (by simp [sT, mset]) (fun r56 => ?_)
            refine V_if_le (tgt := 64) dX4_print_59 (by decide) (by decide) (fun q59 => absurd q59 (by decide)) (fun _ => ?_)
            refine V_iconst dX4_print_62 ?_
            refine V_iret dX4_print_63 rfl ?_
            refine mret hM hF ?_ ?_ <;> (unfold s_print; rw [eF]; (repeat' split) <;> first | rfl | (exfalso; omega) | (rw [eN111, k74e, show k74 = M 17 k2 by omega]; try rfl))
        · refine V_iconst dX4_print_35 ?_
          refine V_goto (tgt := 52) dX4_print_36 (by decide) ?_
          refine V_mp (f := 27) dX4_print_52 f_RX4_72 rfl (by decide) hM hF (by omega) (fun h hM hF => ?_)
          refine V_aload_n dX4_print_55 rfl ?_
          refine V_mg (f := 27) (z := 1) dX4_print_56 fg_RX4_72 rfl (by decide) hM (by simp [sT, mset]) (fun r56 => ?_)
          refine V_if_le (tgt := 64) dX4_print_59 (by decide) (by decide) (fun q59 => absurd q59 (by decide)) (fun _ => ?_)
          refine V_iconst dX4_print_62 ?_
          refine V_iret dX4_print_63 rfl ?_
          refine mret hM hF ?_ ?_ <;> (unfold s_print; rw [eF]; (repeat' split) <;> first | rfl | (exfalso; omega) | (rw [eN111, k74e, show k74 = M 17 k2 by omega]; try rfl))
      · refine V_iinc (lc' := [_, _, _]) dX4_print_21 rfl (by decide) rfl ?_
        refine V_goto (tgt := 2) dX4_print_24 (by decide) ?_
        exact ih2 (by omega) ⟨by omega, by omega, all_succ k2A (by first | assumption |  omega)⟩ h hM hF
  exact lp2 0 ⟨by omega, by omega, fun j a b => absurd b (by omega)⟩ h hM hF
theorem T_X4_answer (g : GP) (M : MS) (s : Int) (i : Int) (b : Prop) (r_s : -2147483648 ≤ s ∧ s ≤ 2147483647) (r_i : -2147483648 ≤ i ∧ i ≤ 2147483647) (hI : IM M) (h1 : M 25 0 ≤ 999999) (h2 : M 26 0 ≤ 999999) : TM g m_X4_answer 6 [xI s, xI i, xI (pI b)] M (some (xI ((s_answer M s i b).1))) ((s_answer M s i b).2) := by
  refine TM.of (by decide) rfl (fun v hv => ?_) (Nat.le_of_ble_eq_true rfl) ?_
  · simp only [List.mem_cons, List.not_mem_nil, or_false] at hv
    rcases hv with rfl | rfl | rfl <;> exact ⟨_, rfl⟩
  intro h0 h hM hF
  change V g m_X4_answer 6 _ h 0 [xR 18, xI s, xI i, xI (pI b), xU, xU] []
  obtain ⟨⟨i19, i20, i21, i22, i23, i24, i25, i26, i29⟩, iA⟩ := id hI
  refine V_aload_n dX4_answer_0 rfl ?_
  refine V_iload_n dX4_answer_1 rfl ?_
  refine V_mC (as := [_]) dX4_answer_2 c_RX4_179 rfl (by decide) rfl (Nat.le_of_ble_eq_true rfl) hM hF (T_X4_wrongSheet g M s (by omega) hI) (fun h hM hF => ?_)
  rcases tS_c M s with ⟨et, et1, et2⟩ | ⟨et, et1⟩
  · rw [et] at hM ⊢
    refine V_if_ne (tgt := 62) dX4_answer_5 (by decide) (by decide) (fun q5 => absurd q5 (by decide)) (fun _ => ?_)
    refine V_aload_n dX4_answer_8 rfl ?_
    refine V_aload_n dX4_answer_9 rfl ?_
    refine V_mgA (f := 13) (a := 32) dX4_answer_10 fg_RX4_50 rfl (by decide) hM rfl ?_
    refine V_iload_n dX4_answer_13 rfl ?_
    refine V_mc (f := 13) (n := 30) (w := M 13 s) dX4_answer_14 rfl rfl (by decide) rfl rfl hM (by omega) (by simp [sT, mset]) (fun r14 => ?_)
    have b14 := hI.a13 s
    refine V_bipush dX4_answer_15 (by decide) ?_
    refine V_icmp_eq (tgt := 24) dX4_answer_17 (by decide) (by omega) (by omega) (fun q17 => ?_) (fun q17 => ?_)
    · refine V_iload_n dX4_answer_24 rfl ?_
      refine V_iconst dX4_answer_25 ?_
      refine V_aload_n dX4_answer_26 rfl ?_
      refine V_mgA (f := 17) (a := 36) dX4_answer_27 fg_RX4_63 rfl (by decide) hM rfl ?_
      refine V_iload_n dX4_answer_30 rfl ?_
      refine V_mi (f := 17) (n := 30) (w := M 17 s) dX4_answer_31 rfl rfl (by decide) rfl rfl hM (by omega) (by simp [sT, mset]) (fun r31 => ?_)
      have b31 := hI.a17 s
      refine V_iconst dX4_answer_32 ?_
      refine V_isub dX4_answer_33 ?_
      refine V_pS (as := [_, _, _]) dX4_answer_34 c_RX4_79 rfl (by decide) rfl (Nat.le_of_ble_eq_true rfl) (T_X4_in g i 0 ((M 17 s) - 1) (by omega) (by omega) (by omega)) ?_
      refine V_ifb_eq (tgt := 54) dX4_answer_37 (by decide) (fun q37 => ?_) (fun q37 => ?_)
      · refine V_iconst dX4_answer_54 ?_
        refine V_goto (tgt := 59) dX4_answer_55 (by decide) ?_
        refine V_mp (f := 27) dX4_answer_59 f_RX4_72 rfl (by decide) hM hF (by omega) (fun h hM hF => ?_)
        refine V_aload_n dX4_answer_62 rfl ?_
        refine V_mg (f := 27) (z := 3) dX4_answer_63 fg_RX4_72 rfl (by decide) hM (by simp [sT, mset]) (fun r63 => ?_)
        refine V_if_le (tgt := 71) dX4_answer_66 (by decide) (by decide) (fun q66 => absurd q66 (by decide)) (fun _ => ?_)
        refine V_iconst dX4_answer_69 ?_
        refine V_iret dX4_answer_70 rfl ?_
        refine mret hM hF ?_ ?_ <;> (unfold s_answer; (repeat' split) <;> first | rfl | (exfalso; (try simp only [isQ, isP, isS, sFrc, sTw] at *); omega))
      · refine V_aload_n dX4_answer_40 rfl ?_
        refine V_mgA (f := 15) (a := 34) dX4_answer_41 fg_RX4_57 rfl (by decide) hM rfl ?_
        refine V_bipush dX4_answer_44 (by decide) ?_
        refine V_iload_n dX4_answer_46 rfl ?_
        refine V_imul dX4_answer_47 ?_
        refine V_iload_n dX4_answer_48 rfl ?_
        refine V_iadd dX4_answer_49 ?_
        refine V_mz (f := 15) (n := 810) (w := M 15 ((27 * s) + i)) dX4_answer_50 rfl rfl (by decide) rfl rfl hM (by omega) (by simp [sT, mset]) (fun r50 => ?_)
        have b50 := hI.a15 ((27 * s) + i)
        refine V_if_eq (tgt := 58) dX4_answer_51 (by decide) (by omega) (fun q51 => ?_) (fun q51 => ?_)
        · refine V_iconst dX4_answer_58 ?_
          refine V_mp (f := 27) dX4_answer_59 f_RX4_72 rfl (by decide) hM hF (by omega) (fun h hM hF => ?_)
          refine V_aload_n dX4_answer_62 rfl ?_
          refine V_mg (f := 27) (z := 0) dX4_answer_63 fg_RX4_72 rfl (by decide) hM (by simp [sT, mset]) (fun r63 => ?_)
          refine V_if_le (tgt := 71) dX4_answer_66 (by decide) (by decide) (fun _ => ?_) (fun q66 => absurd q66 (by decide))
          refine V_aload_n dX4_answer_71 rfl ?_
          refine V_mgA (f := 15) (a := 34) dX4_answer_72 fg_RX4_57 rfl (by decide) hM rfl ?_
          refine V_bipush dX4_answer_75 (by decide) ?_
          refine V_iload_n dX4_answer_77 rfl ?_
          refine V_imul dX4_answer_78 ?_
          refine V_iload_n dX4_answer_79 rfl ?_
          refine V_iadd dX4_answer_80 ?_
          refine V_iconst dX4_answer_81 ?_
          refine V_mzs (f := 15) (n := 810) dX4_answer_82 rfl rfl (by decide) rfl rfl hM hF (by omega) (by omega) (fun h hM hF => ?_)
          refine V_aload_n dX4_answer_83 rfl ?_
          refine V_mgA (f := 16) (a := 35) dX4_answer_84 fg_RX4_60 rfl (by decide) hM rfl ?_
          refine V_bipush dX4_answer_87 (by decide) ?_
          refine V_iload_n dX4_answer_89 rfl ?_
          refine V_imul dX4_answer_90 ?_
          refine V_iload_n dX4_answer_91 rfl ?_
          refine V_iadd dX4_answer_92 ?_
          refine V_mi (f := 16) (n := 810) (w := M 16 ((27 * s) + i)) dX4_answer_93 rfl rfl (by decide) rfl rfl hM (by omega) (by simp [sT, mset]) (fun r93 => ?_)
          have b93 := hI.a16 ((27 * s) + i)
          refine V_istore (lc' := [_, _, _, _, _, _]) dX4_answer_94 (by decide) rfl ?_
          refine V_aload_n dX4_answer_96 rfl ?_
          refine V_mgA (f := 3) (a := 22) dX4_answer_97 fg_RX4_19 rfl (by decide) hM rfl ?_
          refine V_iload dX4_answer_100 rfl ?_
          refine V_mi (f := 3) (n := 40) (w := M 3 (M 16 ((27 * s) + i))) dX4_answer_102 rfl rfl (by decide) rfl rfl hM (by omega) (by simp [sT, mset]) (fun r102 => ?_)
          have b102 := hI.a3 (M 16 ((27 * s) + i))
          refine V_istore (lc' := [_, _, _, _, _, _]) dX4_answer_103 (by decide) rfl ?_
          refine V_iload_n dX4_answer_105 rfl ?_
          refine V_ifb_eq (tgt := 122) dX4_answer_106 (by decide) (fun q106 => ?_) (fun q106 => ?_)
          · refine V_iload dX4_answer_122 rfl ?_
            refine V_iconst dX4_answer_124 ?_
            refine V_iadd dX4_answer_125 ?_
            refine V_bipush dX4_answer_126 (by decide) ?_
            refine V_iload dX4_answer_128 rfl ?_
            refine V_isub dX4_answer_130 ?_
            refine V_bipush dX4_answer_131 (by decide) ?_
            refine V_idiv dX4_answer_133 (by omega) (by omega) ?_
            refine V_iadd dX4_answer_134 ?_
            refine V_istore (lc' := [_, _, _, _, _, _]) dX4_answer_135 (by decide) rfl ?_
            refine V_aload_n dX4_answer_137 rfl ?_
            refine V_mgA (f := 3) (a := 22) dX4_answer_138 fg_RX4_19 rfl (by decide) hM rfl ?_
            refine V_iload dX4_answer_141 rfl ?_
            refine V_iload dX4_answer_143 rfl ?_
            refine V_if_ge (tgt := 152) dX4_answer_145 (by decide) (by omega) (fun q145 => ?_) (fun q145 => ?_)
            · refine V_iload dX4_answer_152 rfl ?_
              refine V_bipush dX4_answer_154 (by decide) ?_
              refine V_icmp_le (tgt := 164) dX4_answer_156 (by decide) (by omega) (by omega) (fun q156 => ?_) (fun q156 => ?_)
              · refine V_iload dX4_answer_164 rfl ?_
                refine V_mis (f := 3) (n := 40) dX4_answer_166 rfl rfl (by decide) rfl rfl hM hF (by omega) (by omega) (fun h hM hF => ?_)
                refine V_aload_n dX4_answer_167 rfl ?_
                refine V_dup dX4_answer_168 cat_R ?_
                refine V_mg (f := 25) (z := M 25 0) dX4_answer_169 fg_RX4_186 rfl (by decide) hM (by simp [sT, mset]) (fun r169 => ?_)
                refine V_iconst dX4_answer_172 ?_
                refine V_iadd dX4_answer_173 ?_
                refine V_mp (f := 25) dX4_answer_174 f_RX4_186 rfl (by decide) hM hF (by omega) (fun h hM hF => ?_)
                refine V_aload_n dX4_answer_177 rfl ?_
                refine V_dup dX4_answer_178 cat_R ?_
                refine V_mg (f := 26) (z := M 26 0) dX4_answer_179 fg_RX4_189 rfl (by decide) hM (by simp [sT, mset]) (fun r179 => ?_)
                refine V_iload_n dX4_answer_182 rfl ?_
                refine V_ifb_eq (tgt := 190) dX4_answer_183 (by decide) (fun q183 => ?_) (fun q183 => (absurd q183 q106))
                refine V_iconst dX4_answer_190 ?_
                refine V_iadd dX4_answer_191 ?_
                refine V_mp (f := 26) dX4_answer_192 f_RX4_189 rfl (by decide) hM hF (by omega) (fun h hM hF => ?_)
                refine V_aload_n dX4_answer_195 rfl ?_
                have hJ196 : IM (mset (mset (mset (mset (mset (mset M 27 0 0) 27 0 0) 15 ((27 * s) + i) 1) 3 (M 16 ((27 * s) + i)) (((M 3 (M 16 ((27 * s) + i))) + 1) + ((100 - (M 3 (M 16 ((27 * s) + i)))) / 10))) 25 0 ((M 25 0) + 1)) 26 0 ((M 26 0) + 0)) := (((IM.s15 (M := mset (mset M 27 0 0) 27 0 0) hI (Or.inr rfl)).s3 (by omega)).s25 (by omega)).s26 (by omega)
                refine V_mC (as := []) dX4_answer_196 c_RX4_92 rfl (by decide) rfl (Nat.le_of_ble_eq_true rfl) hM hF (T_X4_settle g (mset (mset (mset (mset (mset (mset M 27 0 0) 27 0 0) 15 ((27 * s) + i) 1) 3 (M 16 ((27 * s) + i)) (((M 3 (M 16 ((27 * s) + i))) + 1) + ((100 - (M 3 (M 16 ((27 * s) + i)))) / 10))) 25 0 ((M 25 0) + 1)) 26 0 ((M 26 0) + 0))  hJ196) (fun h hM hF => ?_)
                obtain ⟨N196, eN196⟩ : ∃ X, X = sSettle (mset (mset (mset (mset (mset (mset M 27 0 0) 27 0 0) 15 ((27 * s) + i) 1) 3 (M 16 ((27 * s) + i)) (((M 3 (M 16 ((27 * s) + i))) + 1) + ((100 - (M 3 (M 16 ((27 * s) + i)))) / 10))) 25 0 ((M 25 0) + 1)) 26 0 ((M 26 0) + 0)) := ⟨_, rfl⟩
                rw [← eN196] at hM
                obtain ⟨oN196, hIN196⟩ := sSettle_o hJ196
                rw [← eN196] at oN196 hIN196
                refine V_aload_n dX4_answer_199 rfl ?_
                refine V_mgA (f := 3) (a := 22) dX4_answer_200 fg_RX4_19 rfl (by decide) hM rfl ?_
                refine V_iload dX4_answer_203 rfl ?_
                refine V_mi (f := 3) (n := 40) (w := (((M 3 (M 16 ((27 * s) + i))) + 1) + ((100 - (M 3 (M 16 ((27 * s) + i)))) / 10))) dX4_answer_205 rfl rfl (by decide) rfl rfl hM (by omega) ((oN196 3 _ (by decide)).trans (by simp [sT, mset])) (fun r205 => ?_)
                refine V_iret dX4_answer_206 rfl ?_
                have eL : sLv (M 3 (M 16 (27 * s + i))) b = (((M 3 (M 16 ((27 * s) + i))) + 1) + ((100 - (M 3 (M 16 ((27 * s) + i)))) / 10)) := by unfold sLv; (repeat' split) <;> first | rfl | contradiction | (exfalso; omega) | omega
                have eP : pI b = 0 := by first | exact pI_t q106 | exact pI_f q106
                refine mret hM hF ?_ ?_ <;> (unfold s_answer; (repeat' split) <;> first | (exfalso; (try simp only [isQ, isP, isS, sFrc, sTw] at *); omega) | exact eL.symm | (rw [eN196]; unfold sAns; rw [eL, eP]; try rfl))
              · refine V_bipush dX4_answer_159 (by decide) ?_
                refine V_goto (tgt := 166) dX4_answer_161 (by decide) ?_
                refine V_mis (f := 3) (n := 40) dX4_answer_166 rfl rfl (by decide) rfl rfl hM hF (by omega) (by omega) (fun h hM hF => ?_)
                refine V_aload_n dX4_answer_167 rfl ?_
                refine V_dup dX4_answer_168 cat_R ?_
                refine V_mg (f := 25) (z := M 25 0) dX4_answer_169 fg_RX4_186 rfl (by decide) hM (by simp [sT, mset]) (fun r169 => ?_)
                refine V_iconst dX4_answer_172 ?_
                refine V_iadd dX4_answer_173 ?_
                refine V_mp (f := 25) dX4_answer_174 f_RX4_186 rfl (by decide) hM hF (by omega) (fun h hM hF => ?_)
                refine V_aload_n dX4_answer_177 rfl ?_
                refine V_dup dX4_answer_178 cat_R ?_
                refine V_mg (f := 26) (z := M 26 0) dX4_answer_179 fg_RX4_189 rfl (by decide) hM (by simp [sT, mset]) (fun r179 => ?_)
                refine V_iload_n dX4_answer_182 rfl ?_
                refine V_ifb_eq (tgt := 190) dX4_answer_183 (by decide) (fun q183 => ?_) (fun q183 => (absurd q183 q106))
                refine V_iconst dX4_answer_190 ?_
                refine V_iadd dX4_answer_191 ?_
                refine V_mp (f := 26) dX4_answer_192 f_RX4_189 rfl (by decide) hM hF (by omega) (fun h hM hF => ?_)
                refine V_aload_n dX4_answer_195 rfl ?_
                have hJ196 : IM (mset (mset (mset (mset (mset (mset M 27 0 0) 27 0 0) 15 ((27 * s) + i) 1) 3 (M 16 ((27 * s) + i)) 100) 25 0 ((M 25 0) + 1)) 26 0 ((M 26 0) + 0)) := (((IM.s15 (M := mset (mset M 27 0 0) 27 0 0) hI (Or.inr rfl)).s3 (by omega)).s25 (by omega)).s26 (by omega)
                refine V_mC (as := []) dX4_answer_196 c_RX4_92 rfl (by decide) rfl (Nat.le_of_ble_eq_true rfl) hM hF (T_X4_settle g (mset (mset (mset (mset (mset (mset M 27 0 0) 27 0 0) 15 ((27 * s) + i) 1) 3 (M 16 ((27 * s) + i)) 100) 25 0 ((M 25 0) + 1)) 26 0 ((M 26 0) + 0))  hJ196) (fun h hM hF => ?_)
                obtain ⟨N196, eN196⟩ : ∃ X, X = sSettle (mset (mset (mset (mset (mset (mset M 27 0 0) 27 0 0) 15 ((27 * s) + i) 1) 3 (M 16 ((27 * s) + i)) 100) 25 0 ((M 25 0) + 1)) 26 0 ((M 26 0) + 0)) := ⟨_, rfl⟩
                rw [← eN196] at hM
                obtain ⟨oN196, hIN196⟩ := sSettle_o hJ196
                rw [← eN196] at oN196 hIN196
                refine V_aload_n dX4_answer_199 rfl ?_
                refine V_mgA (f := 3) (a := 22) dX4_answer_200 fg_RX4_19 rfl (by decide) hM rfl ?_
                refine V_iload dX4_answer_203 rfl ?_
                refine V_mi (f := 3) (n := 40) (w := 100) dX4_answer_205 rfl rfl (by decide) rfl rfl hM (by omega) ((oN196 3 _ (by decide)).trans (by simp [sT, mset])) (fun r205 => ?_)
                refine V_iret dX4_answer_206 rfl ?_
                have eL : sLv (M 3 (M 16 (27 * s + i))) b = 100 := by unfold sLv; (repeat' split) <;> first | rfl | contradiction | (exfalso; omega) | omega
                have eP : pI b = 0 := by first | exact pI_t q106 | exact pI_f q106
                refine mret hM hF ?_ ?_ <;> (unfold s_answer; (repeat' split) <;> first | (exfalso; (try simp only [isQ, isP, isS, sFrc, sTw] at *); omega) | exact eL.symm | (rw [eN196]; unfold sAns; rw [eL, eP]; try rfl))
            · refine V_iconst dX4_answer_148 ?_
              refine V_goto (tgt := 166) dX4_answer_149 (by decide) ?_
              refine V_mis (f := 3) (n := 40) dX4_answer_166 rfl rfl (by decide) rfl rfl hM hF (by omega) (by omega) (fun h hM hF => ?_)
              refine V_aload_n dX4_answer_167 rfl ?_
              refine V_dup dX4_answer_168 cat_R ?_
              refine V_mg (f := 25) (z := M 25 0) dX4_answer_169 fg_RX4_186 rfl (by decide) hM (by simp [sT, mset]) (fun r169 => ?_)
              refine V_iconst dX4_answer_172 ?_
              refine V_iadd dX4_answer_173 ?_
              refine V_mp (f := 25) dX4_answer_174 f_RX4_186 rfl (by decide) hM hF (by omega) (fun h hM hF => ?_)
              refine V_aload_n dX4_answer_177 rfl ?_
              refine V_dup dX4_answer_178 cat_R ?_
              refine V_mg (f := 26) (z := M 26 0) dX4_answer_179 fg_RX4_189 rfl (by decide) hM (by simp [sT, mset]) (fun r179 => ?_)
              refine V_iload_n dX4_answer_182 rfl ?_
              refine V_ifb_eq (tgt := 190) dX4_answer_183 (by decide) (fun q183 => ?_) (fun q183 => (absurd q183 q106))
              refine V_iconst dX4_answer_190 ?_
              refine V_iadd dX4_answer_191 ?_
              refine V_mp (f := 26) dX4_answer_192 f_RX4_189 rfl (by decide) hM hF (by omega) (fun h hM hF => ?_)
              refine V_aload_n dX4_answer_195 rfl ?_
              have hJ196 : IM (mset (mset (mset (mset (mset (mset M 27 0 0) 27 0 0) 15 ((27 * s) + i) 1) 3 (M 16 ((27 * s) + i)) 0) 25 0 ((M 25 0) + 1)) 26 0 ((M 26 0) + 0)) := (((IM.s15 (M := mset (mset M 27 0 0) 27 0 0) hI (Or.inr rfl)).s3 (by omega)).s25 (by omega)).s26 (by omega)
              refine V_mC (as := []) dX4_answer_196 c_RX4_92 rfl (by decide) rfl (Nat.le_of_ble_eq_true rfl) hM hF (T_X4_settle g (mset (mset (mset (mset (mset (mset M 27 0 0) 27 0 0) 15 ((27 * s) + i) 1) 3 (M 16 ((27 * s) + i)) 0) 25 0 ((M 25 0) + 1)) 26 0 ((M 26 0) + 0))  hJ196) (fun h hM hF => ?_)
              obtain ⟨N196, eN196⟩ : ∃ X, X = sSettle (mset (mset (mset (mset (mset (mset M 27 0 0) 27 0 0) 15 ((27 * s) + i) 1) 3 (M 16 ((27 * s) + i)) 0) 25 0 ((M 25 0) + 1)) 26 0 ((M 26 0) + 0)) := ⟨_, rfl⟩
              rw [← eN196] at hM
              obtain ⟨oN196, hIN196⟩ := sSettle_o hJ196
              rw [← eN196] at oN196 hIN196
              refine V_aload_n dX4_answer_199 rfl ?_
              refine V_mgA (f := 3) (a := 22) dX4_answer_200 fg_RX4_19 rfl (by decide) hM rfl ?_
              refine V_iload dX4_answer_203 rfl ?_
              refine V_mi (f := 3) (n := 40) (w := 0) dX4_answer_205 rfl rfl (by decide) rfl rfl hM (by omega) ((oN196 3 _ (by decide)).trans (by simp [sT, mset])) (fun r205 => ?_)
              refine V_iret dX4_answer_206 rfl ?_
              have eL : sLv (M 3 (M 16 (27 * s + i))) b = 0 := by unfold sLv; (repeat' split) <;> first | rfl | contradiction | (exfalso; omega) | omega
              have eP : pI b = 0 := by first | exact pI_t q106 | exact pI_f q106
              refine mret hM hF ?_ ?_ <;> (unfold s_answer; (repeat' split) <;> first | (exfalso; (try simp only [isQ, isP, isS, sFrc, sTw] at *); omega) | exact eL.symm | (rw [eN196]; unfold sAns; rw [eL, eP]; try rfl))
          · refine V_iload dX4_answer_109 rfl ?_
            refine V_iconst dX4_answer_111 ?_
            refine V_isub dX4_answer_112 ?_
            refine V_iload dX4_answer_113 rfl ?_
            refine V_bipush dX4_answer_115 (by decide) ?_
            refine V_idiv dX4_answer_117 (by omega) (by omega) ?_
            refine V_isub dX4_answer_118 ?_
            refine V_goto (tgt := 135) dX4_answer_119 (by decide) ?_
            refine V_istore (lc' := [_, _, _, _, _, _]) dX4_answer_135 (by decide) rfl ?_
            refine V_aload_n dX4_answer_137 rfl ?_
            refine V_mgA (f := 3) (a := 22) dX4_answer_138 fg_RX4_19 rfl (by decide) hM rfl ?_
            refine V_iload dX4_answer_141 rfl ?_
            refine V_iload dX4_answer_143 rfl ?_
            refine V_if_ge (tgt := 152) dX4_answer_145 (by decide) (by omega) (fun q145 => ?_) (fun q145 => ?_)
            · refine V_iload dX4_answer_152 rfl ?_
              refine V_bipush dX4_answer_154 (by decide) ?_
              refine V_icmp_le (tgt := 164) dX4_answer_156 (by decide) (by omega) (by omega) (fun q156 => ?_) (fun q156 => ?_)
              · refine V_iload dX4_answer_164 rfl ?_
                refine V_mis (f := 3) (n := 40) dX4_answer_166 rfl rfl (by decide) rfl rfl hM hF (by omega) (by omega) (fun h hM hF => ?_)
                refine V_aload_n dX4_answer_167 rfl ?_
                refine V_dup dX4_answer_168 cat_R ?_
                refine V_mg (f := 25) (z := M 25 0) dX4_answer_169 fg_RX4_186 rfl (by decide) hM (by simp [sT, mset]) (fun r169 => ?_)
                refine V_iconst dX4_answer_172 ?_
                refine V_iadd dX4_answer_173 ?_
                refine V_mp (f := 25) dX4_answer_174 f_RX4_186 rfl (by decide) hM hF (by omega) (fun h hM hF => ?_)
                refine V_aload_n dX4_answer_177 rfl ?_
                refine V_dup dX4_answer_178 cat_R ?_
                refine V_mg (f := 26) (z := M 26 0) dX4_answer_179 fg_RX4_189 rfl (by decide) hM (by simp [sT, mset]) (fun r179 => ?_)
                refine V_iload_n dX4_answer_182 rfl ?_
                refine V_ifb_eq (tgt := 190) dX4_answer_183 (by decide) (fun q183 => (absurd q106 q183)) (fun q183 => ?_)
                refine V_iconst dX4_answer_186 ?_
                refine V_goto (tgt := 191) dX4_answer_187 (by decide) ?_
                refine V_iadd dX4_answer_191 ?_
                refine V_mp (f := 26) dX4_answer_192 f_RX4_189 rfl (by decide) hM hF (by omega) (fun h hM hF => ?_)
                refine V_aload_n dX4_answer_195 rfl ?_
                have hJ196 : IM (mset (mset (mset (mset (mset (mset M 27 0 0) 27 0 0) 15 ((27 * s) + i) 1) 3 (M 16 ((27 * s) + i)) (((M 3 (M 16 ((27 * s) + i))) - 1) - ((M 3 (M 16 ((27 * s) + i))) / 10))) 25 0 ((M 25 0) + 1)) 26 0 ((M 26 0) + 1)) := (((IM.s15 (M := mset (mset M 27 0 0) 27 0 0) hI (Or.inr rfl)).s3 (by omega)).s25 (by omega)).s26 (by omega)
                refine V_mC (as := []) dX4_answer_196 c_RX4_92 rfl (by decide) rfl (Nat.le_of_ble_eq_true rfl) hM hF (T_X4_settle g (mset (mset (mset (mset (mset (mset M 27 0 0) 27 0 0) 15 ((27 * s) + i) 1) 3 (M 16 ((27 * s) + i)) (((M 3 (M 16 ((27 * s) + i))) - 1) - ((M 3 (M 16 ((27 * s) + i))) / 10))) 25 0 ((M 25 0) + 1)) 26 0 ((M 26 0) + 1))  hJ196) (fun h hM hF => ?_)
                obtain ⟨N196, eN196⟩ : ∃ X, X = sSettle (mset (mset (mset (mset (mset (mset M 27 0 0) 27 0 0) 15 ((27 * s) + i) 1) 3 (M 16 ((27 * s) + i)) (((M 3 (M 16 ((27 * s) + i))) - 1) - ((M 3 (M 16 ((27 * s) + i))) / 10))) 25 0 ((M 25 0) + 1)) 26 0 ((M 26 0) + 1)) := ⟨_, rfl⟩
                rw [← eN196] at hM
                obtain ⟨oN196, hIN196⟩ := sSettle_o hJ196
                rw [← eN196] at oN196 hIN196
                refine V_aload_n dX4_answer_199 rfl ?_
                refine V_mgA (f := 3) (a := 22) dX4_answer_200 fg_RX4_19 rfl (by decide) hM rfl ?_
                refine V_iload dX4_answer_203 rfl ?_
                refine V_mi (f := 3) (n := 40) (w := (((M 3 (M 16 ((27 * s) + i))) - 1) - ((M 3 (M 16 ((27 * s) + i))) / 10))) dX4_answer_205 rfl rfl (by decide) rfl rfl hM (by omega) ((oN196 3 _ (by decide)).trans (by simp [sT, mset])) (fun r205 => ?_)
                refine V_iret dX4_answer_206 rfl ?_
                have eL : sLv (M 3 (M 16 (27 * s + i))) b = (((M 3 (M 16 ((27 * s) + i))) - 1) - ((M 3 (M 16 ((27 * s) + i))) / 10)) := by unfold sLv; (repeat' split) <;> first | rfl | contradiction | (exfalso; omega) | omega
                have eP : pI b = 1 := by first | exact pI_t q106 | exact pI_f q106
                refine mret hM hF ?_ ?_ <;> (unfold s_answer; (repeat' split) <;> first | (exfalso; (try simp only [isQ, isP, isS, sFrc, sTw] at *); omega) | exact eL.symm | (rw [eN196]; unfold sAns; rw [eL, eP]; try rfl))
              · refine V_bipush dX4_answer_159 (by decide) ?_
                refine V_goto (tgt := 166) dX4_answer_161 (by decide) ?_
                refine V_mis (f := 3) (n := 40) dX4_answer_166 rfl rfl (by decide) rfl rfl hM hF (by omega) (by omega) (fun h hM hF => ?_)
                refine V_aload_n dX4_answer_167 rfl ?_
                refine V_dup dX4_answer_168 cat_R ?_
                refine V_mg (f := 25) (z := M 25 0) dX4_answer_169 fg_RX4_186 rfl (by decide) hM (by simp [sT, mset]) (fun r169 => ?_)
                refine V_iconst dX4_answer_172 ?_
                refine V_iadd dX4_answer_173 ?_
                refine V_mp (f := 25) dX4_answer_174 f_RX4_186 rfl (by decide) hM hF (by omega) (fun h hM hF => ?_)
                refine V_aload_n dX4_answer_177 rfl ?_
                refine V_dup dX4_answer_178 cat_R ?_
                refine V_mg (f := 26) (z := M 26 0) dX4_answer_179 fg_RX4_189 rfl (by decide) hM (by simp [sT, mset]) (fun r179 => ?_)
                refine V_iload_n dX4_answer_182 rfl ?_
                refine V_ifb_eq (tgt := 190) dX4_answer_183 (by decide) (fun q183 => (absurd q106 q183)) (fun q183 => ?_)
                refine V_iconst dX4_answer_186 ?_
                refine V_goto (tgt := 191) dX4_answer_187 (by decide) ?_
                refine V_iadd dX4_answer_191 ?_
                refine V_mp (f := 26) dX4_answer_192 f_RX4_189 rfl (by decide) hM hF (by omega) (fun h hM hF => ?_)
                refine V_aload_n dX4_answer_195 rfl ?_
                have hJ196 : IM (mset (mset (mset (mset (mset (mset M 27 0 0) 27 0 0) 15 ((27 * s) + i) 1) 3 (M 16 ((27 * s) + i)) 100) 25 0 ((M 25 0) + 1)) 26 0 ((M 26 0) + 1)) := (((IM.s15 (M := mset (mset M 27 0 0) 27 0 0) hI (Or.inr rfl)).s3 (by omega)).s25 (by omega)).s26 (by omega)
                refine V_mC (as := []) dX4_answer_196 c_RX4_92 rfl (by decide) rfl (Nat.le_of_ble_eq_true rfl) hM hF (T_X4_settle g (mset (mset (mset (mset (mset (mset M 27 0 0) 27 0 0) 15 ((27 * s) + i) 1) 3 (M 16 ((27 * s) + i)) 100) 25 0 ((M 25 0) + 1)) 26 0 ((M 26 0) + 1))  hJ196) (fun h hM hF => ?_)
                obtain ⟨N196, eN196⟩ : ∃ X, X = sSettle (mset (mset (mset (mset (mset (mset M 27 0 0) 27 0 0) 15 ((27 * s) + i) 1) 3 (M 16 ((27 * s) + i)) 100) 25 0 ((M 25 0) + 1)) 26 0 ((M 26 0) + 1)) := ⟨_, rfl⟩
                rw [← eN196] at hM
                obtain ⟨oN196, hIN196⟩ := sSettle_o hJ196
                rw [← eN196] at oN196 hIN196
                refine V_aload_n dX4_answer_199 rfl ?_
                refine V_mgA (f := 3) (a := 22) dX4_answer_200 fg_RX4_19 rfl (by decide) hM rfl ?_
                refine V_iload dX4_answer_203 rfl ?_
                refine V_mi (f := 3) (n := 40) (w := 100) dX4_answer_205 rfl rfl (by decide) rfl rfl hM (by omega) ((oN196 3 _ (by decide)).trans (by simp [sT, mset])) (fun r205 => ?_)
                refine V_iret dX4_answer_206 rfl ?_
                have eL : sLv (M 3 (M 16 (27 * s + i))) b = 100 := by unfold sLv; (repeat' split) <;> first | rfl | contradiction | (exfalso; omega) | omega
                have eP : pI b = 1 := by first | exact pI_t q106 | exact pI_f q106
                refine mret hM hF ?_ ?_ <;> (unfold s_answer; (repeat' split) <;> first | (exfalso; (try simp only [isQ, isP, isS, sFrc, sTw] at *); omega) | exact eL.symm | (rw [eN196]; unfold sAns; rw [eL, eP]; try rfl))
            · refine V_iconst dX4_answer_148 ?_
              refine V_goto (tgt := 166) dX4_answer_149 (by decide) ?_
              refine V_mis (f := 3) (n := 40) dX4_answer_166 rfl rfl (by decide) rfl rfl hM hF (by omega) (by omega) (fun h hM hF => ?_)
              refine V_aload_n dX4_answer_167 rfl ?_
              refine V_dup dX4_answer_168 cat_R ?_
              refine V_mg (f := 25) (z := M 25 0) dX4_answer_169 fg_RX4_186 rfl (by decide) hM (by simp [sT, mset]) (fun r169 => ?_)
              refine V_iconst dX4_answer_172 ?_
              refine V_iadd dX4_answer_173 ?_
              refine V_mp (f := 25) dX4_answer_174 f_RX4_186 rfl (by decide) hM hF (by omega) (fun h hM hF => ?_)
              refine V_aload_n dX4_answer_177 rfl ?_
              refine V_dup dX4_answer_178 cat_R ?_
              refine V_mg (f := 26) (z := M 26 0) dX4_answer_179 fg_RX4_189 rfl (by decide) hM (by simp [sT, mset]) (fun r179 => ?_)
              refine V_iload_n dX4_answer_182 rfl ?_
              refine V_ifb_eq (tgt := 190) dX4_answer_183 (by decide) (fun q183 => (absurd q106 q183)) (fun q183 => ?_)
              refine V_iconst dX4_answer_186 ?_
              refine V_goto (tgt := 191) dX4_answer_187 (by decide) ?_
              refine V_iadd dX4_answer_191 ?_
              refine V_mp (f := 26) dX4_answer_192 f_RX4_189 rfl (by decide) hM hF (by omega) (fun h hM hF => ?_)
              refine V_aload_n dX4_answer_195 rfl ?_
              have hJ196 : IM (mset (mset (mset (mset (mset (mset M 27 0 0) 27 0 0) 15 ((27 * s) + i) 1) 3 (M 16 ((27 * s) + i)) 0) 25 0 ((M 25 0) + 1)) 26 0 ((M 26 0) + 1)) := (((IM.s15 (M := mset (mset M 27 0 0) 27 0 0) hI (Or.inr rfl)).s3 (by omega)).s25 (by omega)).s26 (by omega)
              refine V_mC (as := []) dX4_answer_196 c_RX4_92 rfl (by decide) rfl (Nat.le_of_ble_eq_true rfl) hM hF (T_X4_settle g (mset (mset (mset (mset (mset (mset M 27 0 0) 27 0 0) 15 ((27 * s) + i) 1) 3 (M 16 ((27 * s) + i)) 0) 25 0 ((M 25 0) + 1)) 26 0 ((M 26 0) + 1))  hJ196) (fun h hM hF => ?_)
              obtain ⟨N196, eN196⟩ : ∃ X, X = sSettle (mset (mset (mset (mset (mset (mset M 27 0 0) 27 0 0) 15 ((27 * s) + i) 1) 3 (M 16 ((27 * s) + i)) 0) 25 0 ((M 25 0) + 1)) 26 0 ((M 26 0) + 1)) := ⟨_, rfl⟩
              rw [← eN196] at hM
              obtain ⟨oN196, hIN196⟩ := sSettle_o hJ196
              rw [← eN196] at oN196 hIN196
              refine V_aload_n dX4_answer_199 rfl ?_
              refine V_mgA (f := 3) (a := 22) dX4_answer_200 fg_RX4_19 rfl (by decide) hM rfl ?_
              refine V_iload dX4_answer_203 rfl ?_
              refine V_mi (f := 3) (n := 40) (w := 0) dX4_answer_205 rfl rfl (by decide) rfl rfl hM (by omega) ((oN196 3 _ (by decide)).trans (by simp [sT, mset])) (fun r205 => ?_)
              refine V_iret dX4_answer_206 rfl ?_
              have eL : sLv (M 3 (M 16 (27 * s + i))) b = 0 := by unfold sLv; (repeat' split) <;> first | rfl | contradiction | (exfalso; omega) | omega
              have eP : pI b = 1 := by first | exact pI_t q106 | exact pI_f q106
              refine mret hM hF ?_ ?_ <;> (unfold s_answer; (repeat' split) <;> first | (exfalso; (try simp only [isQ, isP, isS, sFrc, sTw] at *); omega) | exact eL.symm | (rw [eN196]; unfold sAns; rw [eL, eP]; try rfl))
        · refine V_iconst dX4_answer_54 ?_
          refine V_goto (tgt := 59) dX4_answer_55 (by decide) ?_
          refine V_mp (f := 27) dX4_answer_59 f_RX4_72 rfl (by decide) hM hF (by omega) (fun h hM hF => ?_)
          refine V_aload_n dX4_answer_62 rfl ?_
          refine V_mg (f := 27) (z := 3) dX4_answer_63 fg_RX4_72 rfl (by decide) hM (by simp [sT, mset]) (fun r63 => ?_)
          refine V_if_le (tgt := 71) dX4_answer_66 (by decide) (by decide) (fun q66 => absurd q66 (by decide)) (fun _ => ?_)
          refine V_iconst dX4_answer_69 ?_
          refine V_iret dX4_answer_70 rfl ?_
          refine mret hM hF ?_ ?_ <;> (unfold s_answer; (repeat' split) <;> first | rfl | (exfalso; (try simp only [isQ, isP, isS, sFrc, sTw] at *); omega))
    · refine V_iconst dX4_answer_20 ?_
      refine V_goto (tgt := 59) dX4_answer_21 (by decide) ?_
      refine V_mp (f := 27) dX4_answer_59 f_RX4_72 rfl (by decide) hM hF (by omega) (fun h hM hF => ?_)
      refine V_aload_n dX4_answer_62 rfl ?_
      refine V_mg (f := 27) (z := 2) dX4_answer_63 fg_RX4_72 rfl (by decide) hM (by simp [sT, mset]) (fun r63 => ?_)
      refine V_if_le (tgt := 71) dX4_answer_66 (by decide) (by decide) (fun q66 => absurd q66 (by decide)) (fun _ => ?_)
      refine V_iconst dX4_answer_69 ?_
      refine V_iret dX4_answer_70 rfl ?_
      refine mret hM hF ?_ ?_ <;> (unfold s_answer; (repeat' split) <;> first | rfl | (exfalso; (try simp only [isQ, isP, isS, sFrc, sTw] at *); omega))
  · rw [et] at hM ⊢
    refine V_if_ne (tgt := 62) dX4_answer_5 (by decide) (by decide) (fun _ => ?_) (fun q5 => absurd q5 (by decide))
    refine V_aload_n dX4_answer_62 rfl ?_
    refine V_mg (f := 27) (z := 1) dX4_answer_63 fg_RX4_72 rfl (by decide) hM (by simp [sT, mset]) (fun r63 => ?_)
    refine V_if_le (tgt := 71) dX4_answer_66 (by decide) (by decide) (fun q66 => absurd q66 (by decide)) (fun _ => ?_)
    refine V_iconst dX4_answer_69 ?_
    refine V_iret dX4_answer_70 rfl ?_
    refine mret hM hF ?_ ?_ <;> (unfold s_answer; (repeat' split) <;> first | rfl | (exfalso; (try simp only [isQ, isP, isS, sFrc, sTw] at *); omega))
theorem T_X4_put (g : GP) (M : MS) (c : Int) (r_c : -2147483648 ≤ c ∧ c ≤ 2147483647) (hI : IM M) (h1 : 0 ≤ c ∧ c < 65536) (h2 : 0 ≤ M 28 0 ∧ M 28 0 ≤ 199) : TM g m_X4_put 1 [xI c] M none (sPut M c) := by
  refine TM.of (by decide) rfl (fun v hv => ?_) (Nat.le_of_ble_eq_true rfl) ?_
  · simp only [List.mem_cons, List.not_mem_nil, or_false] at hv
    subst hv; exact ⟨_, rfl⟩
  intro h0 h hM hF
  change V g m_X4_put 1 _ h 0 [xR 18, xI c] []
  obtain ⟨⟨i19, i20, i21, i22, i23, i24, i25, i26, i29⟩, iA⟩ := id hI
  refine V_aload_n dX4_put_0 rfl ?_
  refine V_mgA (f := 18) (a := 37) dX4_put_1 fg_RX4_66 rfl (by decide) hM rfl ?_
  refine V_aload_n dX4_put_4 rfl ?_
  refine V_mg (f := 28) (z := M 28 0) dX4_put_5 fg_RX4_192 rfl (by decide) hM rfl (fun r5 => ?_)
  refine V_iload_n dX4_put_8 rfl ?_
  refine V_mcs (f := 18) (n := 200) dX4_put_9 rfl rfl (by decide) rfl rfl hM hF (by omega) (by omega) (fun h hM hF => ?_)
  refine V_aload_n dX4_put_10 rfl ?_
  refine V_dup dX4_put_11 cat_R ?_
  refine V_mg (f := 28) (z := M 28 0) dX4_put_12 fg_RX4_192 rfl (by decide) hM (by simp [sT, mset]) (fun r12 => ?_)
  refine V_iconst dX4_put_15 ?_
  refine V_iadd dX4_put_16 ?_
  refine V_mp (f := 28) dX4_put_17 f_RX4_192 rfl (by decide) hM hF (by omega) (fun h hM hF => ?_)
  refine V_vret dX4_put_20 rfl ?_
  exact mretV hM hF rfl
theorem T_X4_putNumber (g : GP) (M : MS) (n : Int) (r_n : -2147483648 ≤ n ∧ n ≤ 2147483647) (hI : IM M) (h1 : 0 ≤ n ∧ n ≤ 99) (h2 : 0 ≤ M 28 0 ∧ M 28 0 ≤ 198) : TM g m_X4_putNumber 2 [xI n] M none (sPutN M n) := by
  refine TM.of (by decide) rfl (fun v hv => ?_) (Nat.le_of_ble_eq_true rfl) ?_
  · simp only [List.mem_cons, List.not_mem_nil, or_false] at hv
    subst hv; exact ⟨_, rfl⟩
  intro h0 h hM hF
  change V g m_X4_putNumber 2 _ h 0 [xR 18, xI n] []
  obtain ⟨⟨i19, i20, i21, i22, i23, i24, i25, i26, i29⟩, iA⟩ := id hI
  refine V_iload_n dX4_putNumber_0 rfl ?_
  refine V_bipush dX4_putNumber_1 (by decide) ?_
  refine V_icmp_lt (tgt := 18) dX4_putNumber_3 (by decide) (by omega) (by omega) (fun q3 => ?_) (fun q3 => ?_)
  · refine V_aload_n dX4_putNumber_18 rfl ?_
    refine V_bipush dX4_putNumber_19 (by decide) ?_
    refine V_iload_n dX4_putNumber_21 rfl ?_
    refine V_bipush dX4_putNumber_22 (by decide) ?_
    refine V_irem dX4_putNumber_24 (by omega) (by omega) ?_
    refine V_iadd dX4_putNumber_25 ?_
    refine V_i2c (z := (48 + (n % 10))) dX4_putNumber_26 (i2c_id (by omega)) ?_
    refine V_mC (as := [_]) dX4_putNumber_27 c_RX4_195 rfl (by decide) rfl (Nat.le_of_ble_eq_true rfl) hM hF (T_X4_put g M (48 + (n % 10)) (by omega) hI (by omega) (by omega)) (fun h hM hF => ?_)
    obtain ⟨N27, eN27⟩ : ∃ X, X = sPut M (48 + (n % 10)) := ⟨_, rfl⟩
    rw [← eN27] at hM
    obtain ⟨oN27, hIN27, bN27⟩ := sPut_o (M := M) hI (c := (48 + (n % 10))) (by omega)
    rw [← eN27] at oN27 hIN27 bN27
    refine V_vret dX4_putNumber_30 rfl ?_
    exact mretV hM hF (by unfold sPutN; first | rw [if_pos (by omega), ← eN15, ← eN27] | rw [if_neg (by omega), ← eN27])
  · refine V_aload_n dX4_putNumber_6 rfl ?_
    refine V_bipush dX4_putNumber_7 (by decide) ?_
    refine V_iload_n dX4_putNumber_9 rfl ?_
    refine V_bipush dX4_putNumber_10 (by decide) ?_
    refine V_idiv dX4_putNumber_12 (by omega) (by omega) ?_
    refine V_iadd dX4_putNumber_13 ?_
    refine V_i2c (z := (48 + (n / 10))) dX4_putNumber_14 (i2c_id (by omega)) ?_
    refine V_mC (as := [_]) dX4_putNumber_15 c_RX4_195 rfl (by decide) rfl (Nat.le_of_ble_eq_true rfl) hM hF (T_X4_put g M (48 + (n / 10)) (by omega) hI (by omega) (by omega)) (fun h hM hF => ?_)
    obtain ⟨N15, eN15⟩ : ∃ X, X = sPut M (48 + (n / 10)) := ⟨_, rfl⟩
    rw [← eN15] at hM
    obtain ⟨oN15, hIN15, bN15⟩ := sPut_o (M := M) hI (c := (48 + (n / 10))) (by omega)
    rw [← eN15] at oN15 hIN15 bN15
    refine V_aload_n dX4_putNumber_18 rfl ?_
    refine V_bipush dX4_putNumber_19 (by decide) ?_
    refine V_iload_n dX4_putNumber_21 rfl ?_
    refine V_bipush dX4_putNumber_22 (by decide) ?_
    refine V_irem dX4_putNumber_24 (by omega) (by omega) ?_
    refine V_iadd dX4_putNumber_25 ?_
    refine V_i2c (z := (48 + (n % 10))) dX4_putNumber_26 (i2c_id (by omega)) ?_
    refine V_mC (as := [_]) dX4_putNumber_27 c_RX4_195 rfl (by decide) rfl (Nat.le_of_ble_eq_true rfl) hM hF (T_X4_put g N15 (48 + (n % 10)) (by omega) hIN15 (by omega) (by omega)) (fun h hM hF => ?_)
    obtain ⟨N27, eN27⟩ : ∃ X, X = sPut N15 (48 + (n % 10)) := ⟨_, rfl⟩
    rw [← eN27] at hM
    obtain ⟨oN27, hIN27, bN27⟩ := sPut_o (M := N15) hIN15 (c := (48 + (n % 10))) (by omega)
    rw [← eN27] at oN27 hIN27 bN27
    refine V_vret dX4_putNumber_30 rfl ?_
    exact mretV hM hF (by unfold sPutN; first | rw [if_pos (by omega), ← eN15, ← eN27] | rw [if_neg (by omega), ← eN27])
theorem T_X4_textOf (g : GP) (M : MS) (s : Int) (i : Int) (r_s : -2147483648 ≤ s ∧ s ≤ 2147483647) (r_i : -2147483648 ≤ i ∧ i ≤ 2147483647) (hI : IM M) : TM g m_X4_textOf 4 [xI s, xI i] M (some (xI ((s_textOf M s i).1))) ((s_textOf M s i).2) := by
  refine TM.of (by decide) rfl (fun v hv => ?_) (Nat.le_of_ble_eq_true rfl) ?_
  · simp only [List.mem_cons, List.not_mem_nil, or_false] at hv
    rcases hv with rfl | rfl <;> exact ⟨_, rfl⟩
  intro h0 h hM hF
  change V g m_X4_textOf 4 _ h 0 [xR 18, xI s, xI i, xU] []
  obtain ⟨⟨i19, i20, i21, i22, i23, i24, i25, i26, i29⟩, iA⟩ := id hI
  refine V_aload_n dX4_textOf_0 rfl ?_
  refine V_iload_n dX4_textOf_1 rfl ?_
  refine V_mC (as := [_]) dX4_textOf_2 c_RX4_179 rfl (by decide) rfl (Nat.le_of_ble_eq_true rfl) hM hF (T_X4_wrongSheet g M s (by omega) hI) (fun h hM hF => ?_)
  rcases tS_c M s with ⟨et, et1, et2⟩ | ⟨et, et1⟩
  · rw [et] at hM ⊢
    refine V_if_le (tgt := 11) dX4_textOf_5 (by decide) (by decide) (fun _ => ?_) (fun q5 => absurd q5 (by decide))
    refine V_aload_n dX4_textOf_11 rfl ?_
    refine V_iconst dX4_textOf_12 ?_
    refine V_mp (f := 28) dX4_textOf_13 f_RX4_192 rfl (by decide) hM hF (by omega) (fun h hM hF => ?_)
    refine V_aload_n dX4_textOf_16 rfl ?_
    refine V_iload_n dX4_textOf_17 rfl ?_
    refine V_mC (as := [_]) dX4_textOf_18 c_RX4_199 rfl (by decide) rfl (Nat.le_of_ble_eq_true rfl) hM hF (T_X4_putNumber g (mset (mset M 27 0 0) 28 0 0) s (by omega) hI (by omega) (⟨Int.le_refl 0, by decide⟩ : (0 : Int) ≤ 0 ∧ (0 : Int) ≤ 198)) (fun h hM hF => ?_)
    obtain ⟨N18, eN18⟩ : ∃ X, X = sPutN (mset (mset M 27 0 0) 28 0 0) s := ⟨_, rfl⟩
    rw [← eN18] at hM
    obtain ⟨oN18, hIN18, bN18, cN18⟩ := sPutN_o (M := (mset (mset M 27 0 0) 28 0 0)) hI (n := s) (by omega)
    rw [← eN18] at oN18 hIN18 bN18 cN18
    have z18 : mset (mset M 27 0 0) 28 0 0 28 0 = 0 := rfl
    refine V_aload_n dX4_textOf_21 rfl ?_
    refine V_bipush dX4_textOf_22 (by decide) ?_
    refine V_mC (as := [_]) dX4_textOf_24 c_RX4_195 rfl (by decide) rfl (Nat.le_of_ble_eq_true rfl) hM hF (T_X4_put g N18 58 (by omega) hIN18 (by omega) (by omega)) (fun h hM hF => ?_)
    obtain ⟨N24, eN24⟩ : ∃ X, X = sPut N18 58 := ⟨_, rfl⟩
    rw [← eN24] at hM
    obtain ⟨oN24, hIN24, bN24⟩ := sPut_o (M := N18) hIN18 (c := 58) (by omega)
    rw [← eN24] at oN24 hIN24 bN24
    refine V_iconst dX4_textOf_27 ?_
    refine V_istore_n (lc' := [_, _, _, _]) dX4_textOf_28 (by decide) rfl ?_
    have b17 := hI.a17 s
    have lp29 : ∀ k29 : Int, ∀ M29 : MS, (0 ≤ k29 ∧ k29 ≤ M 17 s ∧ M29 = sTxN N24 s k29.toNat) → ∀ h, MR h M29 → FR h0 h → V g m_X4_textOf 4 (Qm h0 (some (xI ((s_textOf M s i).1))) ((s_textOf M s i).2)) h 29 [xR 18, xI s, xI i, xI k29] [] := by
      refine lp_up (M 17 s) (fun k29 ih29 => ?_)
      intro M29 hk h hM hF
      obtain ⟨k29l, k29u, k29e⟩ := hk
      have oI29 := sTxN_o (M := N24) hIN24 (s := s) k29.toNat
      rw [← k29e] at oI29
      obtain ⟨o29, hI29, l29, u29⟩ := oI29
      refine V_iload_n dX4_textOf_29 rfl ?_
      refine V_aload_n dX4_textOf_30 rfl ?_
      refine V_mgA (f := 17) (a := 36) dX4_textOf_31 fg_RX4_63 rfl (by decide) hM rfl ?_
      refine V_iload_n dX4_textOf_34 rfl ?_
      refine V_mi (f := 17) (n := 30) (w := M 17 s) dX4_textOf_35 rfl rfl (by decide) rfl rfl hM (by omega) ((o29 17 _ (by decide)).trans ((oN24 17 _ (by decide)).trans ((oN18 17 _ (by decide)).trans (by simp [sT, mset])))) (fun r35 => ?_)
      have b35 := hI.a17 s
      refine V_icmp_ge (tgt := 70) dX4_textOf_36 (by decide) (by omega) (by omega) (fun q36 => ?_) (fun q36 => ?_)
      · refine V_aload_n dX4_textOf_70 rfl ?_
        refine V_iload_n dX4_textOf_71 rfl ?_
        refine V_iconst dX4_textOf_72 ?_
        refine V_aload_n dX4_textOf_73 rfl ?_
        refine V_mg (f := 28) (z := M29 28 0) dX4_textOf_74 fg_RX4_192 rfl (by decide) hM rfl (fun r74 => ?_)
        refine V_iconst dX4_textOf_77 ?_
        refine V_isub dX4_textOf_78 ?_
        refine V_pS (as := [_, _, _]) dX4_textOf_79 c_RX4_79 rfl (by decide) rfl (Nat.le_of_ble_eq_true rfl) (T_X4_in g i 0 ((M29 28 0) - 1) (by omega) (by omega) (by omega)) ?_
        refine V_ifb_eq (tgt := 89) dX4_textOf_82 (by decide) (fun q82 => ?_) (fun q82 => ?_)
        · refine V_iconst dX4_textOf_89 ?_
          refine V_mp (f := 27) dX4_textOf_90 f_RX4_72 rfl (by decide) hM hF (by omega) (fun h hM hF => ?_)
          refine V_aload_n dX4_textOf_93 rfl ?_
          refine V_mg (f := 27) (z := 2) dX4_textOf_94 fg_RX4_72 rfl (by decide) hM (by simp [sT, mset]) (fun r94 => ?_)
          refine V_if_le (tgt := 105) dX4_textOf_97 (by decide) (by decide) (fun q97 => absurd q97 (by decide)) (fun _ => ?_)
          refine V_bipush dX4_textOf_100 (by decide) ?_
          refine V_goto (tgt := 111) dX4_textOf_102 (by decide) ?_
          refine V_cret (by omega) dX4_textOf_111 rfl ?_
          have eTx : sTx M s = M29 := by unfold sTx; rw [k29e, eN24, eN18, show k29 = M 17 s by omega]
          refine mret hM hF ?_ ?_ <;> (unfold s_textOf; rw [eTx]; (repeat' split) <;> first | rfl | (exfalso; (try simp only [isQ, isP, isS, sFrc, sTw] at *); omega))
        · refine V_iconst dX4_textOf_85 ?_
          refine V_goto (tgt := 90) dX4_textOf_86 (by decide) ?_
          refine V_mp (f := 27) dX4_textOf_90 f_RX4_72 rfl (by decide) hM hF (by omega) (fun h hM hF => ?_)
          refine V_aload_n dX4_textOf_93 rfl ?_
          refine V_mg (f := 27) (z := 0) dX4_textOf_94 fg_RX4_72 rfl (by decide) hM (by simp [sT, mset]) (fun r94 => ?_)
          refine V_if_le (tgt := 105) dX4_textOf_97 (by decide) (by decide) (fun _ => ?_) (fun q97 => absurd q97 (by decide))
          refine V_aload_n dX4_textOf_105 rfl ?_
          refine V_mgA (f := 18) (a := 37) dX4_textOf_106 fg_RX4_66 rfl (by decide) hM rfl ?_
          refine V_iload_n dX4_textOf_109 rfl ?_
          refine V_mc (f := 18) (n := 200) (w := M29 18 i) dX4_textOf_110 rfl rfl (by decide) rfl rfl hM (by omega) (by simp [sT, mset]) (fun r110 => ?_)
          have b110 := hI29.a18 i
          refine V_cret (by omega) dX4_textOf_111 rfl ?_
          have eTx : sTx M s = M29 := by unfold sTx; rw [k29e, eN24, eN18, show k29 = M 17 s by omega]
          refine mret hM hF ?_ ?_ <;> (unfold s_textOf; rw [eTx]; (repeat' split) <;> first | rfl | (exfalso; (try simp only [isQ, isP, isS, sFrc, sTw] at *); omega))
      · refine V_iload_n dX4_textOf_39 rfl ?_
        refine V_if_le (tgt := 49) dX4_textOf_40 (by decide) (by omega) (fun q40 => ?_) (fun q40 => ?_)
        · refine V_aload_n dX4_textOf_49 rfl ?_
          refine V_aload_n dX4_textOf_50 rfl ?_
          refine V_mgA (f := 16) (a := 35) dX4_textOf_51 fg_RX4_60 rfl (by decide) hM rfl ?_
          refine V_bipush dX4_textOf_54 (by decide) ?_
          refine V_iload_n dX4_textOf_56 rfl ?_
          refine V_imul dX4_textOf_57 ?_
          refine V_iload_n dX4_textOf_58 rfl ?_
          refine V_iadd dX4_textOf_59 ?_
          refine V_mi (f := 16) (n := 810) (w := M 16 ((27 * s) + k29)) dX4_textOf_60 rfl rfl (by decide) rfl rfl hM (by omega) ((o29 16 _ (by decide)).trans ((oN24 16 _ (by decide)).trans ((oN18 16 _ (by decide)).trans (by simp [sT, mset])))) (fun r60 => ?_)
          have b60 := hI.a16 ((27 * s) + k29)
          refine V_mC (as := [_]) dX4_textOf_61 c_RX4_199 rfl (by decide) rfl (Nat.le_of_ble_eq_true rfl) hM hF (T_X4_putNumber g M29 (M 16 ((27 * s) + k29)) (by omega) hI29 (by omega) (by omega)) (fun h hM hF => ?_)
          obtain ⟨N61, eN61⟩ : ∃ X, X = sPutN M29 (M 16 ((27 * s) + k29)) := ⟨_, rfl⟩
          rw [← eN61] at hM
          obtain ⟨oN61, hIN61, bN61, cN61⟩ := sPutN_o (M := M29) hI29 (n := (M 16 ((27 * s) + k29))) (by omega)
          rw [← eN61] at oN61 hIN61 bN61 cN61
          refine V_iinc (lc' := [_, _, _, _]) dX4_textOf_64 rfl (by decide) rfl ?_
          refine V_goto (tgt := 29) dX4_textOf_67 (by decide) ?_
          exact ih29 (by omega) N61 ⟨by omega, by omega, by rw [sTxN_s k29l, ← k29e, show N24 16 (27 * s + k29) = M 16 (27 * s + k29) from (oN24 16 _ (by decide)).trans ((oN18 16 _ (by decide)).trans rfl)]; first | rw [if_pos q40, ← eN46, ← eN61] | rw [if_neg (by omega), ← eN61]⟩ h hM hF
        · refine V_aload_n dX4_textOf_43 rfl ?_
          refine V_bipush dX4_textOf_44 (by decide) ?_
          refine V_mC (as := [_]) dX4_textOf_46 c_RX4_195 rfl (by decide) rfl (Nat.le_of_ble_eq_true rfl) hM hF (T_X4_put g M29 44 (by omega) hI29 (by omega) (by omega)) (fun h hM hF => ?_)
          obtain ⟨N46, eN46⟩ : ∃ X, X = sPut M29 44 := ⟨_, rfl⟩
          rw [← eN46] at hM
          obtain ⟨oN46, hIN46, bN46⟩ := sPut_o (M := M29) hI29 (c := 44) (by omega)
          rw [← eN46] at oN46 hIN46 bN46
          refine V_aload_n dX4_textOf_49 rfl ?_
          refine V_aload_n dX4_textOf_50 rfl ?_
          refine V_mgA (f := 16) (a := 35) dX4_textOf_51 fg_RX4_60 rfl (by decide) hM rfl ?_
          refine V_bipush dX4_textOf_54 (by decide) ?_
          refine V_iload_n dX4_textOf_56 rfl ?_
          refine V_imul dX4_textOf_57 ?_
          refine V_iload_n dX4_textOf_58 rfl ?_
          refine V_iadd dX4_textOf_59 ?_
          refine V_mi (f := 16) (n := 810) (w := M 16 ((27 * s) + k29)) dX4_textOf_60 rfl rfl (by decide) rfl rfl hM (by omega) ((oN46 16 _ (by decide)).trans ((o29 16 _ (by decide)).trans ((oN24 16 _ (by decide)).trans ((oN18 16 _ (by decide)).trans (by simp [sT, mset]))))) (fun r60 => ?_)
          have b60 := hI.a16 ((27 * s) + k29)
          refine V_mC (as := [_]) dX4_textOf_61 c_RX4_199 rfl (by decide) rfl (Nat.le_of_ble_eq_true rfl) hM hF (T_X4_putNumber g N46 (M 16 ((27 * s) + k29)) (by omega) hIN46 (by omega) (by omega)) (fun h hM hF => ?_)
          obtain ⟨N61, eN61⟩ : ∃ X, X = sPutN N46 (M 16 ((27 * s) + k29)) := ⟨_, rfl⟩
          rw [← eN61] at hM
          obtain ⟨oN61, hIN61, bN61, cN61⟩ := sPutN_o (M := N46) hIN46 (n := (M 16 ((27 * s) + k29))) (by omega)
          rw [← eN61] at oN61 hIN61 bN61 cN61
          refine V_iinc (lc' := [_, _, _, _]) dX4_textOf_64 rfl (by decide) rfl ?_
          refine V_goto (tgt := 29) dX4_textOf_67 (by decide) ?_
          exact ih29 (by omega) N61 ⟨by omega, by omega, by rw [sTxN_s k29l, ← k29e, show N24 16 (27 * s + k29) = M 16 (27 * s + k29) from (oN24 16 _ (by decide)).trans ((oN18 16 _ (by decide)).trans rfl)]; first | rw [if_pos q40, ← eN46, ← eN61] | rw [if_neg (by omega), ← eN61]⟩ h hM hF
    exact lp29 0 N24 ⟨by omega, by omega, rfl⟩ h hM hF
  · rw [et] at hM ⊢
    refine V_if_le (tgt := 11) dX4_textOf_5 (by decide) (by decide) (fun q5 => absurd q5 (by decide)) (fun _ => ?_)
    refine V_bipush dX4_textOf_8 (by decide) ?_
    refine V_cret (by omega) dX4_textOf_10 rfl ?_
    refine mret hM hF ?_ ?_ <;> (unfold s_textOf; (repeat' split) <;> first | rfl | (exfalso; (try simp only [isQ, isP, isS, sFrc, sTw] at *); omega))

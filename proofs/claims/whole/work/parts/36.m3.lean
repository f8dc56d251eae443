-- deps: 09 10 11 12 21 20 30 31 32 33 34 35
theorem T_X4_nextWeek (g : GP) (M : MS)   (hI : IM M) : TM g m_X4_nextWeek 6 [] M (some (xI ((s_nextWeek M).1))) ((s_nextWeek M).2) := by
  refine TM.of (by decide) rfl (fun v hv => ?_) (Nat.le_of_ble_eq_true rfl) ?_
  · cases hv
  intro h0 h hM hF
  change V g m_X4_nextWeek 6 _ h 0 [xR 18] []
  obtain ⟨⟨i19, i20, i21, i22, i23, i24, i25, i26, i29⟩, iA⟩ := id hI
  refine V_aload_n dX4_nextWeek_0 rfl ?_
  refine V_aload_n dX4_nextWeek_1 rfl ?_
  refine V_mg (f := 24) (z := M 24 0) dX4_nextWeek_2 fg_RX4_123 rfl (by decide) hM rfl (fun r2 => ?_)
  refine V_sipush dX4_nextWeek_5 (by decide) ?_
  refine V_icmp_ne (tgt := 15) dX4_nextWeek_8 (by decide) (by omega) (by omega) (fun q8 => ?_) (fun q8 => ?_)
  · refine V_iconst dX4_nextWeek_15 ?_
    refine V_mp (f := 27) dX4_nextWeek_16 f_RX4_72 rfl (by decide) hM hF (by omega) (fun h hM hF => ?_)
    refine V_aload_n dX4_nextWeek_19 rfl ?_
    refine V_mg (f := 27) (z := 0) dX4_nextWeek_20 fg_RX4_72 rfl (by decide) hM (by simp [sT, mset]) (fun r20 => ?_)
    refine V_if_le (tgt := 28) dX4_nextWeek_23 (by decide) (by decide) (fun _ => ?_) (fun q23 => absurd q23 (by decide))
    refine V_aload_n dX4_nextWeek_28 rfl ?_
    refine V_dup dX4_nextWeek_29 cat_R ?_
    refine V_mg (f := 24) (z := M 24 0) dX4_nextWeek_30 fg_RX4_123 rfl (by decide) hM (by simp [sT, mset]) (fun r30 => ?_)
    refine V_iconst dX4_nextWeek_33 ?_
    refine V_iadd dX4_nextWeek_34 ?_
    refine V_mp (f := 24) dX4_nextWeek_35 f_RX4_123 rfl (by decide) hM hF (by omega) (fun h hM hF => ?_)
    refine V_aload_n dX4_nextWeek_38 rfl ?_
    have hJ39 : IM (mset (mset M 27 0 0) 24 0 ((M 24 0) + 1)) := IM.s24 (M := mset M 27 0 0) hI (by omega)
    refine V_mC (as := []) dX4_nextWeek_39 c_RX4_92 rfl (by decide) rfl (Nat.le_of_ble_eq_true rfl) hM hF (T_X4_settle g (mset (mset M 27 0 0) 24 0 ((M 24 0) + 1))  hJ39) (fun h hM hF => ?_)
    obtain ⟨N39, eN39⟩ : ∃ X, X = sSettle (mset (mset M 27 0 0) 24 0 ((M 24 0) + 1)) := ⟨_, rfl⟩
    rw [← eN39] at hM
    obtain ⟨oN39, hIN39⟩ := sSettle_o hJ39
    rw [← eN39] at oN39 hIN39
    refine V_aload_n dX4_nextWeek_42 rfl ?_
    refine V_mg (f := 24) (z := ((M 24 0) + 1)) dX4_nextWeek_43 fg_RX4_123 rfl (by decide) hM ((oN39 24 _ (by decide)).trans (by simp [sT, mset])) (fun r43 => ?_)
    refine V_iret dX4_nextWeek_46 rfl ?_
    refine mret hM hF ?_ ?_ <;> (unfold s_nextWeek; (repeat' split) <;> first | rfl | (exfalso; (try simp only [isQ, isP, isS, sFrc, sTw] at *); omega) | (rw [eN39]; done) | (rw [eN39]; rfl))
  · refine V_iconst dX4_nextWeek_11 ?_
    refine V_goto (tgt := 16) dX4_nextWeek_12 (by decide) ?_
    refine V_mp (f := 27) dX4_nextWeek_16 f_RX4_72 rfl (by decide) hM hF (by omega) (fun h hM hF => ?_)
    refine V_aload_n dX4_nextWeek_19 rfl ?_
    refine V_mg (f := 27) (z := 1) dX4_nextWeek_20 fg_RX4_72 rfl (by decide) hM (by simp [sT, mset]) (fun r20 => ?_)
    refine V_if_le (tgt := 28) dX4_nextWeek_23 (by decide) (by decide) (fun q23 => absurd q23 (by decide)) (fun _ => ?_)
    refine V_iconst dX4_nextWeek_26 ?_
    refine V_iret dX4_nextWeek_27 rfl ?_
    refine mret hM hF ?_ ?_ <;> (unfold s_nextWeek; (repeat' split) <;> first | rfl | (exfalso; (try simp only [isQ, isP, isS, sFrc, sTw] at *); omega) | (rw [eN39]; done) | (rw [eN39]; rfl))
theorem T_X4_add (g : GP) (M : MS) (l : Int) (r_l : -2147483648 ≤ l ∧ l ≤ 2147483647) (hI : IM M) : TM g m_X4_add 6 [xI l] M (some (xI ((s_add M l).1))) ((s_add M l).2) := by
  refine TM.of (by decide) rfl (fun v hv => ?_) (Nat.le_of_ble_eq_true rfl) ?_
  · simp only [List.mem_cons, List.not_mem_nil, or_false] at hv
    subst hv; exact ⟨_, rfl⟩
  intro h0 h hM hF
  change V g m_X4_add 6 _ h 0 [xR 18, xI l, xU] []
  obtain ⟨⟨i19, i20, i21, i22, i23, i24, i25, i26, i29⟩, iA⟩ := id hI
  refine V_aload_n dX4_add_0 rfl ?_
  refine V_iload_n dX4_add_1 rfl ?_
  refine V_iconst dX4_add_2 ?_
  refine V_bipush dX4_add_3 (by decide) ?_
  refine V_pS (as := [_, _, _]) dX4_add_5 c_RX4_79 rfl (by decide) rfl (Nat.le_of_ble_eq_true rfl) (T_X4_in g l 0 100 (by omega) (by omega) (by omega)) ?_
  refine V_ifb_ne (tgt := 15) dX4_add_8 (by decide) (fun q8 => ?_) (fun q8 => ?_)
  · refine V_aload_n dX4_add_15 rfl ?_
    refine V_mg (f := 19) (z := M 19 0) dX4_add_16 fg_RX4_89 rfl (by decide) hM rfl (fun r16 => ?_)
    refine V_if_ne (tgt := 26) dX4_add_19 (by decide) (by omega) (fun q19 => ?_) (fun q19 => ?_)
    · refine V_aload_n dX4_add_26 rfl ?_
      refine V_mg (f := 20) (z := M 20 0) dX4_add_27 fg_RX4_76 rfl (by decide) hM rfl (fun r27 => ?_)
      refine V_bipush dX4_add_30 (by decide) ?_
      refine V_icmp_ne (tgt := 39) dX4_add_32 (by decide) (by omega) (by omega) (fun q32 => ?_) (fun q32 => ?_)
      · refine V_iconst dX4_add_39 ?_
        refine V_mp (f := 27) dX4_add_40 f_RX4_72 rfl (by decide) hM hF (by omega) (fun h hM hF => ?_)
        refine V_aload_n dX4_add_43 rfl ?_
        refine V_mg (f := 27) (z := 0) dX4_add_44 fg_RX4_72 rfl (by decide) hM (by simp [sT, mset]) (fun r44 => ?_)
        refine V_if_le (tgt := 52) dX4_add_47 (by decide) (by decide) (fun _ => ?_) (fun q47 => absurd q47 (by decide))
        refine V_iconst dX4_add_52 ?_
        refine V_istore_n (lc' := [_, _, _]) dX4_add_53 (by decide) rfl ?_
        have lp54 : ∀ k54 : Int, ∀ M54 : MS, (0 ≤ k54 ∧ k54 ≤ M 19 0 ∧ M54 = sCpN (mset M 27 0 0) k54.toNat) → ∀ h, MR h M54 → FR h0 h → V g m_X4_add 6 (Qm h0 (some (xI ((s_add M l).1))) ((s_add M l).2)) h 54 [xR 18, xI l, xI k54] [] := by
          refine lp_up (M 19 0) (fun k54 ih54 => ?_)
          intro M54 hk h hM hF
          obtain ⟨k54l, k54u, k54e⟩ := hk
          have oI54 := sCpN_o (M := mset M 27 0 0) hI k54.toNat
          rw [← k54e] at oI54
          obtain ⟨o54, hI54⟩ := oI54
          refine V_iload_n dX4_add_54 rfl ?_
          refine V_aload_n dX4_add_55 rfl ?_
          refine V_mg (f := 19) (z := M 19 0) dX4_add_56 fg_RX4_89 rfl (by decide) hM ((o54 19 _ (by decide)).trans (by simp [sT, mset])) (fun r56 => ?_)
          refine V_icmp_ge (tgt := 88) dX4_add_59 (by decide) (by omega) (by omega) (fun q59 => ?_) (fun q59 => ?_)
          · refine V_aload_n dX4_add_88 rfl ?_
            refine V_mgA (f := 2) (a := 21) dX4_add_89 fg_RX4_16 rfl (by decide) hM rfl ?_
            refine V_aload_n dX4_add_92 rfl ?_
            refine V_mg (f := 20) (z := M 20 0) dX4_add_93 fg_RX4_76 rfl (by decide) hM ((o54 20 _ (by decide)).trans (by simp [sT, mset])) (fun r93 => ?_)
            refine V_aload_n dX4_add_96 rfl ?_
            refine V_mg (f := 19) (z := M 19 0) dX4_add_97 fg_RX4_89 rfl (by decide) hM ((o54 19 _ (by decide)).trans (by simp [sT, mset])) (fun r97 => ?_)
            refine V_mis (f := 2) (n := 40) dX4_add_100 rfl rfl (by decide) rfl rfl hM hF (by omega) (by omega) (fun h hM hF => ?_)
            refine V_aload_n dX4_add_101 rfl ?_
            refine V_mgA (f := 3) (a := 22) dX4_add_102 fg_RX4_19 rfl (by decide) hM rfl ?_
            refine V_aload_n dX4_add_105 rfl ?_
            refine V_mg (f := 20) (z := M 20 0) dX4_add_106 fg_RX4_76 rfl (by decide) hM ((by simp [sT, mset] : (mset M54 2 (M 20 0) (M 19 0)) 20 0 = M54 20 0).trans ((o54 20 _ (by decide)).trans (by simp [sT, mset]))) (fun r106 => ?_)
            refine V_iload_n dX4_add_109 rfl ?_
            refine V_mis (f := 3) (n := 40) dX4_add_110 rfl rfl (by decide) rfl rfl hM hF (by omega) (by omega) (fun h hM hF => ?_)
            refine V_aload_n dX4_add_111 rfl ?_
            refine V_mgA (f := 4) (a := 23) dX4_add_112 fg_RX4_22 rfl (by decide) hM rfl ?_
            refine V_aload_n dX4_add_115 rfl ?_
            refine V_mg (f := 20) (z := M 20 0) dX4_add_116 fg_RX4_76 rfl (by decide) hM ((by simp [sT, mset] : (mset (mset M54 2 (M 20 0) (M 19 0)) 3 (M 20 0) l) 20 0 = M54 20 0).trans ((o54 20 _ (by decide)).trans (by simp [sT, mset]))) (fun r116 => ?_)
            refine V_aload_n dX4_add_119 rfl ?_
            refine V_mg (f := 20) (z := M 20 0) dX4_add_120 fg_RX4_76 rfl (by decide) hM ((by simp [sT, mset] : (mset (mset M54 2 (M 20 0) (M 19 0)) 3 (M 20 0) l) 20 0 = M54 20 0).trans ((o54 20 _ (by decide)).trans (by simp [sT, mset]))) (fun r120 => ?_)
            refine V_mis (f := 4) (n := 40) dX4_add_123 rfl rfl (by decide) rfl rfl hM hF (by omega) (by omega) (fun h hM hF => ?_)
            refine V_aload_n dX4_add_124 rfl ?_
            refine V_mgA (f := 5) (a := 24) dX4_add_125 fg_RX4_25 rfl (by decide) hM rfl ?_
            refine V_aload_n dX4_add_128 rfl ?_
            refine V_mg (f := 20) (z := M 20 0) dX4_add_129 fg_RX4_76 rfl (by decide) hM ((by simp [sT, mset] : (mset (mset (mset M54 2 (M 20 0) (M 19 0)) 3 (M 20 0) l) 4 (M 20 0) (M 20 0)) 20 0 = M54 20 0).trans ((o54 20 _ (by decide)).trans (by simp [sT, mset]))) (fun r129 => ?_)
            refine V_bipush dX4_add_132 (by decide) ?_
            refine V_mis (f := 5) (n := 40) dX4_add_134 rfl rfl (by decide) rfl rfl hM hF (by omega) (by omega) (fun h hM hF => ?_)
            refine V_aload_n dX4_add_135 rfl ?_
            refine V_iconst dX4_add_136 ?_
            refine V_mp (f := 19) dX4_add_137 f_RX4_89 rfl (by decide) hM hF (by omega) (fun h hM hF => ?_)
            refine V_aload_n dX4_add_140 rfl ?_
            refine V_dup dX4_add_141 cat_R ?_
            refine V_mg (f := 20) (z := M 20 0) dX4_add_142 fg_RX4_76 rfl (by decide) hM ((by simp [sT, mset] : (mset (mset (mset (mset (mset M54 2 (M 20 0) (M 19 0)) 3 (M 20 0) l) 4 (M 20 0) (M 20 0)) 5 (M 20 0) (-100)) 19 0 0) 20 0 = M54 20 0).trans ((o54 20 _ (by decide)).trans (by simp [sT, mset]))) (fun r142 => ?_)
            refine V_iconst dX4_add_145 ?_
            refine V_iadd dX4_add_146 ?_
            refine V_mp (f := 20) dX4_add_147 f_RX4_76 rfl (by decide) hM hF (by omega) (fun h hM hF => ?_)
            refine V_aload_n dX4_add_150 rfl ?_
            have hJ151 : IM (mset (mset (mset (mset (mset (mset M54 2 (M 20 0) (M 19 0)) 3 (M 20 0) l) 4 (M 20 0) (M 20 0)) 5 (M 20 0) (-100)) 19 0 0) 20 0 ((M 20 0) + 1)) := (((((hI54.s2 (by omega)).s3 (by omega)).s4).s5 (by omega)).s19 (by omega)).s20 (by omega)
            refine V_mC (as := []) dX4_add_151 c_RX4_92 rfl (by decide) rfl (Nat.le_of_ble_eq_true rfl) hM hF (T_X4_settle g (mset (mset (mset (mset (mset (mset M54 2 (M 20 0) (M 19 0)) 3 (M 20 0) l) 4 (M 20 0) (M 20 0)) 5 (M 20 0) (-100)) 19 0 0) 20 0 ((M 20 0) + 1))  hJ151) (fun h hM hF => ?_)
            obtain ⟨N151, eN151⟩ : ∃ X, X = sSettle (mset (mset (mset (mset (mset (mset M54 2 (M 20 0) (M 19 0)) 3 (M 20 0) l) 4 (M 20 0) (M 20 0)) 5 (M 20 0) (-100)) 19 0 0) 20 0 ((M 20 0) + 1)) := ⟨_, rfl⟩
            rw [← eN151] at hM
            obtain ⟨oN151, hIN151⟩ := sSettle_o hJ151
            rw [← eN151] at oN151 hIN151
            refine V_aload_n dX4_add_154 rfl ?_
            refine V_mg (f := 20) (z := ((M 20 0) + 1)) dX4_add_155 fg_RX4_76 rfl (by decide) hM ((oN151 20 _ (by decide)).trans (by simp [sT, mset])) (fun r155 => ?_)
            refine V_iconst dX4_add_158 ?_
            refine V_isub dX4_add_159 ?_
            refine V_iret dX4_add_160 rfl ?_
            refine mret hM hF ?_ ?_ <;> (unfold s_add; (repeat' split) <;> first | rfl | (exfalso; (try simp only [isQ, isP, isS, sFrc, sTw] at *); omega) | (rw [eN151, k54e, show k54 = M 19 0 by omega]; done) | (rw [eN151, k54e, show k54 = M 19 0 by omega]; rfl))
          · refine V_aload_n dX4_add_62 rfl ?_
            refine V_mgA (f := 1) (a := 20) dX4_add_63 fg_RX4_13 rfl (by decide) hM rfl ?_
            refine V_bipush dX4_add_66 (by decide) ?_
            refine V_aload_n dX4_add_68 rfl ?_
            refine V_mg (f := 20) (z := M 20 0) dX4_add_69 fg_RX4_76 rfl (by decide) hM ((o54 20 _ (by decide)).trans (by simp [sT, mset])) (fun r69 => ?_)
            refine V_imul dX4_add_72 ?_
            refine V_iload_n dX4_add_73 rfl ?_
            refine V_iadd dX4_add_74 ?_
            refine V_aload_n dX4_add_75 rfl ?_
            refine V_mgA (f := 0) (a := 19) dX4_add_76 fg_RX4_7 rfl (by decide) hM rfl ?_
            refine V_iload_n dX4_add_79 rfl ?_
            refine V_mi (f := 0) (n := 6) (w := M 0 k54) dX4_add_80 rfl rfl (by decide) rfl rfl hM (by omega) ((o54 0 _ (by decide)).trans (by simp [sT, mset])) (fun r80 => ?_)
            refine V_mis (f := 1) (n := 240) dX4_add_81 rfl rfl (by decide) rfl rfl hM hF (by omega) (by omega) (fun h hM hF => ?_)
            refine V_iinc (lc' := [_, _, _]) dX4_add_82 rfl (by decide) rfl ?_
            refine V_goto (tgt := 54) dX4_add_85 (by decide) ?_
            exact ih54 (by omega) (mset M54 1 ((6 * (M 20 0)) + k54) (M 0 k54)) ⟨by omega, by omega, by rw [sCpN_s k54l, ← k54e]; rfl⟩ h hM hF
        exact lp54 0 (mset M 27 0 0) ⟨by omega, by omega, rfl⟩ h hM hF
      · refine V_iconst dX4_add_35 ?_
        refine V_goto (tgt := 40) dX4_add_36 (by decide) ?_
        refine V_mp (f := 27) dX4_add_40 f_RX4_72 rfl (by decide) hM hF (by omega) (fun h hM hF => ?_)
        refine V_aload_n dX4_add_43 rfl ?_
        refine V_mg (f := 27) (z := 3) dX4_add_44 fg_RX4_72 rfl (by decide) hM (by simp [sT, mset]) (fun r44 => ?_)
        refine V_if_le (tgt := 52) dX4_add_47 (by decide) (by decide) (fun q47 => absurd q47 (by decide)) (fun _ => ?_)
        refine V_iconst dX4_add_50 ?_
        refine V_iret dX4_add_51 rfl ?_
        refine mret hM hF ?_ ?_ <;> (unfold s_add; (repeat' split) <;> first | rfl | (exfalso; (try simp only [isQ, isP, isS, sFrc, sTw] at *); omega) | (rw [eN151, k54e, show k54 = M 19 0 by omega]; done) | (rw [eN151, k54e, show k54 = M 19 0 by omega]; rfl))
    · refine V_iconst dX4_add_22 ?_
      refine V_goto (tgt := 40) dX4_add_23 (by decide) ?_
      refine V_mp (f := 27) dX4_add_40 f_RX4_72 rfl (by decide) hM hF (by omega) (fun h hM hF => ?_)
      refine V_aload_n dX4_add_43 rfl ?_
      refine V_mg (f := 27) (z := 2) dX4_add_44 fg_RX4_72 rfl (by decide) hM (by simp [sT, mset]) (fun r44 => ?_)
      refine V_if_le (tgt := 52) dX4_add_47 (by decide) (by decide) (fun q47 => absurd q47 (by decide)) (fun _ => ?_)
      refine V_iconst dX4_add_50 ?_
      refine V_iret dX4_add_51 rfl ?_
      refine mret hM hF ?_ ?_ <;> (unfold s_add; (repeat' split) <;> first | rfl | (exfalso; (try simp only [isQ, isP, isS, sFrc, sTw] at *); omega) | (rw [eN151, k54e, show k54 = M 19 0 by omega]; done) | (rw [eN151, k54e, show k54 = M 19 0 by omega]; rfl))
  · refine V_iconst dX4_add_11 ?_
    refine V_goto (tgt := 40) dX4_add_12 (by decide) ?_
    refine V_mp (f := 27) dX4_add_40 f_RX4_72 rfl (by decide) hM hF (by omega) (fun h hM hF => ?_)
    refine V_aload_n dX4_add_43 rfl ?_
    refine V_mg (f := 27) (z := 1) dX4_add_44 fg_RX4_72 rfl (by decide) hM (by simp [sT, mset]) (fun r44 => ?_)
    refine V_if_le (tgt := 52) dX4_add_47 (by decide) (by decide) (fun q47 => absurd q47 (by decide)) (fun _ => ?_)
    refine V_iconst dX4_add_50 ?_
    refine V_iret dX4_add_51 rfl ?_
    refine mret hM hF ?_ ?_ <;> (unfold s_add; (repeat' split) <;> first | rfl | (exfalso; (try simp only [isQ, isP, isS, sFrc, sTw] at *); omega) | (rw [eN151, k54e, show k54 = M 19 0 by omega]; done) | (rw [eN151, k54e, show k54 = M 19 0 by omega]; rfl))
theorem T_X4_twin (g : GP) (M : MS) (a : Int) (b : Int) (r_a : -2147483648 ≤ a ∧ a ≤ 2147483647) (r_b : -2147483648 ≤ b ∧ b ≤ 2147483647) (hI : IM M) : TM g m_X4_twin 6 [xI a, xI b] M (some (xI ((s_twin M a b).1))) ((s_twin M a b).2) := by
  refine TM.of (by decide) rfl (fun v hv => ?_) (Nat.le_of_ble_eq_true rfl) ?_
  · simp only [List.mem_cons, List.not_mem_nil, or_false] at hv
    rcases hv with rfl | rfl <;> exact ⟨_, rfl⟩
  intro h0 h hM hF
  change V g m_X4_twin 6 _ h 0 [xR 18, xI a, xI b, xU, xU, xU] []
  obtain ⟨⟨i19, i20, i21, i22, i23, i24, i25, i26, i29⟩, iA⟩ := id hI
  refine V_aload_n dX4_twin_0 rfl ?_
  refine V_aload_n dX4_twin_1 rfl ?_
  refine V_iload_n dX4_twin_2 rfl ?_
  refine V_mC (as := [_]) dX4_twin_3 c_RX4_95 rfl (by decide) rfl (Nat.le_of_ble_eq_true rfl) hM hF (T_X4_isQuestion g M a (by omega) hI) (fun h hM hF => ?_)
  refine V_ifb_eq (tgt := 17) dX4_twin_6 (by decide) (fun q6 => ?_) (fun q6 => ?_)
  · refine V_iconst dX4_twin_17 ?_
    refine V_goto (tgt := 31) dX4_twin_18 (by decide) ?_
    refine V_mp (f := 27) dX4_twin_31 f_RX4_72 rfl (by decide) hM hF (by omega) (fun h hM hF => ?_)
    refine V_aload_n dX4_twin_34 rfl ?_
    refine V_mg (f := 27) (z := 1) dX4_twin_35 fg_RX4_72 rfl (by decide) hM (by simp [sT, mset]) (fun r35 => ?_)
    refine V_if_le (tgt := 43) dX4_twin_38 (by decide) (by decide) (fun q38 => absurd q38 (by decide)) (fun _ => ?_)
    refine V_iconst dX4_twin_41 ?_
    refine V_iret dX4_twin_42 rfl ?_
    refine mret hM hF ?_ ?_ <;> (unfold s_twin; (repeat' split) <;> first | rfl | (exfalso; (try simp only [isQ, isP, isS, sFrc, sTw] at *); omega) | (rw [k98e, show k98 = M 20 0 by omega, k53e, show k53 = M 20 0 by omega]; done) | (rw [k98e, show k98 = M 20 0 by omega, k53e, show k53 = M 20 0 by omega]; rfl) | (rw [eN146, k53e, show k53 = M 20 0 by omega]; done) | (rw [eN146, k53e, show k53 = M 20 0 by omega]; rfl))
  · refine V_aload_n dX4_twin_9 rfl ?_
    refine V_iload_n dX4_twin_10 rfl ?_
    refine V_mC (as := [_]) dX4_twin_11 c_RX4_95 rfl (by decide) rfl (Nat.le_of_ble_eq_true rfl) hM hF (T_X4_isQuestion g M b (by omega) hI) (fun h hM hF => ?_)
    refine V_ifb_ne (tgt := 21) dX4_twin_14 (by decide) (fun q14 => ?_) (fun q14 => ?_)
    · refine V_iload_n dX4_twin_21 rfl ?_
      refine V_iload_n dX4_twin_22 rfl ?_
      refine V_icmp_ne (tgt := 30) dX4_twin_23 (by decide) (by omega) (by omega) (fun q23 => ?_) (fun q23 => ?_)
      · refine V_iconst dX4_twin_30 ?_
        refine V_mp (f := 27) dX4_twin_31 f_RX4_72 rfl (by decide) hM hF (by omega) (fun h hM hF => ?_)
        refine V_aload_n dX4_twin_34 rfl ?_
        refine V_mg (f := 27) (z := 0) dX4_twin_35 fg_RX4_72 rfl (by decide) hM (by simp [sT, mset]) (fun r35 => ?_)
        refine V_if_le (tgt := 43) dX4_twin_38 (by decide) (by decide) (fun _ => ?_) (fun q38 => absurd q38 (by decide))
        refine V_aload_n dX4_twin_43 rfl ?_
        refine V_mgA (f := 4) (a := 23) dX4_twin_44 fg_RX4_22 rfl (by decide) hM rfl ?_
        refine V_iload_n dX4_twin_47 rfl ?_
        refine V_mi (f := 4) (n := 40) (w := M 4 b) dX4_twin_48 rfl rfl (by decide) rfl rfl hM (by omega) (by simp [sT, mset]) (fun r48 => ?_)
        refine V_istore_n (lc' := [_, _, _, _, _, _]) dX4_twin_49 (by decide) rfl ?_
        refine V_iconst dX4_twin_50 ?_
        refine V_istore (lc' := [_, _, _, _, _, _]) dX4_twin_51 (by decide) rfl ?_
        have lp53 : ∀ k53 : Int, ∀ M53 : MS, (0 ≤ k53 ∧ k53 ≤ M 20 0 ∧ M53 = sGrN (mset M 27 0 0) (M 4 b) a k53.toNat) → ∀ h, MR h M53 → FR h0 h → V g m_X4_twin 6 (Qm h0 (some (xI ((s_twin M a b).1))) ((s_twin M a b).2)) h 53 [xR 18, xI a, xI b, xI (M 4 b), xI k53, xU] [] := by
          refine lp_up (M 20 0) (fun k53 ih53 => ?_)
          intro M53 hk h hM hF
          obtain ⟨k53l, k53u, k53e⟩ := hk
          have oI53 := sGrN_o (M := mset M 27 0 0) (fr := M 4 b) (a := a) hI k53.toNat
          rw [← k53e] at oI53
          obtain ⟨o53, hI53⟩ := oI53
          refine V_iload dX4_twin_53 rfl ?_
          refine V_aload_n dX4_twin_55 rfl ?_
          refine V_mg (f := 20) (z := M 20 0) dX4_twin_56 fg_RX4_76 rfl (by decide) hM ((o53 20 _ (by decide)).trans (by simp [sT, mset])) (fun r56 => ?_)
          refine V_icmp_ge (tgt := 92) dX4_twin_59 (by decide) (by omega) (by omega) (fun q59 => ?_) (fun q59 => ?_)
          · refine V_iconst dX4_twin_92 ?_
            refine V_istore (lc' := [_, _, _, _, _, _]) dX4_twin_93 (by decide) rfl ?_
            refine V_iconst dX4_twin_95 ?_
            refine V_istore (lc' := [_, _, _, _, _, _]) dX4_twin_96 (by decide) rfl ?_
            have lp98 : ∀ k98 : Int, ∀ n98 : Int, (0 ≤ k98 ∧ k98 ≤ M 20 0 ∧ n98 = sCtN M53 a k98.toNat) → ∀ h, MR h M53 → FR h0 h → V g m_X4_twin 6 (Qm h0 (some (xI ((s_twin M a b).1))) ((s_twin M a b).2)) h 98 [xR 18, xI a, xI b, xI (M 4 b), xI n98, xI k98] [] := by
              refine lp_up (M 20 0) (fun k98 ih98 => ?_)
              intro n98 hk h hM hF
              obtain ⟨k98l, k98u, k98e⟩ := hk
              refine V_iload dX4_twin_98 rfl ?_
              refine V_aload_n dX4_twin_100 rfl ?_
              refine V_mg (f := 20) (z := M 20 0) dX4_twin_101 fg_RX4_76 rfl (by decide) hM ((o53 20 _ (by decide)).trans (by simp [sT, mset])) (fun r101 => ?_)
              refine V_icmp_ge (tgt := 145) dX4_twin_104 (by decide) (by omega) (by omega) (fun q104 => ?_) (fun q104 => ?_)
              · refine V_aload_n dX4_twin_145 rfl ?_
                have hJ146 : IM M53 := hI53
                refine V_mC (as := []) dX4_twin_146 c_RX4_92 rfl (by decide) rfl (Nat.le_of_ble_eq_true rfl) hM hF (T_X4_settle g M53  hJ146) (fun h hM hF => ?_)
                obtain ⟨N146, eN146⟩ : ∃ X, X = sSettle M53 := ⟨_, rfl⟩
                rw [← eN146] at hM
                obtain ⟨oN146, hIN146⟩ := sSettle_o hJ146
                rw [← eN146] at oN146 hIN146
                refine V_iload dX4_twin_149 rfl ?_
                refine V_iret dX4_twin_151 rfl ?_
                refine mret hM hF ?_ ?_ <;> (unfold s_twin; (repeat' split) <;> first | rfl | (exfalso; (try simp only [isQ, isP, isS, sFrc, sTw] at *); omega) | (rw [k98e, show k98 = M 20 0 by omega, k53e, show k53 = M 20 0 by omega]; done) | (rw [k98e, show k98 = M 20 0 by omega, k53e, show k53 = M 20 0 by omega]; rfl) | (rw [eN146, k53e, show k53 = M 20 0 by omega]; done) | (rw [eN146, k53e, show k53 = M 20 0 by omega]; rfl))
              · refine V_iload dX4_twin_107 rfl ?_
                refine V_iload dX4_twin_109 rfl ?_
                refine V_iload_n dX4_twin_111 rfl ?_
                refine V_icmp_eq (tgt := 135) dX4_twin_112 (by decide) (by omega) (by omega) (fun q112 => ?_) (fun q112 => ?_)
                · refine V_iconst dX4_twin_135 ?_
                  refine V_iadd dX4_twin_136 ?_
                  refine V_istore (lc' := [_, _, _, _, _, _]) dX4_twin_137 (by decide) rfl ?_
                  refine V_iinc (lc' := [_, _, _, _, _, _]) dX4_twin_139 rfl (by decide) rfl ?_
                  refine V_goto (tgt := 98) dX4_twin_142 (by decide) ?_
                  exact ih98 (by omega) (n98 + 0) ⟨by omega, by omega, by rw [sCtN_s k98l, ← k98e]; (split <;> first | rfl | (exfalso; omega))⟩ h hM hF
                · refine V_aload_n dX4_twin_115 rfl ?_
                  refine V_mgA (f := 4) (a := 23) dX4_twin_116 fg_RX4_22 rfl (by decide) hM rfl ?_
                  refine V_iload dX4_twin_119 rfl ?_
                  refine V_mi (f := 4) (n := 40) (w := M53 4 k98) dX4_twin_121 rfl rfl (by decide) rfl rfl hM (by omega) rfl (fun r121 => ?_)
                  refine V_aload_n dX4_twin_122 rfl ?_
                  refine V_mgA (f := 4) (a := 23) dX4_twin_123 fg_RX4_22 rfl (by decide) hM rfl ?_
                  refine V_iload_n dX4_twin_126 rfl ?_
                  refine V_mi (f := 4) (n := 40) (w := M53 4 a) dX4_twin_127 rfl rfl (by decide) rfl rfl hM (by omega) rfl (fun r127 => ?_)
                  refine V_icmp_ne (tgt := 135) dX4_twin_128 (by decide) (by omega) (by omega) (fun q128 => ?_) (fun q128 => ?_)
                  · refine V_iconst dX4_twin_135 ?_
                    refine V_iadd dX4_twin_136 ?_
                    refine V_istore (lc' := [_, _, _, _, _, _]) dX4_twin_137 (by decide) rfl ?_
                    refine V_iinc (lc' := [_, _, _, _, _, _]) dX4_twin_139 rfl (by decide) rfl ?_
                    refine V_goto (tgt := 98) dX4_twin_142 (by decide) ?_
                    exact ih98 (by omega) (n98 + 0) ⟨by omega, by omega, by rw [sCtN_s k98l, ← k98e]; (split <;> first | rfl | (exfalso; omega))⟩ h hM hF
                  · refine V_iconst dX4_twin_131 ?_
                    refine V_goto (tgt := 136) dX4_twin_132 (by decide) ?_
                    refine V_iadd dX4_twin_136 ?_
                    refine V_istore (lc' := [_, _, _, _, _, _]) dX4_twin_137 (by decide) rfl ?_
                    refine V_iinc (lc' := [_, _, _, _, _, _]) dX4_twin_139 rfl (by decide) rfl ?_
                    refine V_goto (tgt := 98) dX4_twin_142 (by decide) ?_
                    exact ih98 (by omega) (n98 + 1) ⟨by omega, by omega, by rw [sCtN_s k98l, ← k98e]; (split <;> first | rfl | (exfalso; omega))⟩ h hM hF
            exact lp98 0 0 ⟨by omega, by omega, rfl⟩ h hM hF
          · refine V_aload_n dX4_twin_62 rfl ?_
            refine V_mgA (f := 4) (a := 23) dX4_twin_63 fg_RX4_22 rfl (by decide) hM rfl ?_
            refine V_iload dX4_twin_66 rfl ?_
            refine V_mi (f := 4) (n := 40) (w := M53 4 k53) dX4_twin_68 rfl rfl (by decide) rfl rfl hM (by omega) rfl (fun r68 => ?_)
            refine V_iload_n dX4_twin_69 rfl ?_
            refine V_icmp_ne (tgt := 86) dX4_twin_70 (by decide) (by omega) (by omega) (fun q70 => ?_) (fun q70 => ?_)
            · refine V_iinc (lc' := [_, _, _, _, _, _]) dX4_twin_86 rfl (by decide) rfl ?_
              refine V_goto (tgt := 53) dX4_twin_89 (by decide) ?_
              exact ih53 (by omega) M53 ⟨by omega, by omega, by rw [sGrN_s k53l, ← k53e]; first | exact (if_neg q70).symm | exact (if_pos q70).symm⟩ h hM hF
            · refine V_aload_n dX4_twin_73 rfl ?_
              refine V_mgA (f := 4) (a := 23) dX4_twin_74 fg_RX4_22 rfl (by decide) hM rfl ?_
              refine V_iload dX4_twin_77 rfl ?_
              refine V_aload_n dX4_twin_79 rfl ?_
              refine V_mgA (f := 4) (a := 23) dX4_twin_80 fg_RX4_22 rfl (by decide) hM rfl ?_
              refine V_iload_n dX4_twin_83 rfl ?_
              refine V_mi (f := 4) (n := 40) (w := M53 4 a) dX4_twin_84 rfl rfl (by decide) rfl rfl hM (by omega) rfl (fun r84 => ?_)
              refine V_mis (f := 4) (n := 40) dX4_twin_85 rfl rfl (by decide) rfl rfl hM hF (by omega) (by omega) (fun h hM hF => ?_)
              refine V_iinc (lc' := [_, _, _, _, _, _]) dX4_twin_86 rfl (by decide) rfl ?_
              refine V_goto (tgt := 53) dX4_twin_89 (by decide) ?_
              exact ih53 (by omega) (mset M53 4 k53 (M53 4 a)) ⟨by omega, by omega, by rw [sGrN_s k53l, ← k53e]; first | exact (if_neg q70).symm | exact (if_pos q70).symm⟩ h hM hF
        exact lp53 0 (mset M 27 0 0) ⟨by omega, by omega, rfl⟩ h hM hF
      · refine V_iconst dX4_twin_26 ?_
        refine V_goto (tgt := 31) dX4_twin_27 (by decide) ?_
        refine V_mp (f := 27) dX4_twin_31 f_RX4_72 rfl (by decide) hM hF (by omega) (fun h hM hF => ?_)
        refine V_aload_n dX4_twin_34 rfl ?_
        refine V_mg (f := 27) (z := 2) dX4_twin_35 fg_RX4_72 rfl (by decide) hM (by simp [sT, mset]) (fun r35 => ?_)
        refine V_if_le (tgt := 43) dX4_twin_38 (by decide) (by decide) (fun q38 => absurd q38 (by decide)) (fun _ => ?_)
        refine V_iconst dX4_twin_41 ?_
        refine V_iret dX4_twin_42 rfl ?_
        refine mret hM hF ?_ ?_ <;> (unfold s_twin; (repeat' split) <;> first | rfl | (exfalso; (try simp only [isQ, isP, isS, sFrc, sTw] at *); omega) | (rw [k98e, show k98 = M 20 0 by omega, k53e, show k53 = M 20 0 by omega]; done) | (rw [k98e, show k98 = M 20 0 by omega, k53e, show k53 = M 20 0 by omega]; rfl) | (rw [eN146, k53e, show k53 = M 20 0 by omega]; done) | (rw [eN146, k53e, show k53 = M 20 0 by omega]; rfl))
    · refine V_iconst dX4_twin_17 ?_
      refine V_goto (tgt := 31) dX4_twin_18 (by decide) ?_
      refine V_mp (f := 27) dX4_twin_31 f_RX4_72 rfl (by decide) hM hF (by omega) (fun h hM hF => ?_)
      refine V_aload_n dX4_twin_34 rfl ?_
      refine V_mg (f := 27) (z := 1) dX4_twin_35 fg_RX4_72 rfl (by decide) hM (by simp [sT, mset]) (fun r35 => ?_)
      refine V_if_le (tgt := 43) dX4_twin_38 (by decide) (by decide) (fun q38 => absurd q38 (by decide)) (fun _ => ?_)
      refine V_iconst dX4_twin_41 ?_
      refine V_iret dX4_twin_42 rfl ?_
      refine mret hM hF ?_ ?_ <;> (unfold s_twin; (repeat' split) <;> first | rfl | (exfalso; (try simp only [isQ, isP, isS, sFrc, sTw] at *); omega) | (rw [k98e, show k98 = M 20 0 by omega, k53e, show k53 = M 20 0 by omega]; done) | (rw [k98e, show k98 = M 20 0 by omega, k53e, show k53 = M 20 0 by omega]; rfl) | (rw [eN146, k53e, show k53 = M 20 0 by omega]; done) | (rw [eN146, k53e, show k53 = M 20 0 by omega]; rfl))
theorem T_X4_plan (g : GP) (M : MS) (w : Int) (kd : Int) (n : Int) (r_w : -2147483648 ≤ w ∧ w ≤ 2147483647) (r_kd : -2147483648 ≤ kd ∧ kd ≤ 2147483647) (r_n : -2147483648 ≤ n ∧ n ≤ 2147483647) (hI : IM M) (h1 : 0 ≤ kd ∧ kd < 65536) : TM g m_X4_plan 6 [xI w, xI kd, xI n] M (some (xI ((s_plan M w kd n).1))) ((s_plan M w kd n).2) := by
  refine TM.of (by decide) rfl (fun v hv => ?_) (Nat.le_of_ble_eq_true rfl) ?_
  · simp only [List.mem_cons, List.not_mem_nil, or_false] at hv
    rcases hv with rfl | rfl | rfl <;> exact ⟨_, rfl⟩
  intro h0 h hM hF
  change V g m_X4_plan 6 _ h 0 [xR 18, xI w, xI kd, xI n] []
  obtain ⟨⟨i19, i20, i21, i22, i23, i24, i25, i26, i29⟩, iA⟩ := id hI
  refine V_aload_n dX4_plan_0 rfl ?_
  refine V_iload_n dX4_plan_1 rfl ?_
  refine V_aload_n dX4_plan_2 rfl ?_
  refine V_mg (f := 24) (z := M 24 0) dX4_plan_3 fg_RX4_123 rfl (by decide) hM rfl (fun r3 => ?_)
  refine V_sipush dX4_plan_6 (by decide) ?_
  refine V_pS (as := [_, _, _]) dX4_plan_9 c_RX4_79 rfl (by decide) rfl (Nat.le_of_ble_eq_true rfl) (T_X4_in g w (M 24 0) 999 (by omega) (by omega) (by omega)) ?_
  refine V_ifb_eq (tgt := 32) dX4_plan_12 (by decide) (fun q12 => ?_) (fun q12 => ?_)
  · refine V_iconst dX4_plan_32 ?_
    refine V_goto (tgt := 50) dX4_plan_33 (by decide) ?_
    refine V_mp (f := 27) dX4_plan_50 f_RX4_72 rfl (by decide) hM hF (by omega) (fun h hM hF => ?_)
    refine V_aload_n dX4_plan_53 rfl ?_
    refine V_mg (f := 27) (z := 1) dX4_plan_54 fg_RX4_72 rfl (by decide) hM (by simp [sT, mset]) (fun r54 => ?_)
    refine V_if_le (tgt := 62) dX4_plan_57 (by decide) (by decide) (fun q57 => absurd q57 (by decide)) (fun _ => ?_)
    refine V_iconst dX4_plan_60 ?_
    refine V_iret dX4_plan_61 rfl ?_
    refine mret hM hF ?_ ?_ <;> (unfold s_plan; (repeat' split) <;> first | rfl | (exfalso; (try simp only [isQ, isP, isS, sFrc, sTw] at *); omega) | (rw [eN103]; done) | (rw [eN103]; rfl))
  · refine V_iload_n dX4_plan_15 rfl ?_
    refine V_pS (as := [_]) dX4_plan_16 c_RX4_129 rfl (by decide) rfl (Nat.le_of_ble_eq_true rfl) (T_X4_isKind g kd (by omega)) ?_
    refine V_ifb_eq (tgt := 32) dX4_plan_19 (by decide) (fun q19 => ?_) (fun q19 => ?_)
    · refine V_iconst dX4_plan_32 ?_
      refine V_goto (tgt := 50) dX4_plan_33 (by decide) ?_
      refine V_mp (f := 27) dX4_plan_50 f_RX4_72 rfl (by decide) hM hF (by omega) (fun h hM hF => ?_)
      refine V_aload_n dX4_plan_53 rfl ?_
      refine V_mg (f := 27) (z := 1) dX4_plan_54 fg_RX4_72 rfl (by decide) hM (by simp [sT, mset]) (fun r54 => ?_)
      refine V_if_le (tgt := 62) dX4_plan_57 (by decide) (by decide) (fun q57 => absurd q57 (by decide)) (fun _ => ?_)
      refine V_iconst dX4_plan_60 ?_
      refine V_iret dX4_plan_61 rfl ?_
      refine mret hM hF ?_ ?_ <;> (unfold s_plan; (repeat' split) <;> first | rfl | (exfalso; (try simp only [isQ, isP, isS, sFrc, sTw] at *); omega) | (rw [eN103]; done) | (rw [eN103]; rfl))
    · refine V_iload_n dX4_plan_22 rfl ?_
      refine V_iconst dX4_plan_23 ?_
      refine V_bipush dX4_plan_24 (by decide) ?_
      refine V_pS (as := [_, _, _]) dX4_plan_26 c_RX4_79 rfl (by decide) rfl (Nat.le_of_ble_eq_true rfl) (T_X4_in g n 1 9 (by omega) (by omega) (by omega)) ?_
      refine V_ifb_ne (tgt := 36) dX4_plan_29 (by decide) (fun q29 => ?_) (fun q29 => ?_)
      · refine V_aload_n dX4_plan_36 rfl ?_
        refine V_mg (f := 22) (z := M 22 0) dX4_plan_37 fg_RX4_83 rfl (by decide) hM rfl (fun r37 => ?_)
        refine V_bipush dX4_plan_40 (by decide) ?_
        refine V_icmp_ne (tgt := 49) dX4_plan_42 (by decide) (by omega) (by omega) (fun q42 => ?_) (fun q42 => ?_)
        · refine V_iconst dX4_plan_49 ?_
          refine V_mp (f := 27) dX4_plan_50 f_RX4_72 rfl (by decide) hM hF (by omega) (fun h hM hF => ?_)
          refine V_aload_n dX4_plan_53 rfl ?_
          refine V_mg (f := 27) (z := 0) dX4_plan_54 fg_RX4_72 rfl (by decide) hM (by simp [sT, mset]) (fun r54 => ?_)
          refine V_if_le (tgt := 62) dX4_plan_57 (by decide) (by decide) (fun _ => ?_) (fun q57 => absurd q57 (by decide))
          refine V_aload_n dX4_plan_62 rfl ?_
          refine V_mgA (f := 8) (a := 27) dX4_plan_63 fg_RX4_34 rfl (by decide) hM rfl ?_
          refine V_aload_n dX4_plan_66 rfl ?_
          refine V_mg (f := 22) (z := M 22 0) dX4_plan_67 fg_RX4_83 rfl (by decide) hM (by simp [sT, mset]) (fun r67 => ?_)
          refine V_iload_n dX4_plan_70 rfl ?_
          refine V_mis (f := 8) (n := 12) dX4_plan_71 rfl rfl (by decide) rfl rfl hM hF (by omega) (by omega) (fun h hM hF => ?_)
          refine V_aload_n dX4_plan_72 rfl ?_
          refine V_mgA (f := 12) (a := 31) dX4_plan_73 fg_RX4_46 rfl (by decide) hM rfl ?_
          refine V_aload_n dX4_plan_76 rfl ?_
          refine V_mg (f := 22) (z := M 22 0) dX4_plan_77 fg_RX4_83 rfl (by decide) hM (by simp [sT, mset]) (fun r77 => ?_)
          refine V_iload_n dX4_plan_80 rfl ?_
          refine V_mcs (f := 12) (n := 12) dX4_plan_81 rfl rfl (by decide) rfl rfl hM hF (by omega) (by omega) (fun h hM hF => ?_)
          refine V_aload_n dX4_plan_82 rfl ?_
          refine V_mgA (f := 9) (a := 28) dX4_plan_83 fg_RX4_37 rfl (by decide) hM rfl ?_
          refine V_aload_n dX4_plan_86 rfl ?_
          refine V_mg (f := 22) (z := M 22 0) dX4_plan_87 fg_RX4_83 rfl (by decide) hM (by simp [sT, mset]) (fun r87 => ?_)
          refine V_iload_n dX4_plan_90 rfl ?_
          refine V_mis (f := 9) (n := 12) dX4_plan_91 rfl rfl (by decide) rfl rfl hM hF (by omega) (by omega) (fun h hM hF => ?_)
          refine V_aload_n dX4_plan_92 rfl ?_
          refine V_dup dX4_plan_93 cat_R ?_
          refine V_mg (f := 22) (z := M 22 0) dX4_plan_94 fg_RX4_83 rfl (by decide) hM (by simp [sT, mset]) (fun r94 => ?_)
          refine V_iconst dX4_plan_97 ?_
          refine V_iadd dX4_plan_98 ?_
          refine V_mp (f := 22) dX4_plan_99 f_RX4_83 rfl (by decide) hM hF (by omega) (fun h hM hF => ?_)
          refine V_aload_n dX4_plan_102 rfl ?_
          have hJ103 : IM (mset (mset (mset (mset (mset M 27 0 0) 8 (M 22 0) w) 12 (M 22 0) kd) 9 (M 22 0) n) 22 0 ((M 22 0) + 1)) := (((IM.s8 (M := mset M 27 0 0) hI (by omega)).s12 (by omega)).s9 (by omega)).s22 (by omega)
          refine V_mC (as := []) dX4_plan_103 c_RX4_92 rfl (by decide) rfl (Nat.le_of_ble_eq_true rfl) hM hF (T_X4_settle g (mset (mset (mset (mset (mset M 27 0 0) 8 (M 22 0) w) 12 (M 22 0) kd) 9 (M 22 0) n) 22 0 ((M 22 0) + 1))  hJ103) (fun h hM hF => ?_)
          obtain ⟨N103, eN103⟩ : ∃ X, X = sSettle (mset (mset (mset (mset (mset M 27 0 0) 8 (M 22 0) w) 12 (M 22 0) kd) 9 (M 22 0) n) 22 0 ((M 22 0) + 1)) := ⟨_, rfl⟩
          rw [← eN103] at hM
          obtain ⟨oN103, hIN103⟩ := sSettle_o hJ103
          rw [← eN103] at oN103 hIN103
          refine V_aload_n dX4_plan_106 rfl ?_
          refine V_mg (f := 22) (z := ((M 22 0) + 1)) dX4_plan_107 fg_RX4_83 rfl (by decide) hM ((oN103 22 _ (by decide)).trans (by simp [sT, mset])) (fun r107 => ?_)
          refine V_iconst dX4_plan_110 ?_
          refine V_isub dX4_plan_111 ?_
          refine V_iret dX4_plan_112 rfl ?_
          refine mret hM hF ?_ ?_ <;> (unfold s_plan; (repeat' split) <;> first | rfl | (exfalso; (try simp only [isQ, isP, isS, sFrc, sTw] at *); omega) | (rw [eN103]; done) | (rw [eN103]; rfl))
        · refine V_iconst dX4_plan_45 ?_
          refine V_goto (tgt := 50) dX4_plan_46 (by decide) ?_
          refine V_mp (f := 27) dX4_plan_50 f_RX4_72 rfl (by decide) hM hF (by omega) (fun h hM hF => ?_)
          refine V_aload_n dX4_plan_53 rfl ?_
          refine V_mg (f := 27) (z := 2) dX4_plan_54 fg_RX4_72 rfl (by decide) hM (by simp [sT, mset]) (fun r54 => ?_)
          refine V_if_le (tgt := 62) dX4_plan_57 (by decide) (by decide) (fun q57 => absurd q57 (by decide)) (fun _ => ?_)
          refine V_iconst dX4_plan_60 ?_
          refine V_iret dX4_plan_61 rfl ?_
          refine mret hM hF ?_ ?_ <;> (unfold s_plan; (repeat' split) <;> first | rfl | (exfalso; (try simp only [isQ, isP, isS, sFrc, sTw] at *); omega) | (rw [eN103]; done) | (rw [eN103]; rfl))
      · refine V_iconst dX4_plan_32 ?_
        refine V_goto (tgt := 50) dX4_plan_33 (by decide) ?_
        refine V_mp (f := 27) dX4_plan_50 f_RX4_72 rfl (by decide) hM hF (by omega) (fun h hM hF => ?_)
        refine V_aload_n dX4_plan_53 rfl ?_
        refine V_mg (f := 27) (z := 1) dX4_plan_54 fg_RX4_72 rfl (by decide) hM (by simp [sT, mset]) (fun r54 => ?_)
        refine V_if_le (tgt := 62) dX4_plan_57 (by decide) (by decide) (fun q57 => absurd q57 (by decide)) (fun _ => ?_)
        refine V_iconst dX4_plan_60 ?_
        refine V_iret dX4_plan_61 rfl ?_
        refine mret hM hF ?_ ?_ <;> (unfold s_plan; (repeat' split) <;> first | rfl | (exfalso; (try simp only [isQ, isP, isS, sFrc, sTw] at *); omega) | (rw [eN103]; done) | (rw [eN103]; rfl))
theorem T_X4_drop (g : GP) (M : MS) (p : Int) (r_p : -2147483648 ≤ p ∧ p ≤ 2147483647) (hI : IM M) : TM g m_X4_drop 6 [xI p] M (some (xI ((s_drop M p).1))) ((s_drop M p).2) := by
  refine TM.of (by decide) rfl (fun v hv => ?_) (Nat.le_of_ble_eq_true rfl) ?_
  · simp only [List.mem_cons, List.not_mem_nil, or_false] at hv
    subst hv; exact ⟨_, rfl⟩
  intro h0 h hM hF
  change V g m_X4_drop 6 _ h 0 [xR 18, xI p, xU] []
  obtain ⟨⟨i19, i20, i21, i22, i23, i24, i25, i26, i29⟩, iA⟩ := id hI
  refine V_aload_n dX4_drop_0 rfl ?_
  refine V_aload_n dX4_drop_1 rfl ?_
  refine V_iload_n dX4_drop_2 rfl ?_
  refine V_mC (as := [_]) dX4_drop_3 c_RX4_136 rfl (by decide) rfl (Nat.le_of_ble_eq_true rfl) hM hF (T_X4_isPlan g M p (by omega) hI) (fun h hM hF => ?_)
  refine V_ifb_ne (tgt := 13) dX4_drop_6 (by decide) (fun q6 => ?_) (fun q6 => ?_)
  · refine V_aload_n dX4_drop_13 rfl ?_
    refine V_mgA (f := 14) (a := 33) dX4_drop_14 fg_RX4_53 rfl (by decide) hM rfl ?_
    refine V_iload_n dX4_drop_17 rfl ?_
    refine V_mz (f := 14) (n := 12) (w := M 14 p) dX4_drop_18 rfl rfl (by decide) rfl rfl hM (by omega) rfl (fun r18 => ?_)
    have b18 := hI.a14 p
    refine V_if_eq (tgt := 26) dX4_drop_19 (by decide) (by omega) (fun q19 => ?_) (fun q19 => ?_)
    · refine V_iconst dX4_drop_26 ?_
      refine V_mp (f := 27) dX4_drop_27 f_RX4_72 rfl (by decide) hM hF (by omega) (fun h hM hF => ?_)
      refine V_aload_n dX4_drop_30 rfl ?_
      refine V_mg (f := 27) (z := 0) dX4_drop_31 fg_RX4_72 rfl (by decide) hM (by simp [sT, mset]) (fun r31 => ?_)
      refine V_if_le (tgt := 39) dX4_drop_34 (by decide) (by decide) (fun _ => ?_) (fun q34 => absurd q34 (by decide))
      refine V_aload_n dX4_drop_39 rfl ?_
      refine V_iload_n dX4_drop_40 rfl ?_
      refine V_mC (as := [_]) dX4_drop_41 c_RX4_139 rfl (by decide) rfl (Nat.le_of_ble_eq_true rfl) hM hF (show TM g m_X4_heldBy _ _ (mset M 27 0 0) (some (xI (sHb M p))) (mset M 27 0 0) from T_X4_heldBy g (mset M 27 0 0) p (by omega) hI (by omega)) (fun h hM hF => ?_)
      have t41 := sHb_r hI p
      refine V_istore_n (lc' := [_, _, _]) dX4_drop_44 (by decide) rfl ?_
      refine V_aload_n dX4_drop_45 rfl ?_
      refine V_mgA (f := 14) (a := 33) dX4_drop_46 fg_RX4_53 rfl (by decide) hM rfl ?_
      refine V_iload_n dX4_drop_49 rfl ?_
      refine V_iconst dX4_drop_50 ?_
      refine V_mzs (f := 14) (n := 12) dX4_drop_51 rfl rfl (by decide) rfl rfl hM hF (by omega) (by omega) (fun h hM hF => ?_)
      refine V_aload_n dX4_drop_52 rfl ?_
      have hJ53 : IM (mset (mset M 27 0 0) 14 p 1) := IM.s14 (M := mset M 27 0 0) hI (Or.inr rfl)
      refine V_mC (as := []) dX4_drop_53 c_RX4_92 rfl (by decide) rfl (Nat.le_of_ble_eq_true rfl) hM hF (T_X4_settle g (mset (mset M 27 0 0) 14 p 1)  hJ53) (fun h hM hF => ?_)
      obtain ⟨N53, eN53⟩ : ∃ X, X = sSettle (mset (mset M 27 0 0) 14 p 1) := ⟨_, rfl⟩
      rw [← eN53] at hM
      obtain ⟨oN53, hIN53⟩ := sSettle_o hJ53
      rw [← eN53] at oN53 hIN53
      refine V_iload_n dX4_drop_56 rfl ?_
      refine V_iret dX4_drop_57 rfl ?_
      refine mret hM hF ?_ ?_ <;> (unfold s_drop; (repeat' split) <;> first | rfl | (exfalso; (try simp only [isQ, isP, isS, sFrc, sTw] at *); omega) | (rw [eN53]; done) | (rw [eN53]; rfl))
    · refine V_iconst dX4_drop_22 ?_
      refine V_goto (tgt := 27) dX4_drop_23 (by decide) ?_
      refine V_mp (f := 27) dX4_drop_27 f_RX4_72 rfl (by decide) hM hF (by omega) (fun h hM hF => ?_)
      refine V_aload_n dX4_drop_30 rfl ?_
      refine V_mg (f := 27) (z := 2) dX4_drop_31 fg_RX4_72 rfl (by decide) hM (by simp [sT, mset]) (fun r31 => ?_)
      refine V_if_le (tgt := 39) dX4_drop_34 (by decide) (by decide) (fun q34 => absurd q34 (by decide)) (fun _ => ?_)
      refine V_iconst dX4_drop_37 ?_
      refine V_iret dX4_drop_38 rfl ?_
      refine mret hM hF ?_ ?_ <;> (unfold s_drop; (repeat' split) <;> first | rfl | (exfalso; (try simp only [isQ, isP, isS, sFrc, sTw] at *); omega) | (rw [eN53]; done) | (rw [eN53]; rfl))
  · refine V_iconst dX4_drop_9 ?_
    refine V_goto (tgt := 27) dX4_drop_10 (by decide) ?_
    refine V_mp (f := 27) dX4_drop_27 f_RX4_72 rfl (by decide) hM hF (by omega) (fun h hM hF => ?_)
    refine V_aload_n dX4_drop_30 rfl ?_
    refine V_mg (f := 27) (z := 1) dX4_drop_31 fg_RX4_72 rfl (by decide) hM (by simp [sT, mset]) (fun r31 => ?_)
    refine V_if_le (tgt := 39) dX4_drop_34 (by decide) (by decide) (fun q34 => absurd q34 (by decide)) (fun _ => ?_)
    refine V_iconst dX4_drop_37 ?_
    refine V_iret dX4_drop_38 rfl ?_
    refine mret hM hF ?_ ?_ <;> (unfold s_drop; (repeat' split) <;> first | rfl | (exfalso; (try simp only [isQ, isP, isS, sFrc, sTw] at *); omega) | (rw [eN53]; done) | (rw [eN53]; rfl))

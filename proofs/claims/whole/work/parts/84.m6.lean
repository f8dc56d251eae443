theorem T_X4_search (g : GP) (M : MS)   (hI : IM M) : TM g m_X4_search 3 [] M (some (xI ((s_search M).1))) ((s_search M).2) := by
  refine TM.of (by decide) rfl (fun v hv => ?_) (Nat.le_of_ble_eq_true rfl) ?_
  · cases hv
  intro h0 h hM hF
  change V g m_X4_search 3 _ h 0 [xR 18, xU, xU, xU] []
  obtain ⟨⟨i19, i20, i21, i22, i23, i24, i25, i26, i29⟩, iA⟩ := id hI
  refine V_aload_n dX4_search_0 rfl ?_
  refine V_aload_n dX4_search_1 rfl ?_
  refine V_mg (f := 19) (z := M 19 0) dX4_search_2 fg_RX4_89 rfl (by decide) hM rfl (fun r2 => ?_)
  refine V_if_ne (tgt := 12) dX4_search_5 (by decide) (by omega) (fun q5 => ?_) (fun q5 => ?_)
  · refine V_iconst dX4_search_12 ?_
    refine V_mp (f := 27) dX4_search_13 f_RX4_72 rfl (by decide) hM hF (by omega) (fun h hM hF => ?_)
    refine V_aload_n dX4_search_16 rfl ?_
    refine V_mg (f := 27) (z := 0) dX4_search_17 fg_RX4_72 rfl (by decide) hM (by simp [sT, mset]) (fun r17 => ?_)
    refine V_if_le (tgt := 25) dX4_search_20 (by decide) (by decide) (fun _ => ?_) (fun q20 => absurd q20 (by decide))
    refine V_aload_n dX4_search_25 rfl ?_
    refine V_iconst dX4_search_26 ?_
    refine V_mp (f := 21) dX4_search_27 f_RX4_117 rfl (by decide) hM hF (by omega) (fun h hM hF => ?_)
    refine V_iconst dX4_search_30 ?_
    refine V_istore_n (lc' := [_, _, _, _]) dX4_search_31 (by decide) rfl ?_
    have lp32 : ∀ k32 : Int, ∀ M32 : MS, (0 ≤ k32 ∧ k32 ≤ M 20 0 ∧ M32 = sSearchN (mset (mset M 27 0 0) 21 0 0) k32.toNat) → ∀ h, MR h M32 → FR h0 h → V g m_X4_search 3 (Qm h0 (some (xI ((s_search M).1))) ((s_search M).2)) h 32 [xR 18, xI k32, xU, xU] [] := by
      refine lp_up (M 20 0) (fun k32 ih32 => ?_)
      intro M32 hk h hM hF
      obtain ⟨k32l, k32u, k32e⟩ := hk
      obtain ⟨o32, b32, c32⟩ := sSearchN_o (M := mset (mset M 27 0 0) 21 0 0) mset_s k32.toNat
      have hI32 := ((hI.th (c := 0)).s21 (z := 0) (by decide)).of67 o32 ⟨b32, by omega⟩
      rw [← k32e] at o32 b32 c32 hI32
      refine V_iload_n dX4_search_32 rfl ?_
      refine V_aload_n dX4_search_33 rfl ?_
      refine V_mg (f := 20) (z := M 20 0) dX4_search_34 fg_RX4_76 rfl (by decide) hM ((o32 20 _ (by decide)).trans (by simp [sT, mset])) (fun r34 => ?_)
      refine V_icmp_ge (tgt := 138) dX4_search_37 (by decide) (by omega) (by omega) (fun q37 => ?_) (fun q37 => ?_)
      · refine V_aload_n dX4_search_138 rfl ?_
        refine V_mg (f := 21) (z := M32 21 0) dX4_search_139 fg_RX4_117 rfl (by decide) hM rfl (fun r139 => ?_)
        refine V_iret dX4_search_142 rfl ?_
        refine mret hM hF ?_ ?_ <;> (unfold s_search; (repeat' split) <;> first | rfl | (exfalso; (try simp only [isQ, isP, isS, sFrc, sTw] at *); omega) | (rw [k32e, show k32 = M 20 0 by omega]; done) | (rw [k32e, show k32 = M 20 0 by omega]; rfl))
      · refine V_aload_n dX4_search_40 rfl ?_
        refine V_iload_n dX4_search_41 rfl ?_
        refine V_mC (as := [_]) dX4_search_42 c_RX4_120 rfl (by decide) rfl (Nat.le_of_ble_eq_true rfl) hM hF (T_X4_rankOf g M32 k32 (by omega) hI32 (by omega)) (fun h hM hF => ?_)
        have t42 := sRank_r hI k32
        have u42 := sRank_r hI32 k32
        obtain ⟨r42, er42⟩ : ∃ r, r = sRank M32 k32 := ⟨_, rfl⟩
        rw [← er42] at u42 ⊢
        refine V_istore_n (lc' := [_, _, _, _]) dX4_search_45 (by decide) rfl ?_
        refine V_iload_n dX4_search_46 rfl ?_
        refine V_if_ne (tgt := 53) dX4_search_47 (by decide) (by omega) (fun q47 => ?_) (fun q47 => ?_)
        · refine V_aload_n dX4_search_53 rfl ?_
          refine V_mg (f := 21) (z := M32 21 0) dX4_search_54 fg_RX4_117 rfl (by decide) hM rfl (fun r54 => ?_)
          refine V_istore_n (lc' := [_, _, _, _]) dX4_search_57 (by decide) rfl ?_
          have lp58 : ∀ k58 : Int, ∀ M58 : MS, (0 ≤ k58 ∧ k58 ≤ M32 21 0 ∧ OnlyF [6, 7] M32 M58 ∧ sShift r42 k58.toNat M58 = sShift r42 (M32 21 0).toNat M32) → ∀ h, MR h M58 → FR h0 h → V g m_X4_search 3 (Qm h0 (some (xI ((s_search M).1))) ((s_search M).2)) h 58 [xR 18, xI k32, xI r42, xI k58] [] := by
            refine lp_dn (0) (fun k58 ih58 => ?_)
            intro M58 hk h hM hF
            obtain ⟨k58l, k58u, o58, k58e⟩ := hk
            have hI58 := hI32.of67 (o58.w (by decide)) ⟨(show 0 ≤ M58 21 0 by rw [o58 21 0 (by decide)]; exact b32), (show M58 21 0 ≤ 40 by rw [o58 21 0 (by decide)]; omega)⟩
            refine V_iload_n dX4_search_58 rfl ?_
            refine V_if_le (tgt := 108) dX4_search_59 (by decide) (by omega) (fun q59 => ?_) (fun q59 => ?_)
            · refine V_aload_n dX4_search_108 rfl ?_
              refine V_mgA (f := 7) (a := 26) dX4_search_109 fg_RX4_31 rfl (by decide) hM rfl ?_
              refine V_iload_n dX4_search_112 rfl ?_
              refine V_iload_n dX4_search_113 rfl ?_
              refine V_mis (f := 7) (n := 40) dX4_search_114 rfl rfl (by decide) rfl rfl hM hF (by omega) (by omega) (fun h hM hF => ?_)
              refine V_aload_n dX4_search_115 rfl ?_
              refine V_mgA (f := 6) (a := 25) dX4_search_116 fg_RX4_28 rfl (by decide) hM rfl ?_
              refine V_iload_n dX4_search_119 rfl ?_
              refine V_iload_n dX4_search_120 rfl ?_
              refine V_mis (f := 6) (n := 40) dX4_search_121 rfl rfl (by decide) rfl rfl hM hF (by omega) (by omega) (fun h hM hF => ?_)
              refine V_aload_n dX4_search_122 rfl ?_
              refine V_dup dX4_search_123 cat_R ?_
              refine V_mg (f := 21) (z := M32 21 0) dX4_search_124 fg_RX4_117 rfl (by decide) hM ((by simp [sT, mset] : (mset (mset M58 7 k58 r42) 6 k58 k32) 21 0 = M58 21 0).trans ((o58 21 _ (by decide)).trans rfl)) (fun r124 => ?_)
              refine V_iconst dX4_search_127 ?_
              refine V_iadd dX4_search_128 ?_
              refine V_mp (f := 21) dX4_search_129 f_RX4_117 rfl (by decide) hM hF (by omega) (fun h hM hF => ?_)
              refine V_iinc (lc' := [_, _, _, _]) dX4_search_132 rfl (by decide) rfl ?_
              refine V_goto (tgt := 32) dX4_search_135 (by decide) ?_
              refine V_wk (lc' := [_, _, xU, xU]) ⟨Or.inr rfl, Or.inr rfl, Or.inl rfl, Or.inl rfl, trivial⟩ ?_
              exact ih32 (by omega) (mset (mset (mset M58 7 k58 r42) 6 k58 k32) 21 0 ((M32 21 0) + 1)) ⟨by omega, by omega, by rw [sSearchN_s k32l, ← k32e]; unfold sSearch1; rw [← er42]; first | exact (if_pos q47).symm | (rw [if_neg (by omega), ← k58e, sShift_z (by omega) k58l]; exact congrArg (fun x => mset (mset (mset M58 7 k58 r42) 6 k58 k32) 21 0 (x + 1)) (o58 21 0 (by decide)).symm) | (rw [if_neg (by omega), ← k58e, sShift_e (by omega) (by omega)]; exact congrArg (fun x => mset (mset (mset M58 7 k58 r42) 6 k58 k32) 21 0 (x + 1)) (o58 21 0 (by decide)).symm)⟩ h hM hF
            · refine V_aload_n dX4_search_62 rfl ?_
              refine V_mgA (f := 7) (a := 26) dX4_search_63 fg_RX4_31 rfl (by decide) hM rfl ?_
              refine V_iload_n dX4_search_66 rfl ?_
              refine V_iconst dX4_search_67 ?_
              refine V_isub dX4_search_68 ?_
              refine V_mi (f := 7) (n := 40) (w := M58 7 (k58 - 1)) dX4_search_69 rfl rfl (by decide) rfl rfl hM (by omega) rfl (fun r69 => ?_)
              refine V_iload_n dX4_search_70 rfl ?_
              refine V_icmp_ge (tgt := 108) dX4_search_71 (by decide) (by omega) (by omega) (fun q71 => ?_) (fun q71 => ?_)
              · refine V_aload_n dX4_search_108 rfl ?_
                refine V_mgA (f := 7) (a := 26) dX4_search_109 fg_RX4_31 rfl (by decide) hM rfl ?_
                refine V_iload_n dX4_search_112 rfl ?_
                refine V_iload_n dX4_search_113 rfl ?_
                refine V_mis (f := 7) (n := 40) dX4_search_114 rfl rfl (by decide) rfl rfl hM hF (by omega) (by omega) (fun h hM hF => ?_)
                refine V_aload_n dX4_search_115 rfl ?_
                refine V_mgA (f := 6) (a := 25) dX4_search_116 fg_RX4_28 rfl (by decide) hM rfl ?_
                refine V_iload_n dX4_search_119 rfl ?_
                refine V_iload_n dX4_search_120 rfl ?_
                refine V_mis (f := 6) (n := 40) dX4_search_121 rfl rfl (by decide) rfl rfl hM hF (by omega) (by omega) (fun h hM hF => ?_)
                refine V_aload_n dX4_search_122 rfl ?_
                refine V_dup dX4_search_123 cat_R ?_
                refine V_mg (f := 21) (z := M32 21 0) dX4_search_124 fg_RX4_117 rfl (by decide) hM ((by simp [sT, mset] : (mset (mset M58 7 k58 r42) 6 k58 k32) 21 0 = M58 21 0).trans ((o58 21 _ (by decide)).trans rfl)) (fun r124 => ?_)
                refine V_iconst dX4_search_127 ?_
                refine V_iadd dX4_search_128 ?_
                refine V_mp (f := 21) dX4_search_129 f_RX4_117 rfl (by decide) hM hF (by omega) (fun h hM hF => ?_)
                refine V_iinc (lc' := [_, _, _, _]) dX4_search_132 rfl (by decide) rfl ?_
                refine V_goto (tgt := 32) dX4_search_135 (by decide) ?_
                refine V_wk (lc' := [_, _, xU, xU]) ⟨Or.inr rfl, Or.inr rfl, Or.inl rfl, Or.inl rfl, trivial⟩ ?_
                exact ih32 (by omega) (mset (mset (mset M58 7 k58 r42) 6 k58 k32) 21 0 ((M32 21 0) + 1)) ⟨by omega, by omega, by rw [sSearchN_s k32l, ← k32e]; unfold sSearch1; rw [← er42]; first | exact (if_pos q47).symm | (rw [if_neg (by omega), ← k58e, sShift_z (by omega) k58l]; exact congrArg (fun x => mset (mset (mset M58 7 k58 r42) 6 k58 k32) 21 0 (x + 1)) (o58 21 0 (by decide)).symm) | (rw [if_neg (by omega), ← k58e, sShift_e (by omega) (by omega)]; exact congrArg (fun x => mset (mset (mset M58 7 k58 r42) 6 k58 k32) 21 0 (x + 1)) (o58 21 0 (by decide)).symm)⟩ h hM hF
              · refine V_aload_n dX4_search_74 rfl ?_
                refine V_mgA (f := 7) (a := 26) dX4_search_75 fg_RX4_31 rfl (by decide) hM rfl ?_
                refine V_iload_n dX4_search_78 rfl ?_
                refine V_aload_n dX4_search_79 rfl ?_
                refine V_mgA (f := 7) (a := 26) dX4_search_80 fg_RX4_31 rfl (by decide) hM rfl ?_
                refine V_iload_n dX4_search_83 rfl ?_
                refine V_iconst dX4_search_84 ?_
                refine V_isub dX4_search_85 ?_
                refine V_mi (f := 7) (n := 40) (w := M58 7 (k58 - 1)) dX4_search_86 rfl rfl (by decide) rfl rfl hM (by omega) rfl (fun r86 => ?_)
                refine V_mis (f := 7) (n := 40) dX4_search_87 rfl rfl (by decide) rfl rfl hM hF (by omega) (by omega) (fun h hM hF => ?_)
                refine V_aload_n dX4_search_88 rfl ?_
                refine V_mgA (f := 6) (a := 25) dX4_search_89 fg_RX4_28 rfl (by decide) hM rfl ?_
                refine V_iload_n dX4_search_92 rfl ?_
                refine V_aload_n dX4_search_93 rfl ?_
                refine V_mgA (f := 6) (a := 25) dX4_search_94 fg_RX4_28 rfl (by decide) hM rfl ?_
                refine V_iload_n dX4_search_97 rfl ?_
                refine V_iconst dX4_search_98 ?_
                refine V_isub dX4_search_99 ?_
                refine V_mi (f := 6) (n := 40) (w := M58 6 (k58 - 1)) dX4_search_100 rfl rfl (by decide) rfl rfl hM (by omega) (by simp [sT, mset]) (fun r100 => ?_)
                refine V_mis (f := 6) (n := 40) dX4_search_101 rfl rfl (by decide) rfl rfl hM hF (by omega) (by omega) (fun h hM hF => ?_)
                refine V_iinc (lc' := [_, _, _, _]) dX4_search_102 rfl (by decide) rfl ?_
                refine V_goto (tgt := 58) dX4_search_105 (by decide) ?_
                exact ih58 (by omega) (mset (mset M58 7 k58 (M58 7 (k58 - 1))) 6 k58 (M58 6 (k58 - 1))) ⟨by omega, by omega, (o58.st (by decide)).st (by decide), by rw [← sShift_s (by omega) (by omega)]; exact k58e⟩ h hM hF
          exact lp58 (M32 21 0) M32 ⟨by omega, by omega, OnlyF.rf, rfl⟩ h hM hF
        · refine V_goto (tgt := 132) dX4_search_50 (by decide) ?_
          refine V_iinc (lc' := [_, _, _, _]) dX4_search_132 rfl (by decide) rfl ?_
          refine V_goto (tgt := 32) dX4_search_135 (by decide) ?_
          refine V_wk (lc' := [_, _, xU, xU]) ⟨Or.inr rfl, Or.inr rfl, Or.inl rfl, Or.inl rfl, trivial⟩ ?_
          exact ih32 (by omega) M32 ⟨by omega, by omega, by rw [sSearchN_s k32l, ← k32e]; unfold sSearch1; rw [← er42]; first | exact (if_pos q47).symm | (rw [if_neg (by omega), ← k58e, sShift_z (by omega) k58l]; exact congrArg (fun x => mset (mset (mset M58 7 k58 r42) 6 k58 k32) 21 0 (x + 1)) (o58 21 0 (by decide)).symm) | (rw [if_neg (by omega), ← k58e, sShift_e (by omega) (by omega)]; exact congrArg (fun x => mset (mset (mset M58 7 k58 r42) 6 k58 k32) 21 0 (x + 1)) (o58 21 0 (by decide)).symm)⟩ h hM hF
    exact lp32 0 (mset (mset M 27 0 0) 21 0 0) ⟨by omega, by omega, rfl⟩ h hM hF
  · refine V_iconst dX4_search_8 ?_
    refine V_goto (tgt := 13) dX4_search_9 (by decide) ?_
    refine V_mp (f := 27) dX4_search_13 f_RX4_72 rfl (by decide) hM hF (by omega) (fun h hM hF => ?_)
    refine V_aload_n dX4_search_16 rfl ?_
    refine V_mg (f := 27) (z := 1) dX4_search_17 fg_RX4_72 rfl (by decide) hM (by simp [sT, mset]) (fun r17 => ?_)
    refine V_if_le (tgt := 25) dX4_search_20 (by decide) (by decide) (fun q20 => absurd q20 (by decide)) (fun _ => ?_)
    refine V_iconst dX4_search_23 ?_
    refine V_iret dX4_search_24 rfl ?_
    refine mret hM hF ?_ ?_ <;> (unfold s_search; (repeat' split) <;> first | rfl | (exfalso; (try simp only [isQ, isP, isS, sFrc, sTw] at *); omega) | (rw [k32e, show k32 = M 20 0 by omega]; done) | (rw [k32e, show k32 = M 20 0 by omega]; rfl))

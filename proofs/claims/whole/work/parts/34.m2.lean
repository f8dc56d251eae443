-- deps: 09 10 11 12 21 20 30 31 32 33
theorem T_X4_rankOf (g : GP) (M : MS) (q : Int) (r_q : -2147483648 ≤ q ∧ q ≤ 2147483647) (hI : IM M) (h1 : 0 ≤ q ∧ q ≤ 39) : TM g m_X4_rankOf 2 [xI q] M (some (xI (sRank M q))) (M) := by
  refine TM.of (by decide) rfl (fun v hv => ?_) (Nat.le_of_ble_eq_true rfl) ?_
  · simp only [List.mem_cons, List.not_mem_nil, or_false] at hv
    subst hv; exact ⟨_, rfl⟩
  intro h0 h hM hF
  change V g m_X4_rankOf 2 _ h 0 [xR 18, xI q, xU, xU] []
  obtain ⟨⟨i19, i20, i21, i22, i23, i24, i25, i26, i29⟩, iA⟩ := id hI
  refine V_iconst dX4_rankOf_0 ?_
  refine V_istore_n (lc' := [_, _, _, _]) dX4_rankOf_1 (by decide) rfl ?_
  refine V_iconst dX4_rankOf_2 ?_
  refine V_istore_n (lc' := [_, _, _, _]) dX4_rankOf_3 (by decide) rfl ?_
  have b2 := hI.a2 q
  have lp4 : ∀ k4 : Int, ∀ n4 : Int, (0 ≤ k4 ∧ k4 ≤ M 2 q ∧ n4 = sRankN M q k4.toNat) → ∀ h, MR h M → FR h0 h → V g m_X4_rankOf 2 (Qm h0 (some (xI (sRank M q))) (M)) h 4 [xR 18, xI q, xI n4, xI k4] [] := by
    refine lp_up (M 2 q) (fun k4 ih4 => ?_)
    intro n4 hk h hM hF
    obtain ⟨k4l, k4u, k4e⟩ := hk
    refine V_iload_n dX4_rankOf_4 rfl ?_
    refine V_aload_n dX4_rankOf_5 rfl ?_
    refine V_mgA (f := 2) (a := 21) dX4_rankOf_6 fg_RX4_16 rfl (by decide) hM rfl ?_
    refine V_iload_n dX4_rankOf_9 rfl ?_
    refine V_mi (f := 2) (n := 40) (w := M 2 q) dX4_rankOf_10 rfl rfl (by decide) rfl rfl hM (by omega) rfl (fun r10 => ?_)
    have b10 := hI.a2 q
    refine V_icmp_ge (tgt := 59) dX4_rankOf_11 (by decide) (by omega) (by omega) (fun q11 => ?_) (fun q11 => ?_)
    · refine V_iload_n dX4_rankOf_59 rfl ?_
      refine V_iret dX4_rankOf_60 rfl ?_
      exact mret hM hF (by rw [k4e, show k4 = M 2 q by omega]; rfl) rfl
    · refine V_aload_n dX4_rankOf_14 rfl ?_
      refine V_aload_n dX4_rankOf_15 rfl ?_
      refine V_mgA (f := 1) (a := 20) dX4_rankOf_16 fg_RX4_13 rfl (by decide) hM rfl ?_
      refine V_bipush dX4_rankOf_19 (by decide) ?_
      refine V_iload_n dX4_rankOf_21 rfl ?_
      refine V_imul dX4_rankOf_22 ?_
      refine V_iload_n dX4_rankOf_23 rfl ?_
      refine V_iadd dX4_rankOf_24 ?_
      refine V_mi (f := 1) (n := 240) (w := M 1 ((6 * q) + k4)) dX4_rankOf_25 rfl rfl (by decide) rfl rfl hM (by omega) rfl (fun r25 => ?_)
      refine V_mC (as := [_]) dX4_rankOf_26 c_RX4_111 rfl (by decide) rfl (Nat.le_of_ble_eq_true rfl) hM hF (T_X4_isTyped g M (M 1 ((6 * q) + k4)) (by omega) hI) (fun h hM hF => ?_)
      refine V_ifb_ne (tgt := 35) dX4_rankOf_29 (by decide) (fun q29 => ?_) (fun q29 => ?_)
      · refine V_iload_n dX4_rankOf_35 rfl ?_
        refine V_aload_n dX4_rankOf_36 rfl ?_
        refine V_iload_n dX4_rankOf_37 rfl ?_
        refine V_iload_n dX4_rankOf_38 rfl ?_
        refine V_mC (as := [_, _]) dX4_rankOf_39 c_RX4_114 rfl (by decide) rfl (Nat.le_of_ble_eq_true rfl) hM hF (T_X4_hasAhead g M q k4 (by omega) (by omega) (by omega) (by omega)) (fun h hM hF => ?_)
        refine V_ifb_eq (tgt := 49) dX4_rankOf_42 (by decide) (fun q42 => ?_) (fun q42 => ?_)
        · refine V_bipush dX4_rankOf_49 (by decide) ?_
          refine V_iadd dX4_rankOf_51 ?_
          refine V_istore_n (lc' := [_, _, _, _]) dX4_rankOf_52 (by decide) rfl ?_
          refine V_iinc (lc' := [_, _, _, _]) dX4_rankOf_53 rfl (by decide) rfl ?_
          refine V_goto (tgt := 4) dX4_rankOf_56 (by decide) ?_
          exact ih4 (by omega) (n4 + 11) ⟨by omega, by omega, by rw [sRankN_s k4l, ← k4e]; first | rw [if_neg q29, Int.add_zero] | rw [if_pos q29, if_pos q42] | rw [if_pos q29, if_neg q42]⟩ h hM hF
        · refine V_iconst dX4_rankOf_45 ?_
          refine V_goto (tgt := 51) dX4_rankOf_46 (by decide) ?_
          refine V_iadd dX4_rankOf_51 ?_
          refine V_istore_n (lc' := [_, _, _, _]) dX4_rankOf_52 (by decide) rfl ?_
          refine V_iinc (lc' := [_, _, _, _]) dX4_rankOf_53 rfl (by decide) rfl ?_
          refine V_goto (tgt := 4) dX4_rankOf_56 (by decide) ?_
          exact ih4 (by omega) (n4 + 1) ⟨by omega, by omega, by rw [sRankN_s k4l, ← k4e]; first | rw [if_neg q29, Int.add_zero] | rw [if_pos q29, if_pos q42] | rw [if_pos q29, if_neg q42]⟩ h hM hF
      · refine V_goto (tgt := 53) dX4_rankOf_32 (by decide) ?_
        refine V_iinc (lc' := [_, _, _, _]) dX4_rankOf_53 rfl (by decide) rfl ?_
        refine V_goto (tgt := 4) dX4_rankOf_56 (by decide) ?_
        exact ih4 (by omega) n4 ⟨by omega, by omega, by rw [sRankN_s k4l, ← k4e]; first | rw [if_neg q29, Int.add_zero] | rw [if_pos q29, if_pos q42] | rw [if_pos q29, if_neg q42]⟩ h hM hF
  exact lp4 0 0 ⟨by omega, by omega, rfl⟩ h hM hF
theorem T_X4_hasOn (g : GP) (M : MS) (s : Int) (q : Int) (r_s : -2147483648 ≤ s ∧ s ≤ 2147483647) (r_q : -2147483648 ≤ q ∧ q ≤ 2147483647) (hI : IM M) (h1 : 0 ≤ s ∧ s ≤ 29) : TM g m_X4_hasOn 1 [xI s, xI q] M (some (xI (pI (sHas M s q)))) (M) := by
  refine TM.of (by decide) rfl (fun v hv => ?_) (Nat.le_of_ble_eq_true rfl) ?_
  · simp only [List.mem_cons, List.not_mem_nil, or_false] at hv
    rcases hv with rfl | rfl <;> exact ⟨_, rfl⟩
  intro h0 h hM hF
  change V g m_X4_hasOn 1 _ h 0 [xR 18, xI s, xI q, xU] []
  obtain ⟨⟨i19, i20, i21, i22, i23, i24, i25, i26, i29⟩, iA⟩ := id hI
  refine V_iconst dX4_hasOn_0 ?_
  refine V_istore_n (lc' := [_, _, _, _]) dX4_hasOn_1 (by decide) rfl ?_
  have b17 := hI.a17 s
  have lp2 : ∀ k2 : Int, (0 ≤ k2 ∧ k2 ≤ M 17 s ∧ ∀ j : Int, 0 ≤ j → j < k2 → M 16 (27 * s + j) ≠ q) → ∀ h, MR h M → FR h0 h → V g m_X4_hasOn 1 (Qm h0 (some (xI (pI (sHas M s q)))) (M)) h 2 [xR 18, xI s, xI q, xI k2] [] := by
    refine lp_up (M 17 s) (fun k2 ih2 => ?_)
    intro hk h hM hF
    obtain ⟨k2l, k2u, k2A⟩ := hk
    refine V_iload_n dX4_hasOn_2 rfl ?_
    refine V_aload_n dX4_hasOn_3 rfl ?_
    refine V_mgA (f := 17) (a := 36) dX4_hasOn_4 fg_RX4_63 rfl (by decide) hM rfl ?_
    refine V_iload_n dX4_hasOn_7 rfl ?_
    refine V_mi (f := 17) (n := 30) (w := M 17 s) dX4_hasOn_8 rfl rfl (by decide) rfl rfl hM (by omega) rfl (fun r8 => ?_)
    have b8 := hI.a17 s
    refine V_icmp_ge (tgt := 35) dX4_hasOn_9 (by decide) (by omega) (by omega) (fun q9 => ?_) (fun q9 => ?_)
    · refine V_iconst dX4_hasOn_35 ?_
      refine V_zret (by first | exact pI_01 _ | omega) dX4_hasOn_36 rfl ?_
      refine mret hM hF (pI_f (fun ⟨j, a, b, c⟩ => k2A j a (by omega) c)).symm rfl
    · refine V_aload_n dX4_hasOn_12 rfl ?_
      refine V_mgA (f := 16) (a := 35) dX4_hasOn_13 fg_RX4_60 rfl (by decide) hM rfl ?_
      refine V_bipush dX4_hasOn_16 (by decide) ?_
      refine V_iload_n dX4_hasOn_18 rfl ?_
      refine V_imul dX4_hasOn_19 ?_
      refine V_iload_n dX4_hasOn_20 rfl ?_
      refine V_iadd dX4_hasOn_21 ?_
      refine V_mi (f := 16) (n := 810) (w := M 16 ((27 * s) + k2)) dX4_hasOn_22 rfl rfl (by decide) rfl rfl hM (by omega) rfl (fun r22 => ?_)
      have b22 := hI.a16 ((27 * s) + k2)
      refine V_iload_n dX4_hasOn_23 rfl ?_
      refine V_icmp_ne (tgt := 29) dX4_hasOn_24 (by decide) (by omega) (by omega) (fun q24 => ?_) (fun q24 => ?_)
      · refine V_iinc (lc' := [_, _, _, _]) dX4_hasOn_29 rfl (by decide) rfl ?_
        refine V_goto (tgt := 2) dX4_hasOn_32 (by decide) ?_
        exact ih2 (by omega) ⟨by omega, by omega, all_succ k2A (by first | assumption |  omega)⟩ h hM hF
      · refine V_iconst dX4_hasOn_27 ?_
        refine V_zret (by first | exact pI_01 _ | omega) dX4_hasOn_28 rfl ?_
        refine mret hM hF (pI_t ⟨k2, by omega, by omega, by omega⟩).symm rfl
  exact lp2 0 ⟨by omega, by omega, fun j a b => absurd b (by omega)⟩ h hM hF
theorem T_X4_isHeld (g : GP) (M : MS) (q : Int) (r_q : -2147483648 ≤ q ∧ q ≤ 2147483647) (hI : IM M) : TM g m_X4_isHeld 3 [xI q] M (some (xI (pI (sHeld M q)))) (M) := by
  refine TM.of (by decide) rfl (fun v hv => ?_) (Nat.le_of_ble_eq_true rfl) ?_
  · simp only [List.mem_cons, List.not_mem_nil, or_false] at hv
    subst hv; exact ⟨_, rfl⟩
  intro h0 h hM hF
  change V g m_X4_isHeld 3 _ h 0 [xR 18, xI q, xU, xU] []
  obtain ⟨⟨i19, i20, i21, i22, i23, i24, i25, i26, i29⟩, iA⟩ := id hI
  refine V_iconst dX4_isHeld_0 ?_
  refine V_istore_n (lc' := [_, _, _, _]) dX4_isHeld_1 (by decide) rfl ?_
  have lp2 : ∀ k2 : Int, (0 ≤ k2 ∧ k2 ≤ M 22 0 ∧ ∀ j : Int, 0 ≤ j → j < k2 → ∀ k, 0 ≤ k → k < sHb M j → M 10 (9 * j + k) ≠ q) → ∀ h, MR h M → FR h0 h → V g m_X4_isHeld 3 (Qm h0 (some (xI (pI (sHeld M q)))) (M)) h 2 [xR 18, xI q, xI k2, xU] [] := by
    refine lp_up (M 22 0) (fun k2 ih2 => ?_)
    intro hk h hM hF
    obtain ⟨k2l, k2u, k2A⟩ := hk
    refine V_iload_n dX4_isHeld_2 rfl ?_
    refine V_aload_n dX4_isHeld_3 rfl ?_
    refine V_mg (f := 22) (z := M 22 0) dX4_isHeld_4 fg_RX4_83 rfl (by decide) hM rfl (fun r4 => ?_)
    refine V_icmp_ge (tgt := 50) dX4_isHeld_7 (by decide) (by omega) (by omega) (fun q7 => ?_) (fun q7 => ?_)
    · refine V_iconst dX4_isHeld_50 ?_
      refine V_istore_n (lc' := [_, _, _, _]) dX4_isHeld_51 (by decide) rfl ?_
      have lp52 : ∀ k52 : Int, (0 ≤ k52 ∧ k52 ≤ M 23 0 ∧ ∀ j : Int, 0 ≤ j → j < k52 → ¬ (M 13 j = 115 ∧ sHas M j q)) → ∀ h, MR h M → FR h0 h → V g m_X4_isHeld 3 (Qm h0 (some (xI (pI (sHeld M q)))) (M)) h 52 [xR 18, xI q, xI k52, xU] [] := by
        refine lp_up (M 23 0) (fun k52 ih52 => ?_)
        intro hk h hM hF
        obtain ⟨k52l, k52u, k52A⟩ := hk
        refine V_iload_n dX4_isHeld_52 rfl ?_
        refine V_aload_n dX4_isHeld_53 rfl ?_
        refine V_mg (f := 23) (z := M 23 0) dX4_isHeld_54 fg_RX4_86 rfl (by decide) hM rfl (fun r54 => ?_)
        refine V_icmp_ge (tgt := 88) dX4_isHeld_57 (by decide) (by omega) (by omega) (fun q57 => ?_) (fun q57 => ?_)
        · refine V_iconst dX4_isHeld_88 ?_
          refine V_zret (by first | exact pI_01 _ | omega) dX4_isHeld_89 rfl ?_
          refine mret hM hF (Eq.symm ?_) rfl
          exact pI_f (fun e => e.elim (fun ⟨p, k, a, b, c, d, e⟩ => k2A p a (by omega) k c d e) (fun ⟨s, a, b, c, d⟩ => k52A s a (by omega) ⟨c, d⟩))
        · refine V_aload_n dX4_isHeld_60 rfl ?_
          refine V_mgA (f := 13) (a := 32) dX4_isHeld_61 fg_RX4_50 rfl (by decide) hM rfl ?_
          refine V_iload_n dX4_isHeld_64 rfl ?_
          refine V_mc (f := 13) (n := 30) (w := M 13 k52) dX4_isHeld_65 rfl rfl (by decide) rfl rfl hM (by omega) rfl (fun r65 => ?_)
          have b65 := hI.a13 k52
          refine V_bipush dX4_isHeld_66 (by decide) ?_
          refine V_icmp_ne (tgt := 82) dX4_isHeld_68 (by decide) (by omega) (by omega) (fun q68 => ?_) (fun q68 => ?_)
          · refine V_iinc (lc' := [_, _, _, _]) dX4_isHeld_82 rfl (by decide) rfl ?_
            refine V_goto (tgt := 52) dX4_isHeld_85 (by decide) ?_
            exact ih52 (by omega) ⟨by omega, by omega, all_succ k52A (by first | exact fun e => q68 e.1 | exact fun e => q77 e.2)⟩ h hM hF
          · refine V_aload_n dX4_isHeld_71 rfl ?_
            refine V_iload_n dX4_isHeld_72 rfl ?_
            refine V_iload_n dX4_isHeld_73 rfl ?_
            refine V_mC (as := [_, _]) dX4_isHeld_74 c_RX4_145 rfl (by decide) rfl (Nat.le_of_ble_eq_true rfl) hM hF (T_X4_hasOn g M k52 q (by omega) (by omega) hI (by omega)) (fun h hM hF => ?_)
            refine V_ifb_eq (tgt := 82) dX4_isHeld_77 (by decide) (fun q77 => ?_) (fun q77 => ?_)
            · refine V_iinc (lc' := [_, _, _, _]) dX4_isHeld_82 rfl (by decide) rfl ?_
              refine V_goto (tgt := 52) dX4_isHeld_85 (by decide) ?_
              exact ih52 (by omega) ⟨by omega, by omega, all_succ k52A (by first | exact fun e => q68 e.1 | exact fun e => q77 e.2)⟩ h hM hF
            · refine V_iconst dX4_isHeld_80 ?_
              refine V_zret (by first | exact pI_01 _ | omega) dX4_isHeld_81 rfl ?_
              refine mret hM hF (Eq.symm ?_) rfl
              first | exact pI_t (Or.inl ⟨k2, k12, by omega, by omega, by omega, by omega, by omega⟩) | exact pI_t (Or.inr ⟨k52, by omega, by omega, by omega, q77⟩)
      exact lp52 0 ⟨by omega, by omega, fun j a b => absurd b (by omega)⟩ h hM hF
    · refine V_iconst dX4_isHeld_10 ?_
      refine V_istore_n (lc' := [_, _, _, _]) dX4_isHeld_11 (by decide) rfl ?_
      have b12 := sHb_r hI k2
      have lp12 : ∀ k12 : Int, (0 ≤ k12 ∧ k12 ≤ sHb M k2 ∧ ∀ j : Int, 0 ≤ j → j < k12 → M 10 (9 * k2 + j) ≠ q) → ∀ h, MR h M → FR h0 h → V g m_X4_isHeld 3 (Qm h0 (some (xI (pI (sHeld M q)))) (M)) h 12 [xR 18, xI q, xI k2, xI k12] [] := by
        refine lp_up (sHb M k2) (fun k12 ih12 => ?_)
        intro hk h hM hF
        obtain ⟨k12l, k12u, k12A⟩ := hk
        refine V_iload_n dX4_isHeld_12 rfl ?_
        refine V_aload_n dX4_isHeld_13 rfl ?_
        refine V_iload_n dX4_isHeld_14 rfl ?_
        refine V_mC (as := [_]) dX4_isHeld_15 c_RX4_139 rfl (by decide) rfl (Nat.le_of_ble_eq_true rfl) hM hF (T_X4_heldBy g M k2 (by omega) hI (by omega)) (fun h hM hF => ?_)
        have t15 := sHb_r hI k2
        refine V_icmp_ge (tgt := 44) dX4_isHeld_18 (by decide) (by omega) (by omega) (fun q18 => ?_) (fun q18 => ?_)
        · refine V_iinc (lc' := [_, _, _, _]) dX4_isHeld_44 rfl (by decide) rfl ?_
          refine V_goto (tgt := 2) dX4_isHeld_47 (by decide) ?_
          refine V_wk (lc' := [_, _, _, xU]) ⟨Or.inr rfl, Or.inr rfl, Or.inr rfl, Or.inl rfl, trivial⟩ ?_
          exact ih2 (by omega) ⟨by omega, by omega, all_succ k2A (fun k a b => k12A k a (by omega))⟩ h hM hF
        · refine V_aload_n dX4_isHeld_21 rfl ?_
          refine V_mgA (f := 10) (a := 29) dX4_isHeld_22 fg_RX4_40 rfl (by decide) hM rfl ?_
          refine V_bipush dX4_isHeld_25 (by decide) ?_
          refine V_iload_n dX4_isHeld_27 rfl ?_
          refine V_imul dX4_isHeld_28 ?_
          refine V_iload_n dX4_isHeld_29 rfl ?_
          refine V_iadd dX4_isHeld_30 ?_
          refine V_mi (f := 10) (n := 108) (w := M 10 ((9 * k2) + k12)) dX4_isHeld_31 rfl rfl (by decide) rfl rfl hM (by omega) rfl (fun r31 => ?_)
          have b31 := hI.a10 ((9 * k2) + k12)
          refine V_iload_n dX4_isHeld_32 rfl ?_
          refine V_icmp_ne (tgt := 38) dX4_isHeld_33 (by decide) (by omega) (by omega) (fun q33 => ?_) (fun q33 => ?_)
          · refine V_iinc (lc' := [_, _, _, _]) dX4_isHeld_38 rfl (by decide) rfl ?_
            refine V_goto (tgt := 12) dX4_isHeld_41 (by decide) ?_
            exact ih12 (by omega) ⟨by omega, by omega, all_succ k12A (by first | assumption |  omega)⟩ h hM hF
          · refine V_iconst dX4_isHeld_36 ?_
            refine V_zret (by first | exact pI_01 _ | omega) dX4_isHeld_37 rfl ?_
            refine mret hM hF (Eq.symm ?_) rfl
            first | exact pI_t (Or.inl ⟨k2, k12, by omega, by omega, by omega, by omega, by omega⟩) | exact pI_t (Or.inr ⟨k52, by omega, by omega, by omega, q77⟩)
      exact lp12 0 ⟨by omega, by omega, fun j a b => absurd b (by omega)⟩ h hM hF
  exact lp2 0 ⟨by omega, by omega, fun j a b => absurd b (by omega)⟩ h hM hF
theorem T_X4_isFreeNow (g : GP) (M : MS) (q : Int) (r_q : -2147483648 ≤ q ∧ q ≤ 2147483647) (hI : IM M) (h1 : 0 ≤ q ∧ q ≤ 39) : TM g m_X4_isFreeNow 4 [xI q] M (some (xI (pI (sFree M q)))) (M) := by
  refine TM.of (by decide) rfl (fun v hv => ?_) (Nat.le_of_ble_eq_true rfl) ?_
  · simp only [List.mem_cons, List.not_mem_nil, or_false] at hv
    subst hv; exact ⟨_, rfl⟩
  intro h0 h hM hF
  change V g m_X4_isFreeNow 4 _ h 0 [xR 18, xI q] []
  obtain ⟨⟨i19, i20, i21, i22, i23, i24, i25, i26, i29⟩, iA⟩ := id hI
  refine V_aload_n dX4_isFreeNow_0 rfl ?_
  refine V_iload_n dX4_isFreeNow_1 rfl ?_
  refine V_mC (as := [_]) dX4_isFreeNow_2 c_RX4_148 rfl (by decide) rfl (Nat.le_of_ble_eq_true rfl) hM hF (T_X4_isHeld g M q (by omega) hI) (fun h hM hF => ?_)
  refine V_ifb_ne (tgt := 27) dX4_isFreeNow_5 (by decide) (fun q5 => ?_) (fun q5 => ?_)
  · refine V_iconst dX4_isFreeNow_27 ?_
    refine V_zret (by first | exact pI_01 _ | omega) dX4_isFreeNow_28 rfl ?_
    refine mret hM hF (pI_f (fun e => by first | exact e.1 q5 | (have := e.2; omega))).symm rfl
  · refine V_aload_n dX4_isFreeNow_8 rfl ?_
    refine V_mgA (f := 5) (a := 24) dX4_isFreeNow_9 fg_RX4_25 rfl (by decide) hM rfl ?_
    refine V_iload_n dX4_isFreeNow_12 rfl ?_
    refine V_mi (f := 5) (n := 40) (w := M 5 q) dX4_isFreeNow_13 rfl rfl (by decide) rfl rfl hM (by omega) rfl (fun r13 => ?_)
    have b13 := hI.a5 q
    refine V_aload_n dX4_isFreeNow_14 rfl ?_
    refine V_mg (f := 24) (z := M 24 0) dX4_isFreeNow_15 fg_RX4_123 rfl (by decide) hM rfl (fun r15 => ?_)
    refine V_iconst dX4_isFreeNow_18 ?_
    refine V_isub dX4_isFreeNow_19 ?_
    refine V_icmp_ge (tgt := 27) dX4_isFreeNow_20 (by decide) (by omega) (by omega) (fun q20 => ?_) (fun q20 => ?_)
    · refine V_iconst dX4_isFreeNow_27 ?_
      refine V_zret (by first | exact pI_01 _ | omega) dX4_isFreeNow_28 rfl ?_
      refine mret hM hF (pI_f (fun e => by first | exact e.1 q5 | (have := e.2; omega))).symm rfl
    · refine V_iconst dX4_isFreeNow_23 ?_
      refine V_goto (tgt := 28) dX4_isFreeNow_24 (by decide) ?_
      refine V_zret (by first | exact pI_01 _ | omega) dX4_isFreeNow_28 rfl ?_
      refine mret hM hF (pI_t ⟨q5, by omega⟩).symm rfl
theorem T_X4_isFree (g : GP) (M : MS) (q : Int) (r_q : -2147483648 ≤ q ∧ q ≤ 2147483647) (hI : IM M) : TM g m_X4_isFree 5 [xI q] M (some (xI (pI (isQ M q ∧ sFree M q)))) ((mset M 27 0 (tQ M q))) := by
  refine TM.of (by decide) rfl (fun v hv => ?_) (Nat.le_of_ble_eq_true rfl) ?_
  · simp only [List.mem_cons, List.not_mem_nil, or_false] at hv
    subst hv; exact ⟨_, rfl⟩
  intro h0 h hM hF
  change V g m_X4_isFree 5 _ h 0 [xR 18, xI q] []
  obtain ⟨⟨i19, i20, i21, i22, i23, i24, i25, i26, i29⟩, iA⟩ := id hI
  refine V_aload_n dX4_isFree_0 rfl ?_
  refine V_iload_n dX4_isFree_1 rfl ?_
  refine V_mC (as := [_]) dX4_isFree_2 c_RX4_103 rfl (by decide) rfl (Nat.le_of_ble_eq_true rfl) hM hF (T_X4_wrongQuestion g M q (by omega) hI) (fun h hM hF => ?_)
  rcases tQ_c M q with ⟨et, et1, et2⟩ | ⟨et, et1⟩
  · rw [et] at hM ⊢
    refine V_if_ne (tgt := 20) dX4_isFree_5 (by decide) (by decide) (fun q5 => absurd q5 (by decide)) (fun _ => ?_)
    refine V_aload_n dX4_isFree_8 rfl ?_
    refine V_iload_n dX4_isFree_9 rfl ?_
    refine V_mC (as := [_]) dX4_isFree_10 c_RX4_151 rfl (by decide) rfl (Nat.le_of_ble_eq_true rfl) hM hF (show TM g m_X4_isFreeNow _ _ (mset M 27 0 0) (some (xI (pI (sFree M q)))) (mset M 27 0 0) from T_X4_isFreeNow g (mset M 27 0 0) q (by omega) hI (by omega)) (fun h hM hF => ?_)
    refine V_ifb_eq (tgt := 20) dX4_isFree_13 (by decide) (fun q13 => ?_) (fun q13 => ?_)
    · refine V_iconst dX4_isFree_20 ?_
      refine V_zret (by first | exact pI_01 _ | omega) dX4_isFree_21 rfl ?_
      exact mret hM hF (pI_f (fun e => by first | exact q13 e.2 | exact et1 e.1)).symm (by first | rfl | rw [et])
    · refine V_iconst dX4_isFree_16 ?_
      refine V_goto (tgt := 21) dX4_isFree_17 (by decide) ?_
      refine V_zret (by first | exact pI_01 _ | omega) dX4_isFree_21 rfl ?_
      exact mret hM hF (pI_t ⟨⟨et1, et2⟩, q13⟩).symm (by first | rfl | rw [et])
  · rw [et] at hM ⊢
    refine V_if_ne (tgt := 20) dX4_isFree_5 (by decide) (by decide) (fun _ => ?_) (fun q5 => absurd q5 (by decide))
    refine V_iconst dX4_isFree_20 ?_
    refine V_zret (by first | exact pI_01 _ | omega) dX4_isFree_21 rfl ?_
    exact mret hM hF (pI_f (fun e => by first | exact q13 e.2 | exact et1 e.1)).symm (by first | rfl | rw [et])
theorem T_X4_hasTwinIn (g : GP) (M : MS) (p : Int) (n : Int) (q : Int) (r_p : -2147483648 ≤ p ∧ p ≤ 2147483647) (r_n : -2147483648 ≤ n ∧ n ≤ 2147483647) (r_q : -2147483648 ≤ q ∧ q ≤ 2147483647) (hI : IM M) (h1 : 0 ≤ p ∧ p ≤ 11) (h2 : 0 ≤ n ∧ n ≤ 9) (h3 : 0 ≤ q ∧ q ≤ 39) : TM g m_X4_hasTwinIn 2 [xI p, xI n, xI q] M (some (xI (pI (sTwIn M p n q)))) (M) := by
  refine TM.of (by decide) rfl (fun v hv => ?_) (Nat.le_of_ble_eq_true rfl) ?_
  · simp only [List.mem_cons, List.not_mem_nil, or_false] at hv
    rcases hv with rfl | rfl | rfl <;> exact ⟨_, rfl⟩
  intro h0 h hM hF
  change V g m_X4_hasTwinIn 2 _ h 0 [xR 18, xI p, xI n, xI q, xU] []
  obtain ⟨⟨i19, i20, i21, i22, i23, i24, i25, i26, i29⟩, iA⟩ := id hI
  refine V_iconst dX4_hasTwinIn_0 ?_
  refine V_istore (lc' := [_, _, _, _, _]) dX4_hasTwinIn_1 (by decide) rfl ?_
  have lp3 : ∀ k3 : Int, (0 ≤ k3 ∧ k3 ≤ n ∧ ∀ j : Int, 0 ≤ j → j < k3 → ¬ sTw M (M 10 (9 * p + j)) q) → ∀ h, MR h M → FR h0 h → V g m_X4_hasTwinIn 2 (Qm h0 (some (xI (pI (sTwIn M p n q)))) (M)) h 3 [xR 18, xI p, xI n, xI q, xI k3] [] := by
    refine lp_up (n) (fun k3 ih3 => ?_)
    intro hk h hM hF
    obtain ⟨k3l, k3u, k3A⟩ := hk
    refine V_iload dX4_hasTwinIn_3 rfl ?_
    refine V_iload_n dX4_hasTwinIn_5 rfl ?_
    refine V_icmp_ge (tgt := 37) dX4_hasTwinIn_6 (by decide) (by omega) (by omega) (fun q6 => ?_) (fun q6 => ?_)
    · refine V_iconst dX4_hasTwinIn_37 ?_
      refine V_zret (by first | exact pI_01 _ | omega) dX4_hasTwinIn_38 rfl ?_
      refine mret hM hF (pI_f (fun ⟨j, a, b, c⟩ => k3A j a (by omega) c)).symm rfl
    · refine V_aload_n dX4_hasTwinIn_9 rfl ?_
      refine V_aload_n dX4_hasTwinIn_10 rfl ?_
      refine V_mgA (f := 10) (a := 29) dX4_hasTwinIn_11 fg_RX4_40 rfl (by decide) hM rfl ?_
      refine V_bipush dX4_hasTwinIn_14 (by decide) ?_
      refine V_iload_n dX4_hasTwinIn_16 rfl ?_
      refine V_imul dX4_hasTwinIn_17 ?_
      refine V_iload dX4_hasTwinIn_18 rfl ?_
      refine V_iadd dX4_hasTwinIn_20 ?_
      refine V_mi (f := 10) (n := 108) (w := M 10 ((9 * p) + k3)) dX4_hasTwinIn_21 rfl rfl (by decide) rfl rfl hM (by omega) rfl (fun r21 => ?_)
      have b21 := hI.a10 ((9 * p) + k3)
      refine V_iload_n dX4_hasTwinIn_22 rfl ?_
      refine V_mC (as := [_, _]) dX4_hasTwinIn_23 c_RX4_99 rfl (by decide) rfl (Nat.le_of_ble_eq_true rfl) hM hF (T_X4_areTwin g M (M 10 ((9 * p) + k3)) q (by omega) (by omega) (by omega) (by omega)) (fun h hM hF => ?_)
      refine V_ifb_eq (tgt := 31) dX4_hasTwinIn_26 (by decide) (fun q26 => ?_) (fun q26 => ?_)
      · refine V_iinc (lc' := [_, _, _, _, _]) dX4_hasTwinIn_31 rfl (by decide) rfl ?_
        refine V_goto (tgt := 3) dX4_hasTwinIn_34 (by decide) ?_
        exact ih3 (by omega) ⟨by omega, by omega, all_succ k3A (by first | assumption |  omega)⟩ h hM hF
      · refine V_iconst dX4_hasTwinIn_29 ?_
        refine V_zret (by first | exact pI_01 _ | omega) dX4_hasTwinIn_30 rfl ?_
        refine mret hM hF (pI_t ⟨k3, by omega, by omega, q26⟩).symm rfl
  exact lp3 0 ⟨by omega, by omega, fun j a b => absurd b (by omega)⟩ h hM hF
theorem T_X4_waiting (g : GP) (M : MS)   (hI : IM M) : TM g m_X4_waiting 1 [] M (some (xI (sWaitN M (M 23 0).toNat))) ((mset M 27 0 0)) := by
  refine TM.of (by decide) rfl (fun v hv => ?_) (Nat.le_of_ble_eq_true rfl) ?_
  · cases hv
  intro h0 h hM hF
  change V g m_X4_waiting 1 _ h 0 [xR 18, xU, xU] []
  obtain ⟨⟨i19, i20, i21, i22, i23, i24, i25, i26, i29⟩, iA⟩ := id hI
  refine V_aload_n dX4_waiting_0 rfl ?_
  refine V_iconst dX4_waiting_1 ?_
  refine V_mp (f := 27) dX4_waiting_2 f_RX4_72 rfl (by decide) hM hF (by omega) (fun h hM hF => ?_)
  refine V_iconst dX4_waiting_5 ?_
  refine V_istore_n (lc' := [_, _, _]) dX4_waiting_6 (by decide) rfl ?_
  refine V_iconst dX4_waiting_7 ?_
  refine V_istore_n (lc' := [_, _, _]) dX4_waiting_8 (by decide) rfl ?_
  have lp9 : ∀ k9 : Int, ∀ n9 : Int, (0 ≤ k9 ∧ k9 ≤ M 23 0 ∧ n9 = sWaitN M k9.toNat) → ∀ h, MR h (mset M 27 0 0) → FR h0 h → V g m_X4_waiting 1 (Qm h0 (some (xI (sWaitN M (M 23 0).toNat))) ((mset M 27 0 0))) h 9 [xR 18, xI n9, xI k9] [] := by
    refine lp_up (M 23 0) (fun k9 ih9 => ?_)
    intro n9 hk h hM hF
    obtain ⟨k9l, k9u, k9e⟩ := hk
    refine V_iload_n dX4_waiting_9 rfl ?_
    refine V_aload_n dX4_waiting_10 rfl ?_
    refine V_mg (f := 23) (z := M 23 0) dX4_waiting_11 fg_RX4_86 rfl (by decide) hM (by simp [sT, mset]) (fun r11 => ?_)
    refine V_icmp_ge (tgt := 42) dX4_waiting_14 (by decide) (by omega) (by omega) (fun q14 => ?_) (fun q14 => ?_)
    · refine V_iload_n dX4_waiting_42 rfl ?_
      refine V_iret dX4_waiting_43 rfl ?_
      exact mret hM hF (by rw [k9e, show k9 = M 23 0 by omega]) rfl
    · refine V_iload_n dX4_waiting_17 rfl ?_
      refine V_aload_n dX4_waiting_18 rfl ?_
      refine V_mgA (f := 13) (a := 32) dX4_waiting_19 fg_RX4_50 rfl (by decide) hM rfl ?_
      refine V_iload_n dX4_waiting_22 rfl ?_
      refine V_mc (f := 13) (n := 30) (w := M 13 k9) dX4_waiting_23 rfl rfl (by decide) rfl rfl hM (by omega) (by simp [sT, mset]) (fun r23 => ?_)
      have b23 := hI.a13 k9
      refine V_bipush dX4_waiting_24 (by decide) ?_
      refine V_icmp_ne (tgt := 33) dX4_waiting_26 (by decide) (by omega) (by omega) (fun q26 => ?_) (fun q26 => ?_)
      · refine V_iconst dX4_waiting_33 ?_
        refine V_iadd dX4_waiting_34 ?_
        refine V_istore_n (lc' := [_, _, _]) dX4_waiting_35 (by decide) rfl ?_
        refine V_iinc (lc' := [_, _, _]) dX4_waiting_36 rfl (by decide) rfl ?_
        refine V_goto (tgt := 9) dX4_waiting_39 (by decide) ?_
        exact ih9 (by omega) (n9 + 0) ⟨by omega, by omega, by rw [sWaitN_s k9l, ← k9e]; first | rw [if_neg q26] | rw [if_pos q26]⟩ h hM hF
      · refine V_iconst dX4_waiting_29 ?_
        refine V_goto (tgt := 34) dX4_waiting_30 (by decide) ?_
        refine V_iadd dX4_waiting_34 ?_
        refine V_istore_n (lc' := [_, _, _]) dX4_waiting_35 (by decide) rfl ?_
        refine V_iinc (lc' := [_, _, _]) dX4_waiting_36 rfl (by decide) rfl ?_
        refine V_goto (tgt := 9) dX4_waiting_39 (by decide) ?_
        exact ih9 (by omega) (n9 + 1) ⟨by omega, by omega, by rw [sWaitN_s k9l, ← k9e]; first | rw [if_neg q26] | rw [if_pos q26]⟩ h hM hF
  exact lp9 0 0 ⟨by omega, by omega, rfl⟩ h hM hF
theorem T_X4_setJam (g : GP) (M : MS) (b : Int) (r_b : -2147483648 ≤ b ∧ b ≤ 2147483647) (hI : IM M) (h1 : b = 0 ∨ b = 1) : TM g m_X4_setJam 1 [xI b] M (some (xI (M 29 0))) (mset (sT M 0) 29 0 b) := by
  refine TM.of (by decide) rfl (fun v hv => ?_) (Nat.le_of_ble_eq_true rfl) ?_
  · simp only [List.mem_cons, List.not_mem_nil, or_false] at hv
    subst hv; exact ⟨_, rfl⟩
  intro h0 h hM hF
  change V g m_X4_setJam 1 _ h 0 [xR 18, xI b, xU] []
  obtain ⟨⟨i19, i20, i21, i22, i23, i24, i25, i26, i29⟩, iA⟩ := id hI
  refine V_aload_n dX4_setJam_0 rfl ?_
  refine V_iconst dX4_setJam_1 ?_
  refine V_mp (f := 27) dX4_setJam_2 f_RX4_72 rfl (by decide) hM hF (by omega) (fun h hM hF => ?_)
  refine V_aload_n dX4_setJam_5 rfl ?_
  refine V_mg (f := 29) (z := M 29 0) dX4_setJam_6 fg_RX4_182 rfl (by decide) hM (by simp [sT, mset]) (fun r6 => ?_)
  refine V_istore_n (lc' := [_, _, _]) dX4_setJam_9 (by decide) rfl ?_
  refine V_aload_n dX4_setJam_10 rfl ?_
  refine V_iload_n dX4_setJam_11 rfl ?_
  refine V_mpz (f := 29) dX4_setJam_12 f_RX4_182 rfl (by decide) hM hF (by omega) (fun h hM hF => ?_)
  refine V_iload_n dX4_setJam_15 rfl ?_
  refine V_zret (by first | exact pI_01 _ | omega) dX4_setJam_16 rfl ?_
  exact mret hM hF rfl rfl
theorem T_X4_isSound (g : GP) (M : MS)    : TM g m_X4_isSound 1 [] M (some (xI 1)) ((mset M 27 0 0)) := by
  refine TM.of (by decide) rfl (fun v hv => ?_) (Nat.le_of_ble_eq_true rfl) ?_
  · cases hv
  intro h0 h hM hF
  change V g m_X4_isSound 1 _ h 0 [xR 18] []
  refine V_aload_n dX4_isSound_0 rfl ?_
  refine V_iconst dX4_isSound_1 ?_
  refine V_mp (f := 27) dX4_isSound_2 f_RX4_72 rfl (by decide) hM hF (by omega) (fun h hM hF => ?_)
  refine V_iconst dX4_isSound_5 ?_
  refine V_zret (by first | exact pI_01 _ | omega) dX4_isSound_6 rfl ?_
  exact mret hM hF rfl rfl
theorem T_X4_allLevels (g : GP) (M : MS)   (hI : IM M) : TM g m_X4_allLevels 1 [] M (some (xV (.long (Int64.ofInt (sSumN M (M 20 0).toNat))))) ((mset M 27 0 0)) := by
  refine TM.of (by decide) rfl (fun v hv => ?_) (Nat.le_of_ble_eq_true rfl) ?_
  · cases hv
  intro h0 h hM hF
  change V g m_X4_allLevels 1 _ h 0 [xR 18, xU, xU, xU] []
  obtain ⟨⟨i19, i20, i21, i22, i23, i24, i25, i26, i29⟩, iA⟩ := id hI
  refine V_aload_n dX4_allLevels_0 rfl ?_
  refine V_iconst dX4_allLevels_1 ?_
  refine V_mp (f := 27) dX4_allLevels_2 f_RX4_72 rfl (by decide) hM hF (by omega) (fun h hM hF => ?_)
  refine V_lconst (v := (0 : Int64)) dX4_allLevels_5 (by decide) ?_
  refine V_lstore_n (lc' := [_, _, _, _]) dX4_allLevels_6 (by decide) rfl ?_
  refine V_iconst dX4_allLevels_7 ?_
  refine V_istore_n (lc' := [_, _, _, _]) dX4_allLevels_8 (by decide) rfl ?_
  have lp9 : ∀ k9 : Int, ∀ n9 : Int64, (0 ≤ k9 ∧ k9 ≤ M 20 0 ∧ n9 = Int64.ofInt (sSumN M k9.toNat)) → ∀ h, MR h (mset M 27 0 0) → FR h0 h → V g m_X4_allLevels 1 (Qm h0 (some (xV (.long (Int64.ofInt (sSumN M (M 20 0).toNat))))) ((mset M 27 0 0))) h 9 [xR 18, xV (.long n9), xU, xI k9] [] := by
    refine lp_up (M 20 0) (fun k9 ih9 => ?_)
    intro n9 hk h hM hF
    obtain ⟨k9l, k9u, k9e⟩ := hk
    refine V_iload_n dX4_allLevels_9 rfl ?_
    refine V_aload_n dX4_allLevels_10 rfl ?_
    refine V_mg (f := 20) (z := M 20 0) dX4_allLevels_11 fg_RX4_76 rfl (by decide) hM (by simp [sT, mset]) (fun r11 => ?_)
    refine V_icmp_ge (tgt := 33) dX4_allLevels_14 (by decide) (by omega) (by omega) (fun q14 => ?_) (fun q14 => ?_)
    · refine V_lload_n dX4_allLevels_33 rfl ?_
      refine V_lret dX4_allLevels_34 rfl ?_
      exact ⟨by rw [k9e, show k9 = M 20 0 by omega], hM, hF⟩
    · refine V_lload_n dX4_allLevels_17 rfl ?_
      refine V_aload_n dX4_allLevels_18 rfl ?_
      refine V_mgA (f := 3) (a := 22) dX4_allLevels_19 fg_RX4_19 rfl (by decide) hM rfl ?_
      refine V_iload_n dX4_allLevels_22 rfl ?_
      refine V_mi (f := 3) (n := 40) (w := M 3 k9) dX4_allLevels_23 rfl rfl (by decide) rfl rfl hM (by omega) (by simp [sT, mset]) (fun r23 => ?_)
      have b23 := hI.a3 k9
      refine V_i2l dX4_allLevels_24 (by omega) ?_
      refine V_ladd dX4_allLevels_25 ?_
      refine V_lstore_n (lc' := [_, _, _, _]) dX4_allLevels_26 (by decide) rfl ?_
      refine V_iinc (lc' := [_, _, _, _]) dX4_allLevels_27 rfl (by decide) rfl ?_
      refine V_goto (tgt := 9) dX4_allLevels_30 (by decide) ?_
      exact ih9 (by omega) (n9 + (Int64.ofInt (M 3 k9))) ⟨by omega, by omega, by rw [sSumN_s k9l, Int64.ofInt_add, ← k9e]⟩ h hM hF
  exact lp9 0 (0 : Int64) ⟨by omega, by omega, rfl⟩ h hM hF
theorem T_X4_settle (g : GP) (M : MS)   (hI : IM M) : TM g m_X4_settle 5 [] M none (sSettle M) := by
  refine TM.of (by decide) rfl (fun v hv => ?_) (Nat.le_of_ble_eq_true rfl) ?_
  · cases hv
  intro h0 h hM hF
  change V g m_X4_settle 5 _ h 0 [xR 18, xU, xU, xU, xU] []
  obtain ⟨⟨i19, i20, i21, i22, i23, i24, i25, i26, i29⟩, iA⟩ := id hI
  refine V_iconst dX4_settle_0 ?_
  refine V_istore_n (lc' := [_, _, _, _, _]) dX4_settle_1 (by decide) rfl ?_
  have lp2 : ∀ k2 : Int, ∀ M2 : MS, (0 ≤ k2 ∧ k2 ≤ M 22 0 ∧ M2 = sL1 M k2.toNat) → ∀ h, MR h M2 → FR h0 h → V g m_X4_settle 5 (Qm h0 none (sSettle M)) h 2 [xR 18, xI k2, xU, xU, xU] [] := by
    refine lp_up (M 22 0) (fun k2 ih2 => ?_)
    intro M2 hk h hM hF
    obtain ⟨k2l, k2u, k2e⟩ := hk
    have oI2 := sL1_o hI k2.toNat
    rw [← k2e] at oI2
    obtain ⟨o2, hI2⟩ := oI2
    have e22 := o2 22 0 (by decide)
    have e20 := o2 20 0 (by decide)
    refine V_iload_n dX4_settle_2 rfl ?_
    refine V_aload_n dX4_settle_3 rfl ?_
    refine V_mg (f := 22) (z := M2 22 0) dX4_settle_4 fg_RX4_83 rfl (by decide) hM rfl (fun r4 => ?_)
    refine V_icmp_ge (tgt := 112) dX4_settle_7 (by decide) (by omega) (by omega) (fun q7 => ?_) (fun q7 => ?_)
    · refine V_iconst dX4_settle_112 ?_
      refine V_istore_n (lc' := [_, _, _, _, _]) dX4_settle_113 (by decide) rfl ?_
      have lp114 : ∀ k114 : Int, ∀ M114 : MS, (0 ≤ k114 ∧ k114 ≤ M 22 0 ∧ M114 = sL2 M2 k114.toNat) → ∀ h, MR h M114 → FR h0 h → V g m_X4_settle 5 (Qm h0 none (sSettle M)) h 114 [xR 18, xI k114, xU, xU, xU] [] := by
        refine lp_up (M 22 0) (fun k114 ih114 => ?_)
        intro M114 hk h hM hF
        obtain ⟨k114l, k114u, k114e⟩ := hk
        have oI114 := sL2_o hI2 k114.toNat
        rw [← k114e] at oI114
        obtain ⟨o114, hI114⟩ := oI114
        have e22b := o114 22 0 (by decide)
        have e20b := o114 20 0 (by decide)
        refine V_iload_n dX4_settle_114 rfl ?_
        refine V_aload_n dX4_settle_115 rfl ?_
        refine V_mg (f := 22) (z := M114 22 0) dX4_settle_116 fg_RX4_83 rfl (by decide) hM rfl (fun r116 => ?_)
        refine V_icmp_ge (tgt := 234) dX4_settle_119 (by decide) (by omega) (by omega) (fun q119 => ?_) (fun q119 => ?_)
        · refine V_vret dX4_settle_234 rfl ?_
          exact mretV hM hF (by rw [k114e, k2e, show k114 = M 22 0 by omega, show k2 = M 22 0 by omega]; rfl)
        · refine V_iconst dX4_settle_122 ?_
          refine V_istore_n (lc' := [_, _, _, _, _]) dX4_settle_123 (by decide) rfl ?_
          have lp124 : ∀ k124 : Int, ∀ M124 : MS, (0 ≤ k124 ∧ k124 ≤ M2 20 0 ∧ M124 = sFlN k114 M114 k124.toNat) → ∀ h, MR h M124 → FR h0 h → V g m_X4_settle 5 (Qm h0 none (sSettle M)) h 124 [xR 18, xI k114, xI k124, xU, xU] [] := by
            refine lp_up (M2 20 0) (fun k124 ih124 => ?_)
            intro M124 hk h hM hF
            obtain ⟨k124l, k124u, k124e⟩ := hk
            have oI124 := sFlN_o (p := k114) hI114 k124.toNat (by omega)
            rw [← k124e] at oI124
            obtain ⟨o124, hI124⟩ := oI124
            have e20c := o124 20 0 (by decide)
            refine V_iload_n dX4_settle_124 rfl ?_
            refine V_aload_n dX4_settle_125 rfl ?_
            refine V_mg (f := 20) (z := M124 20 0) dX4_settle_126 fg_RX4_76 rfl (by decide) hM rfl (fun r126 => ?_)
            refine V_icmp_ge (tgt := 228) dX4_settle_129 (by decide) (by omega) (by omega) (fun q129 => ?_) (fun q129 => ?_)
            · refine V_iinc (lc' := [_, _, _, _, _]) dX4_settle_228 rfl (by decide) rfl ?_
              refine V_goto (tgt := 114) dX4_settle_231 (by decide) ?_
              refine V_wk (lc' := [_, _, xU, xU, xU]) ⟨Or.inr rfl, Or.inr rfl, Or.inl rfl, Or.inl rfl, Or.inl rfl, trivial⟩ ?_
              exact ih114 (by omega) M124 ⟨by omega, by omega, by rw [sL2_s k114l, ← k114e]; first | (rw [show M2 20 0 = k124 by omega]; exact k124e) | exact (sFlN_e k124l k124e (fun e => q137 e.1) _ (by omega)).symm | exact (sFlN_e k124l k124e (fun e => by omega) _ (by omega)).symm⟩ h hM hF
            · refine V_aload_n dX4_settle_132 rfl ?_
              refine V_iload_n dX4_settle_133 rfl ?_
              refine V_mC (as := [_]) dX4_settle_134 c_RX4_133 rfl (by decide) rfl (Nat.le_of_ble_eq_true rfl) hM hF (T_X4_isInForce g M124 k114 (by omega) hI124 (by omega)) (fun h hM hF => ?_)
              refine V_ifb_eq (tgt := 228) dX4_settle_137 (by decide) (fun q137 => ?_) (fun q137 => ?_)
              · refine V_iinc (lc' := [_, _, _, _, _]) dX4_settle_228 rfl (by decide) rfl ?_
                refine V_goto (tgt := 114) dX4_settle_231 (by decide) ?_
                refine V_wk (lc' := [_, _, xU, xU, xU]) ⟨Or.inr rfl, Or.inr rfl, Or.inl rfl, Or.inl rfl, Or.inl rfl, trivial⟩ ?_
                exact ih114 (by omega) M124 ⟨by omega, by omega, by rw [sL2_s k114l, ← k114e]; first | (rw [show M2 20 0 = k124 by omega]; exact k124e) | exact (sFlN_e k124l k124e (fun e => q137 e.1) _ (by omega)).symm | exact (sFlN_e k124l k124e (fun e => by omega) _ (by omega)).symm⟩ h hM hF
              · refine V_aload_n dX4_settle_140 rfl ?_
                refine V_mgA (f := 11) (a := 30) dX4_settle_141 fg_RX4_43 rfl (by decide) hM rfl ?_
                refine V_iload_n dX4_settle_144 rfl ?_
                refine V_mi (f := 11) (n := 12) (w := M124 11 k114) dX4_settle_145 rfl rfl (by decide) rfl rfl hM (by omega) rfl (fun r145 => ?_)
                have b145 := hI124.a11 k114
                refine V_aload_n dX4_settle_146 rfl ?_
                refine V_mgA (f := 9) (a := 28) dX4_settle_147 fg_RX4_37 rfl (by decide) hM rfl ?_
                refine V_iload_n dX4_settle_150 rfl ?_
                refine V_mi (f := 9) (n := 12) (w := M124 9 k114) dX4_settle_151 rfl rfl (by decide) rfl rfl hM (by omega) rfl (fun r151 => ?_)
                have b151 := hI124.a9 k114
                refine V_icmp_ge (tgt := 228) dX4_settle_152 (by decide) (by omega) (by omega) (fun q152 => ?_) (fun q152 => ?_)
                · refine V_iinc (lc' := [_, _, _, _, _]) dX4_settle_228 rfl (by decide) rfl ?_
                  refine V_goto (tgt := 114) dX4_settle_231 (by decide) ?_
                  refine V_wk (lc' := [_, _, xU, xU, xU]) ⟨Or.inr rfl, Or.inr rfl, Or.inl rfl, Or.inl rfl, Or.inl rfl, trivial⟩ ?_
                  exact ih114 (by omega) M124 ⟨by omega, by omega, by rw [sL2_s k114l, ← k114e]; first | (rw [show M2 20 0 = k124 by omega]; exact k124e) | exact (sFlN_e k124l k124e (fun e => q137 e.1) _ (by omega)).symm | exact (sFlN_e k124l k124e (fun e => by omega) _ (by omega)).symm⟩ h hM hF
                · refine V_aload_n dX4_settle_155 rfl ?_
                  refine V_iload_n dX4_settle_156 rfl ?_
                  refine V_mC (as := [_]) dX4_settle_157 c_RX4_107 rfl (by decide) rfl (Nat.le_of_ble_eq_true rfl) hM hF (T_X4_kindOf g M124 k124 (by omega) hI124 (by omega)) (fun h hM hF => ?_)
                  have t157 := sKd_r (M124 3 k124)
                  refine V_aload_n dX4_settle_160 rfl ?_
                  refine V_mgA (f := 12) (a := 31) dX4_settle_161 fg_RX4_46 rfl (by decide) hM rfl ?_
                  refine V_iload_n dX4_settle_164 rfl ?_
                  refine V_mc (f := 12) (n := 12) (w := M124 12 k114) dX4_settle_165 rfl rfl (by decide) rfl rfl hM (by omega) rfl (fun r165 => ?_)
                  have b165 := hI124.a12 k114
                  refine V_icmp_ne (tgt := 222) dX4_settle_166 (by decide) (by omega) (by omega) (fun q166 => ?_) (fun q166 => ?_)
                  · refine V_iinc (lc' := [_, _, _, _, _]) dX4_settle_222 rfl (by decide) rfl ?_
                    refine V_goto (tgt := 124) dX4_settle_225 (by decide) ?_
                    exact ih124 (by omega) M124 ⟨by omega, by omega, by rw [sFlN_s k124l, ← k124e]; unfold sFl1; first | exact (if_neg (fun e => q166 e.2.1)).symm | exact (if_neg (fun e => q174 e.2.2.1)).symm | exact (if_neg (fun e => e.2.2.2 q189)).symm | exact (if_pos ⟨⟨q137, q152⟩, q166, q174, q189⟩).symm⟩ h hM hF
                  · refine V_aload_n dX4_settle_169 rfl ?_
                    refine V_iload_n dX4_settle_170 rfl ?_
                    refine V_mC (as := [_]) dX4_settle_171 c_RX4_151 rfl (by decide) rfl (Nat.le_of_ble_eq_true rfl) hM hF (T_X4_isFreeNow g M124 k124 (by omega) hI124 (by omega)) (fun h hM hF => ?_)
                    refine V_ifb_eq (tgt := 222) dX4_settle_174 (by decide) (fun q174 => ?_) (fun q174 => ?_)
                    · refine V_iinc (lc' := [_, _, _, _, _]) dX4_settle_222 rfl (by decide) rfl ?_
                      refine V_goto (tgt := 124) dX4_settle_225 (by decide) ?_
                      exact ih124 (by omega) M124 ⟨by omega, by omega, by rw [sFlN_s k124l, ← k124e]; unfold sFl1; first | exact (if_neg (fun e => q166 e.2.1)).symm | exact (if_neg (fun e => q174 e.2.2.1)).symm | exact (if_neg (fun e => e.2.2.2 q189)).symm | exact (if_pos ⟨⟨q137, q152⟩, q166, q174, q189⟩).symm⟩ h hM hF
                    · refine V_aload_n dX4_settle_177 rfl ?_
                      refine V_iload_n dX4_settle_178 rfl ?_
                      refine V_aload_n dX4_settle_179 rfl ?_
                      refine V_mgA (f := 11) (a := 30) dX4_settle_180 fg_RX4_43 rfl (by decide) hM rfl ?_
                      refine V_iload_n dX4_settle_183 rfl ?_
                      refine V_mi (f := 11) (n := 12) (w := M124 11 k114) dX4_settle_184 rfl rfl (by decide) rfl rfl hM (by omega) rfl (fun r184 => ?_)
                      have b184 := hI124.a11 k114
                      refine V_iload_n dX4_settle_185 rfl ?_
                      refine V_mC (as := [_, _, _]) dX4_settle_186 c_RX4_154 rfl (by decide) rfl (Nat.le_of_ble_eq_true rfl) hM hF (T_X4_hasTwinIn g M124 k114 (M124 11 k114) k124 (by omega) (by omega) (by omega) hI124 (by omega) (by omega) (by omega)) (fun h hM hF => ?_)
                      refine V_ifb_eq (tgt := 195) dX4_settle_189 (by decide) (fun q189 => ?_) (fun q189 => ?_)
                      · refine V_aload_n dX4_settle_195 rfl ?_
                        refine V_mgA (f := 10) (a := 29) dX4_settle_196 fg_RX4_40 rfl (by decide) hM rfl ?_
                        refine V_bipush dX4_settle_199 (by decide) ?_
                        refine V_iload_n dX4_settle_201 rfl ?_
                        refine V_imul dX4_settle_202 ?_
                        refine V_aload_n dX4_settle_203 rfl ?_
                        refine V_mgA (f := 11) (a := 30) dX4_settle_204 fg_RX4_43 rfl (by decide) hM rfl ?_
                        refine V_iload_n dX4_settle_207 rfl ?_
                        refine V_mi (f := 11) (n := 12) (w := M124 11 k114) dX4_settle_208 rfl rfl (by decide) rfl rfl hM (by omega) rfl (fun r208 => ?_)
                        have b208 := hI124.a11 k114
                        refine V_iadd dX4_settle_209 ?_
                        refine V_iload_n dX4_settle_210 rfl ?_
                        refine V_mis (f := 10) (n := 108) dX4_settle_211 rfl rfl (by decide) rfl rfl hM hF (by omega) (by omega) (fun h hM hF => ?_)
                        refine V_aload_n dX4_settle_212 rfl ?_
                        refine V_mgA (f := 11) (a := 30) dX4_settle_213 fg_RX4_43 rfl (by decide) hM rfl ?_
                        refine V_iload_n dX4_settle_216 rfl ?_
                        refine V_dup2 dX4_settle_217 rfl cat_R ?_
                        refine V_mi (f := 11) (n := 12) (w := M124 11 k114) dX4_settle_218 rfl rfl (by decide) rfl rfl hM (by omega) (by simp [sT, mset]) (fun r218 => ?_)
                        have b218 := hI124.a11 k114
                        refine V_iconst dX4_settle_219 ?_
                        refine V_iadd dX4_settle_220 ?_
                        refine V_mis (f := 11) (n := 12) dX4_settle_221 rfl rfl (by decide) rfl rfl hM hF (by omega) (by omega) (fun h hM hF => ?_)
                        refine V_iinc (lc' := [_, _, _, _, _]) dX4_settle_222 rfl (by decide) rfl ?_
                        refine V_goto (tgt := 124) dX4_settle_225 (by decide) ?_
                        exact ih124 (by omega) (mset (mset M124 10 ((9 * k114) + (M124 11 k114)) k124) 11 k114 ((M124 11 k114) + 1)) ⟨by omega, by omega, by rw [sFlN_s k124l, ← k124e]; unfold sFl1; first | exact (if_neg (fun e => q166 e.2.1)).symm | exact (if_neg (fun e => q174 e.2.2.1)).symm | exact (if_neg (fun e => e.2.2.2 q189)).symm | exact (if_pos ⟨⟨q137, q152⟩, q166, q174, q189⟩).symm⟩ h hM hF
                      · refine V_goto (tgt := 222) dX4_settle_192 (by decide) ?_
                        refine V_iinc (lc' := [_, _, _, _, _]) dX4_settle_222 rfl (by decide) rfl ?_
                        refine V_goto (tgt := 124) dX4_settle_225 (by decide) ?_
                        exact ih124 (by omega) M124 ⟨by omega, by omega, by rw [sFlN_s k124l, ← k124e]; unfold sFl1; first | exact (if_neg (fun e => q166 e.2.1)).symm | exact (if_neg (fun e => q174 e.2.2.1)).symm | exact (if_neg (fun e => e.2.2.2 q189)).symm | exact (if_pos ⟨⟨q137, q152⟩, q166, q174, q189⟩).symm⟩ h hM hF
          exact lp124 0 M114 ⟨by omega, by omega, rfl⟩ h hM hF
      exact lp114 0 M2 ⟨by omega, by omega, rfl⟩ h hM hF
    · refine V_aload_n dX4_settle_10 rfl ?_
      refine V_iload_n dX4_settle_11 rfl ?_
      refine V_mC (as := [_]) dX4_settle_12 c_RX4_133 rfl (by decide) rfl (Nat.le_of_ble_eq_true rfl) hM hF (T_X4_isInForce g M2 k2 (by omega) hI2 (by omega)) (fun h hM hF => ?_)
      refine V_ifb_ne (tgt := 21) dX4_settle_15 (by decide) (fun q15 => ?_) (fun q15 => ?_)
      · refine V_iconst dX4_settle_21 ?_
        refine V_istore_n (lc' := [_, _, _, _, _]) dX4_settle_22 (by decide) rfl ?_
        refine V_iconst dX4_settle_23 ?_
        refine V_istore_n (lc' := [_, _, _, _, _]) dX4_settle_24 (by decide) rfl ?_
        have b11 := hI2.a11 k2
        have lp25 : ∀ k25 : Int, ∀ n25 : Int, ∀ M25 : MS, (0 ≤ k25 ∧ k25 ≤ M2 11 k2 ∧ (M25, n25) = sLgN k2 M2 k25.toNat) → ∀ h, MR h M25 → FR h0 h → V g m_X4_settle 5 (Qm h0 none (sSettle M)) h 25 [xR 18, xI k2, xI n25, xI k25, xU] [] := by
          refine lp_up (M2 11 k2) (fun k25 ih25 => ?_)
          intro n25 M25 hk h hM hF
          obtain ⟨k25l, k25u, k25e⟩ := hk
          have oI25 := sLgN_o (p := k2) hI2 k25.toNat
          rw [← k25e] at oI25
          obtain ⟨o25, hI25, n25l, n25u⟩ := oI25
          dsimp only at o25 hI25 n25l n25u
          have e11 := o25 11 k2 (by decide)
          refine V_iload_n dX4_settle_25 rfl ?_
          refine V_aload_n dX4_settle_26 rfl ?_
          refine V_mgA (f := 11) (a := 30) dX4_settle_27 fg_RX4_43 rfl (by decide) hM rfl ?_
          refine V_iload_n dX4_settle_30 rfl ?_
          refine V_mi (f := 11) (n := 12) (w := M25 11 k2) dX4_settle_31 rfl rfl (by decide) rfl rfl hM (by omega) rfl (fun r31 => ?_)
          have b31 := hI25.a11 k2
          refine V_icmp_ge (tgt := 99) dX4_settle_32 (by decide) (by omega) (by omega) (fun q32 => ?_) (fun q32 => ?_)
          · refine V_aload_n dX4_settle_99 rfl ?_
            refine V_mgA (f := 11) (a := 30) dX4_settle_100 fg_RX4_43 rfl (by decide) hM rfl ?_
            refine V_iload_n dX4_settle_103 rfl ?_
            refine V_iload_n dX4_settle_104 rfl ?_
            refine V_mis (f := 11) (n := 12) dX4_settle_105 rfl rfl (by decide) rfl rfl hM hF (by omega) (by omega) (fun h hM hF => ?_)
            refine V_iinc (lc' := [_, _, _, _, _]) dX4_settle_106 rfl (by decide) rfl ?_
            refine V_goto (tgt := 2) dX4_settle_109 (by decide) ?_
            refine V_wk (lc' := [_, _, xU, xU, xU]) ⟨Or.inr rfl, Or.inr rfl, Or.inl rfl, Or.inl rfl, Or.inl rfl, trivial⟩ ?_
            exact ih2 (by omega) (mset M25 11 k2 n25) ⟨by omega, by omega, by first | (rw [sL1_s k2l, ← k2e]; unfold sLg; rw [if_neg q15]) | (rw [sL1_s k2l, ← k2e]; unfold sLg; rw [if_pos q15, show M2 11 k2 = k25 by omega, ← k25e])⟩ h hM hF
          · refine V_aload_n dX4_settle_35 rfl ?_
            refine V_mgA (f := 10) (a := 29) dX4_settle_36 fg_RX4_40 rfl (by decide) hM rfl ?_
            refine V_bipush dX4_settle_39 (by decide) ?_
            refine V_iload_n dX4_settle_41 rfl ?_
            refine V_imul dX4_settle_42 ?_
            refine V_iload_n dX4_settle_43 rfl ?_
            refine V_iadd dX4_settle_44 ?_
            refine V_mi (f := 10) (n := 108) (w := M25 10 ((9 * k2) + k25)) dX4_settle_45 rfl rfl (by decide) rfl rfl hM (by omega) rfl (fun r45 => ?_)
            have b45 := hI25.a10 ((9 * k2) + k25)
            refine V_istore (lc' := [_, _, _, _, _]) dX4_settle_46 (by decide) rfl ?_
            refine V_aload_n dX4_settle_48 rfl ?_
            refine V_iload dX4_settle_49 rfl ?_
            refine V_mC (as := [_]) dX4_settle_51 c_RX4_107 rfl (by decide) rfl (Nat.le_of_ble_eq_true rfl) hM hF (T_X4_kindOf g M25 (M25 10 ((9 * k2) + k25)) (by omega) hI25 (by omega)) (fun h hM hF => ?_)
            have t51 := sKd_r (M25 3 (M25 10 ((9 * k2) + k25)))
            refine V_aload_n dX4_settle_54 rfl ?_
            refine V_mgA (f := 12) (a := 31) dX4_settle_55 fg_RX4_46 rfl (by decide) hM rfl ?_
            refine V_iload_n dX4_settle_58 rfl ?_
            refine V_mc (f := 12) (n := 12) (w := M25 12 k2) dX4_settle_59 rfl rfl (by decide) rfl rfl hM (by omega) rfl (fun r59 => ?_)
            have b59 := hI25.a12 k2
            refine V_icmp_ne (tgt := 93) dX4_settle_60 (by decide) (by omega) (by omega) (fun q60 => ?_) (fun q60 => ?_)
            · refine V_iinc (lc' := [_, _, _, _, _]) dX4_settle_93 rfl (by decide) rfl ?_
              refine V_goto (tgt := 25) dX4_settle_96 (by decide) ?_
              refine V_wk (lc' := [_, _, _, _, xU]) ⟨Or.inr rfl, Or.inr rfl, Or.inr rfl, Or.inr rfl, Or.inl rfl, trivial⟩ ?_
              exact ih25 (by omega) n25 M25 ⟨by omega, by omega, by rw [sLgN_s k25l, ← k25e]; unfold sLg1; dsimp only; first | exact (if_neg (fun e => q60 e.1)).symm | exact (if_neg (fun e => e.2 q71)).symm | exact (if_pos ⟨q60, q71⟩).symm⟩ h hM hF
            · refine V_aload_n dX4_settle_63 rfl ?_
              refine V_iload_n dX4_settle_64 rfl ?_
              refine V_iload_n dX4_settle_65 rfl ?_
              refine V_iload dX4_settle_66 rfl ?_
              refine V_mC (as := [_, _, _]) dX4_settle_68 c_RX4_154 rfl (by decide) rfl (Nat.le_of_ble_eq_true rfl) hM hF (T_X4_hasTwinIn g M25 k2 n25 (M25 10 ((9 * k2) + k25)) (by omega) (by omega) (by omega) hI25 (by omega) (by omega) (by omega)) (fun h hM hF => ?_)
              refine V_ifb_eq (tgt := 77) dX4_settle_71 (by decide) (fun q71 => ?_) (fun q71 => ?_)
              · refine V_aload_n dX4_settle_77 rfl ?_
                refine V_mgA (f := 10) (a := 29) dX4_settle_78 fg_RX4_40 rfl (by decide) hM rfl ?_
                refine V_bipush dX4_settle_81 (by decide) ?_
                refine V_iload_n dX4_settle_83 rfl ?_
                refine V_imul dX4_settle_84 ?_
                refine V_iload_n dX4_settle_85 rfl ?_
                refine V_iadd dX4_settle_86 ?_
                refine V_iload dX4_settle_87 rfl ?_
                refine V_mis (f := 10) (n := 108) dX4_settle_89 rfl rfl (by decide) rfl rfl hM hF (by omega) (by omega) (fun h hM hF => ?_)
                refine V_iinc (lc' := [_, _, _, _, _]) dX4_settle_90 rfl (by decide) rfl ?_
                refine V_iinc (lc' := [_, _, _, _, _]) dX4_settle_93 rfl (by decide) rfl ?_
                refine V_goto (tgt := 25) dX4_settle_96 (by decide) ?_
                refine V_wk (lc' := [_, _, _, _, xU]) ⟨Or.inr rfl, Or.inr rfl, Or.inr rfl, Or.inr rfl, Or.inl rfl, trivial⟩ ?_
                exact ih25 (by omega) (n25 + 1) (mset M25 10 ((9 * k2) + n25) (M25 10 ((9 * k2) + k25))) ⟨by omega, by omega, by rw [sLgN_s k25l, ← k25e]; unfold sLg1; dsimp only; first | exact (if_neg (fun e => q60 e.1)).symm | exact (if_neg (fun e => e.2 q71)).symm | exact (if_pos ⟨q60, q71⟩).symm⟩ h hM hF
              · refine V_goto (tgt := 93) dX4_settle_74 (by decide) ?_
                refine V_iinc (lc' := [_, _, _, _, _]) dX4_settle_93 rfl (by decide) rfl ?_
                refine V_goto (tgt := 25) dX4_settle_96 (by decide) ?_
                refine V_wk (lc' := [_, _, _, _, xU]) ⟨Or.inr rfl, Or.inr rfl, Or.inr rfl, Or.inr rfl, Or.inl rfl, trivial⟩ ?_
                exact ih25 (by omega) n25 M25 ⟨by omega, by omega, by rw [sLgN_s k25l, ← k25e]; unfold sLg1; dsimp only; first | exact (if_neg (fun e => q60 e.1)).symm | exact (if_neg (fun e => e.2 q71)).symm | exact (if_pos ⟨q60, q71⟩).symm⟩ h hM hF
        exact lp25 0 0 M2 ⟨by omega, by omega, rfl⟩ h hM hF
      · refine V_goto (tgt := 106) dX4_settle_18 (by decide) ?_
        refine V_iinc (lc' := [_, _, _, _, _]) dX4_settle_106 rfl (by decide) rfl ?_
        refine V_goto (tgt := 2) dX4_settle_109 (by decide) ?_
        exact ih2 (by omega) M2 ⟨by omega, by omega, by first | (rw [sL1_s k2l, ← k2e]; unfold sLg; rw [if_neg q15]) | (rw [sL1_s k2l, ← k2e]; unfold sLg; rw [if_pos q15, show M2 11 k2 = k25 by omega, ← k25e])⟩ h hM hF
  exact lp2 0 M ⟨by omega, by omega, rfl⟩ h hM hF

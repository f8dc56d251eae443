-- deps: 09 10 11 12 21 20 30 31 32 33 34 35 36 37
theorem T_X4_isCandidate (g : GP) (M : MS) (q : Int) (kd : Int) (sz : Int) (r_q : -2147483648 ≤ q ∧ q ≤ 2147483647) (r_kd : -2147483648 ≤ kd ∧ kd ≤ 2147483647) (r_sz : -2147483648 ≤ sz ∧ sz ≤ 2147483647) (hI : IM M) (h1 : 0 ≤ q ∧ q ≤ 39) (h2 : 0 ≤ sz ∧ sz ≤ 27) (h3 : M 23 0 ≤ 29) : TM g m_X4_isCandidate 5 [xI q, xI kd, xI sz] M (some (xI (pI (sOk 16 (27 * M 23 0) M kd sz q)))) (M) := by
  refine TM.of (by decide) rfl (fun v hv => ?_) (Nat.le_of_ble_eq_true rfl) ?_
  · simp only [List.mem_cons, List.not_mem_nil, or_false] at hv
    rcases hv with rfl | rfl | rfl <;> exact ⟨_, rfl⟩
  intro h0 h hM hF
  change V g m_X4_isCandidate 5 _ h 0 [xR 18, xI q, xI kd, xI sz, xU, xU, xU] []
  obtain ⟨⟨i19, i20, i21, i22, i23, i24, i25, i26, i29⟩, iA⟩ := id hI
  refine V_aload_n dX4_isCandidate_0 rfl ?_
  refine V_iload_n dX4_isCandidate_1 rfl ?_
  refine V_mC (as := [_]) dX4_isCandidate_2 c_RX4_107 rfl (by decide) rfl (Nat.le_of_ble_eq_true rfl) hM hF (T_X4_kindOf g M q (by omega) hI (by omega)) (fun h hM hF => ?_)
  have t2 := sKd_r (M 3 q)
  refine V_iload_n dX4_isCandidate_5 rfl ?_
  refine V_icmp_ne (tgt := 21) dX4_isCandidate_6 (by decide) (by omega) (by omega) (fun q6 => ?_) (fun q6 => ?_)
  · refine V_iconst dX4_isCandidate_21 ?_
    refine V_istore (lc' := [_, _, _, _, _, _, _]) dX4_isCandidate_22 (by decide) rfl ?_
    refine V_iconst dX4_isCandidate_24 ?_
    refine V_istore (lc' := [_, _, _, _, _, _, _]) dX4_isCandidate_25 (by decide) rfl ?_
    refine V_iload dX4_isCandidate_27 rfl ?_
    refine V_iload_n dX4_isCandidate_29 rfl ?_
    refine V_icmp_ge (tgt := 84) dX4_isCandidate_30 (by decide) (by omega) (by omega) (fun q30 => ?_) (fun q30 => ?_)
    · refine V_iload dX4_isCandidate_84 rfl ?_
      refine V_zret (by first | exact pI_01 _ | omega) dX4_isCandidate_86 rfl ?_
      exact mret hM hF (pI_f (fun w => by first | exact q6 w.1.1 | exact q14 w.1.2)).symm rfl
    · refine V_iload dX4_isCandidate_33 rfl ?_
      refine V_if_eq (tgt := 84) dX4_isCandidate_35 (by decide) (by decide) (fun _ => ?_) (fun q35 => absurd q35 (by decide))
      refine V_iload dX4_isCandidate_84 rfl ?_
      refine V_zret (by first | exact pI_01 _ | omega) dX4_isCandidate_86 rfl ?_
      exact mret hM hF (pI_f (fun w => by first | exact q6 w.1.1 | exact q14 w.1.2)).symm rfl
  · refine V_aload_n dX4_isCandidate_9 rfl ?_
    refine V_iload_n dX4_isCandidate_10 rfl ?_
    refine V_mC (as := [_]) dX4_isCandidate_11 c_RX4_151 rfl (by decide) rfl (Nat.le_of_ble_eq_true rfl) hM hF (T_X4_isFreeNow g M q (by omega) hI (by omega)) (fun h hM hF => ?_)
    refine V_ifb_eq (tgt := 21) dX4_isCandidate_14 (by decide) (fun q14 => ?_) (fun q14 => ?_)
    · refine V_iconst dX4_isCandidate_21 ?_
      refine V_istore (lc' := [_, _, _, _, _, _, _]) dX4_isCandidate_22 (by decide) rfl ?_
      refine V_iconst dX4_isCandidate_24 ?_
      refine V_istore (lc' := [_, _, _, _, _, _, _]) dX4_isCandidate_25 (by decide) rfl ?_
      refine V_iload dX4_isCandidate_27 rfl ?_
      refine V_iload_n dX4_isCandidate_29 rfl ?_
      refine V_icmp_ge (tgt := 84) dX4_isCandidate_30 (by decide) (by omega) (by omega) (fun q30 => ?_) (fun q30 => ?_)
      · refine V_iload dX4_isCandidate_84 rfl ?_
        refine V_zret (by first | exact pI_01 _ | omega) dX4_isCandidate_86 rfl ?_
        exact mret hM hF (pI_f (fun w => by first | exact q6 w.1.1 | exact q14 w.1.2)).symm rfl
      · refine V_iload dX4_isCandidate_33 rfl ?_
        refine V_if_eq (tgt := 84) dX4_isCandidate_35 (by decide) (by decide) (fun _ => ?_) (fun q35 => absurd q35 (by decide))
        refine V_iload dX4_isCandidate_84 rfl ?_
        refine V_zret (by first | exact pI_01 _ | omega) dX4_isCandidate_86 rfl ?_
        exact mret hM hF (pI_f (fun w => by first | exact q6 w.1.1 | exact q14 w.1.2)).symm rfl
    · refine V_iconst dX4_isCandidate_17 ?_
      refine V_goto (tgt := 22) dX4_isCandidate_18 (by decide) ?_
      refine V_istore (lc' := [_, _, _, _, _, _, _]) dX4_isCandidate_22 (by decide) rfl ?_
      refine V_iconst dX4_isCandidate_24 ?_
      refine V_istore (lc' := [_, _, _, _, _, _, _]) dX4_isCandidate_25 (by decide) rfl ?_
      have lp27 : ∀ k27 : Int, ∀ n27 : Int, (0 ≤ k27 ∧ k27 ≤ sz ∧ ((n27 = 1 ∧ ∀ j : Int, 0 ≤ j → j < k27 → M 16 (27 * M 23 0 + j) ≠ q ∧ ¬ sTw M (M 16 (27 * M 23 0 + j)) q) ∨ (n27 = 0 ∧ ¬ ∀ j : Int, 0 ≤ j → j < sz → M 16 (27 * M 23 0 + j) ≠ q ∧ ¬ sTw M (M 16 (27 * M 23 0 + j)) q))) → ∀ h, MR h M → FR h0 h → V g m_X4_isCandidate 5 (Qm h0 (some (xI (pI (sOk 16 (27 * M 23 0) M kd sz q)))) (M)) h 27 [xR 18, xI q, xI kd, xI sz, xI n27, xI k27, xU] [] := by
        refine lp_up (sz) (fun k27 ih27 => ?_)
        intro n27 hk h hM hF
        obtain ⟨k27l, k27u, k27A⟩ := hk
        refine V_iload dX4_isCandidate_27 rfl ?_
        refine V_iload_n dX4_isCandidate_29 rfl ?_
        refine V_icmp_ge (tgt := 84) dX4_isCandidate_30 (by decide) (by omega) (by omega) (fun q30 => ?_) (fun q30 => ?_)
        · refine V_iload dX4_isCandidate_84 rfl ?_
          refine V_zret (by first | exact pI_01 _ | omega) dX4_isCandidate_86 rfl ?_
          refine mret hM hF ?_ rfl
          rcases k27A with ⟨e, kB⟩ | ⟨e, kB⟩
          · rw [e, pI_t ⟨⟨q6, q14⟩, fun j a b => kB j a (by omega)⟩]
          · rw [e, pI_f (fun w => kB w.2)]
        · refine V_iload dX4_isCandidate_33 rfl ?_
          refine V_if_eq (tgt := 84) dX4_isCandidate_35 (by decide) (by omega) (fun q35 => ?_) (fun q35 => ?_)
          · refine V_iload dX4_isCandidate_84 rfl ?_
            refine V_zret (by first | exact pI_01 _ | omega) dX4_isCandidate_86 rfl ?_
            refine mret hM hF ?_ rfl
            rcases k27A with ⟨e, kB⟩ | ⟨e, kB⟩
            · rw [e, pI_t ⟨⟨q6, q14⟩, fun j a b => kB j a (by omega)⟩]
            · rw [e, pI_f (fun w => kB w.2)]
          · obtain ⟨n1, kB⟩ := k27A.resolve_right (fun e => q35 e.1)
            refine V_aload_n dX4_isCandidate_38 rfl ?_
            refine V_mgA (f := 16) (a := 35) dX4_isCandidate_39 fg_RX4_60 rfl (by decide) hM rfl ?_
            refine V_bipush dX4_isCandidate_42 (by decide) ?_
            refine V_aload_n dX4_isCandidate_44 rfl ?_
            refine V_mg (f := 23) (z := M 23 0) dX4_isCandidate_45 fg_RX4_86 rfl (by decide) hM rfl (fun r45 => ?_)
            refine V_imul dX4_isCandidate_48 ?_
            refine V_iload dX4_isCandidate_49 rfl ?_
            refine V_iadd dX4_isCandidate_51 ?_
            refine V_mi (f := 16) (n := 810) (w := M 16 ((27 * (M 23 0)) + k27)) dX4_isCandidate_52 rfl rfl (by decide) rfl rfl hM (by omega) rfl (fun r52 => ?_)
            have b52 := hI.a16 ((27 * (M 23 0)) + k27)
            refine V_istore (lc' := [_, _, _, _, _, _, _]) dX4_isCandidate_53 (by decide) rfl ?_
            refine V_iload dX4_isCandidate_55 rfl ?_
            refine V_iload_n dX4_isCandidate_57 rfl ?_
            refine V_icmp_eq (tgt := 75) dX4_isCandidate_58 (by decide) (by omega) (by omega) (fun q58 => ?_) (fun q58 => ?_)
            · refine V_iconst dX4_isCandidate_75 ?_
              refine V_istore (lc' := [_, _, _, _, _, _, _]) dX4_isCandidate_76 (by decide) rfl ?_
              refine V_iinc (lc' := [_, _, _, _, _, _, _]) dX4_isCandidate_78 rfl (by decide) rfl ?_
              refine V_goto (tgt := 27) dX4_isCandidate_81 (by decide) ?_
              refine V_wk (lc' := [_, _, _, _, _, _, xU]) ⟨Or.inr rfl, Or.inr rfl, Or.inr rfl, Or.inr rfl, Or.inr rfl, Or.inr rfl, Or.inl rfl, trivial⟩ ?_
              exact ih27 (by omega) 0 ⟨by omega, by omega, by first | exact Or.inl ⟨rfl, all_succ kB ⟨q58, q68⟩⟩ | exact Or.inr ⟨rfl, fun e => (e k27 k27l (by omega)).1 q58⟩ | exact Or.inr ⟨rfl, fun e => (e k27 k27l (by omega)).2 q68⟩⟩ h hM hF
            · refine V_aload_n dX4_isCandidate_61 rfl ?_
              refine V_iload dX4_isCandidate_62 rfl ?_
              refine V_iload_n dX4_isCandidate_64 rfl ?_
              refine V_mC (as := [_, _]) dX4_isCandidate_65 c_RX4_99 rfl (by decide) rfl (Nat.le_of_ble_eq_true rfl) hM hF (T_X4_areTwin g M (M 16 ((27 * (M 23 0)) + k27)) q (by omega) (by omega) (by omega) (by omega)) (fun h hM hF => ?_)
              refine V_ifb_ne (tgt := 75) dX4_isCandidate_68 (by decide) (fun q68 => ?_) (fun q68 => ?_)
              · refine V_iconst dX4_isCandidate_75 ?_
                refine V_istore (lc' := [_, _, _, _, _, _, _]) dX4_isCandidate_76 (by decide) rfl ?_
                refine V_iinc (lc' := [_, _, _, _, _, _, _]) dX4_isCandidate_78 rfl (by decide) rfl ?_
                refine V_goto (tgt := 27) dX4_isCandidate_81 (by decide) ?_
                refine V_wk (lc' := [_, _, _, _, _, _, xU]) ⟨Or.inr rfl, Or.inr rfl, Or.inr rfl, Or.inr rfl, Or.inr rfl, Or.inr rfl, Or.inl rfl, trivial⟩ ?_
                exact ih27 (by omega) 0 ⟨by omega, by omega, by first | exact Or.inl ⟨rfl, all_succ kB ⟨q58, q68⟩⟩ | exact Or.inr ⟨rfl, fun e => (e k27 k27l (by omega)).1 q58⟩ | exact Or.inr ⟨rfl, fun e => (e k27 k27l (by omega)).2 q68⟩⟩ h hM hF
              · refine V_iconst dX4_isCandidate_71 ?_
                refine V_goto (tgt := 76) dX4_isCandidate_72 (by decide) ?_
                refine V_istore (lc' := [_, _, _, _, _, _, _]) dX4_isCandidate_76 (by decide) rfl ?_
                refine V_iinc (lc' := [_, _, _, _, _, _, _]) dX4_isCandidate_78 rfl (by decide) rfl ?_
                refine V_goto (tgt := 27) dX4_isCandidate_81 (by decide) ?_
                refine V_wk (lc' := [_, _, _, _, _, _, xU]) ⟨Or.inr rfl, Or.inr rfl, Or.inr rfl, Or.inr rfl, Or.inr rfl, Or.inr rfl, Or.inl rfl, trivial⟩ ?_
                exact ih27 (by omega) 1 ⟨by omega, by omega, by first | exact Or.inl ⟨rfl, all_succ kB ⟨q58, q68⟩⟩ | exact Or.inr ⟨rfl, fun e => (e k27 k27l (by omega)).1 q58⟩ | exact Or.inr ⟨rfl, fun e => (e k27 k27l (by omega)).2 q68⟩⟩ h hM hF
      exact lp27 0 1 ⟨by omega, by omega, Or.inl ⟨rfl, fun j a b => absurd b (by omega)⟩⟩ h hM hF
theorem T_X4_isTrial (g : GP) (M : MS) (q : Int) (kd : Int) (sz : Int) (r_q : -2147483648 ≤ q ∧ q ≤ 2147483647) (r_kd : -2147483648 ≤ kd ∧ kd ≤ 2147483647) (r_sz : -2147483648 ≤ sz ∧ sz ≤ 2147483647) (hI : IM M) (h1 : 0 ≤ q ∧ q ≤ 39) (h2 : 0 ≤ sz ∧ sz ≤ 27) : TM g m_X4_isTrial 5 [xI q, xI kd, xI sz] M (some (xI (pI (sOk 30 (0) M kd sz q)))) (M) := by
  refine TM.of (by decide) rfl (fun v hv => ?_) (Nat.le_of_ble_eq_true rfl) ?_
  · simp only [List.mem_cons, List.not_mem_nil, or_false] at hv
    rcases hv with rfl | rfl | rfl <;> exact ⟨_, rfl⟩
  intro h0 h hM hF
  change V g m_X4_isTrial 5 _ h 0 [xR 18, xI q, xI kd, xI sz, xU, xU] []
  obtain ⟨⟨i19, i20, i21, i22, i23, i24, i25, i26, i29⟩, iA⟩ := id hI
  refine V_aload_n dX4_isTrial_0 rfl ?_
  refine V_iload_n dX4_isTrial_1 rfl ?_
  refine V_mC (as := [_]) dX4_isTrial_2 c_RX4_107 rfl (by decide) rfl (Nat.le_of_ble_eq_true rfl) hM hF (T_X4_kindOf g M q (by omega) hI (by omega)) (fun h hM hF => ?_)
  have t2 := sKd_r (M 3 q)
  refine V_iload_n dX4_isTrial_5 rfl ?_
  refine V_icmp_ne (tgt := 21) dX4_isTrial_6 (by decide) (by omega) (by omega) (fun q6 => ?_) (fun q6 => ?_)
  · refine V_iconst dX4_isTrial_21 ?_
    refine V_istore (lc' := [_, _, _, _, _, _]) dX4_isTrial_22 (by decide) rfl ?_
    refine V_iconst dX4_isTrial_24 ?_
    refine V_istore (lc' := [_, _, _, _, _, _]) dX4_isTrial_25 (by decide) rfl ?_
    refine V_iload dX4_isTrial_27 rfl ?_
    refine V_iload_n dX4_isTrial_29 rfl ?_
    refine V_icmp_ge (tgt := 77) dX4_isTrial_30 (by decide) (by omega) (by omega) (fun q30 => ?_) (fun q30 => ?_)
    · refine V_iload dX4_isTrial_77 rfl ?_
      refine V_zret (by first | exact pI_01 _ | omega) dX4_isTrial_79 rfl ?_
      exact mret hM hF (pI_f (fun w => by first | exact q6 w.1.1 | exact q14 w.1.2)).symm rfl
    · refine V_iload dX4_isTrial_33 rfl ?_
      refine V_if_eq (tgt := 77) dX4_isTrial_35 (by decide) (by decide) (fun _ => ?_) (fun q35 => absurd q35 (by decide))
      refine V_iload dX4_isTrial_77 rfl ?_
      refine V_zret (by first | exact pI_01 _ | omega) dX4_isTrial_79 rfl ?_
      exact mret hM hF (pI_f (fun w => by first | exact q6 w.1.1 | exact q14 w.1.2)).symm rfl
  · refine V_aload_n dX4_isTrial_9 rfl ?_
    refine V_iload_n dX4_isTrial_10 rfl ?_
    refine V_mC (as := [_]) dX4_isTrial_11 c_RX4_151 rfl (by decide) rfl (Nat.le_of_ble_eq_true rfl) hM hF (T_X4_isFreeNow g M q (by omega) hI (by omega)) (fun h hM hF => ?_)
    refine V_ifb_eq (tgt := 21) dX4_isTrial_14 (by decide) (fun q14 => ?_) (fun q14 => ?_)
    · refine V_iconst dX4_isTrial_21 ?_
      refine V_istore (lc' := [_, _, _, _, _, _]) dX4_isTrial_22 (by decide) rfl ?_
      refine V_iconst dX4_isTrial_24 ?_
      refine V_istore (lc' := [_, _, _, _, _, _]) dX4_isTrial_25 (by decide) rfl ?_
      refine V_iload dX4_isTrial_27 rfl ?_
      refine V_iload_n dX4_isTrial_29 rfl ?_
      refine V_icmp_ge (tgt := 77) dX4_isTrial_30 (by decide) (by omega) (by omega) (fun q30 => ?_) (fun q30 => ?_)
      · refine V_iload dX4_isTrial_77 rfl ?_
        refine V_zret (by first | exact pI_01 _ | omega) dX4_isTrial_79 rfl ?_
        exact mret hM hF (pI_f (fun w => by first | exact q6 w.1.1 | exact q14 w.1.2)).symm rfl
      · refine V_iload dX4_isTrial_33 rfl ?_
        refine V_if_eq (tgt := 77) dX4_isTrial_35 (by decide) (by decide) (fun _ => ?_) (fun q35 => absurd q35 (by decide))
        refine V_iload dX4_isTrial_77 rfl ?_
        refine V_zret (by first | exact pI_01 _ | omega) dX4_isTrial_79 rfl ?_
        exact mret hM hF (pI_f (fun w => by first | exact q6 w.1.1 | exact q14 w.1.2)).symm rfl
    · refine V_iconst dX4_isTrial_17 ?_
      refine V_goto (tgt := 22) dX4_isTrial_18 (by decide) ?_
      refine V_istore (lc' := [_, _, _, _, _, _]) dX4_isTrial_22 (by decide) rfl ?_
      refine V_iconst dX4_isTrial_24 ?_
      refine V_istore (lc' := [_, _, _, _, _, _]) dX4_isTrial_25 (by decide) rfl ?_
      have lp27 : ∀ k27 : Int, ∀ n27 : Int, (0 ≤ k27 ∧ k27 ≤ sz ∧ ((n27 = 1 ∧ ∀ j : Int, 0 ≤ j → j < k27 → M 30 (0 + j) ≠ q ∧ ¬ sTw M (M 30 (0 + j)) q) ∨ (n27 = 0 ∧ ¬ ∀ j : Int, 0 ≤ j → j < sz → M 30 (0 + j) ≠ q ∧ ¬ sTw M (M 30 (0 + j)) q))) → ∀ h, MR h M → FR h0 h → V g m_X4_isTrial 5 (Qm h0 (some (xI (pI (sOk 30 (0) M kd sz q)))) (M)) h 27 [xR 18, xI q, xI kd, xI sz, xI n27, xI k27] [] := by
        refine lp_up (sz) (fun k27 ih27 => ?_)
        intro n27 hk h hM hF
        obtain ⟨k27l, k27u, k27A⟩ := hk
        refine V_iload dX4_isTrial_27 rfl ?_
        refine V_iload_n dX4_isTrial_29 rfl ?_
        refine V_icmp_ge (tgt := 77) dX4_isTrial_30 (by decide) (by omega) (by omega) (fun q30 => ?_) (fun q30 => ?_)
        · refine V_iload dX4_isTrial_77 rfl ?_
          refine V_zret (by first | exact pI_01 _ | omega) dX4_isTrial_79 rfl ?_
          refine mret hM hF ?_ rfl
          rcases k27A with ⟨e, kB⟩ | ⟨e, kB⟩
          · rw [e, pI_t ⟨⟨q6, q14⟩, fun j a b => kB j a (by omega)⟩]
          · rw [e, pI_f (fun w => kB w.2)]
        · refine V_iload dX4_isTrial_33 rfl ?_
          refine V_if_eq (tgt := 77) dX4_isTrial_35 (by decide) (by omega) (fun q35 => ?_) (fun q35 => ?_)
          · refine V_iload dX4_isTrial_77 rfl ?_
            refine V_zret (by first | exact pI_01 _ | omega) dX4_isTrial_79 rfl ?_
            refine mret hM hF ?_ rfl
            rcases k27A with ⟨e, kB⟩ | ⟨e, kB⟩
            · rw [e, pI_t ⟨⟨q6, q14⟩, fun j a b => kB j a (by omega)⟩]
            · rw [e, pI_f (fun w => kB w.2)]
          · obtain ⟨n1, kB⟩ := k27A.resolve_right (fun e => q35 e.1)
            refine V_aload_n dX4_isTrial_38 rfl ?_
            refine V_mgA (f := 30) (a := 38) dX4_isTrial_39 fg_RX4_69 rfl (by decide) hM rfl ?_
            refine V_iload dX4_isTrial_42 rfl ?_
            refine V_mi (f := 30) (n := 27) (w := M 30 (0 + k27)) dX4_isTrial_44 rfl rfl (by decide) rfl rfl hM (by omega) (by rw [Int.zero_add]) (fun r44 => ?_)
            have b44 := hI.a30 (0 + k27)
            refine V_iload_n dX4_isTrial_45 rfl ?_
            refine V_icmp_eq (tgt := 68) dX4_isTrial_46 (by decide) (by omega) (by omega) (fun q46 => ?_) (fun q46 => ?_)
            · refine V_iconst dX4_isTrial_68 ?_
              refine V_istore (lc' := [_, _, _, _, _, _]) dX4_isTrial_69 (by decide) rfl ?_
              refine V_iinc (lc' := [_, _, _, _, _, _]) dX4_isTrial_71 rfl (by decide) rfl ?_
              refine V_goto (tgt := 27) dX4_isTrial_74 (by decide) ?_
              exact ih27 (by omega) 0 ⟨by omega, by omega, by first | exact Or.inl ⟨rfl, all_succ kB ⟨q46, q61⟩⟩ | exact Or.inr ⟨rfl, fun e => (e k27 k27l (by omega)).1 q46⟩ | exact Or.inr ⟨rfl, fun e => (e k27 k27l (by omega)).2 q61⟩⟩ h hM hF
            · refine V_aload_n dX4_isTrial_49 rfl ?_
              refine V_aload_n dX4_isTrial_50 rfl ?_
              refine V_mgA (f := 30) (a := 38) dX4_isTrial_51 fg_RX4_69 rfl (by decide) hM rfl ?_
              refine V_iload dX4_isTrial_54 rfl ?_
              refine V_mi (f := 30) (n := 27) (w := M 30 (0 + k27)) dX4_isTrial_56 rfl rfl (by decide) rfl rfl hM (by omega) (by rw [Int.zero_add]) (fun r56 => ?_)
              have b56 := hI.a30 (0 + k27)
              refine V_iload_n dX4_isTrial_57 rfl ?_
              refine V_mC (as := [_, _]) dX4_isTrial_58 c_RX4_99 rfl (by decide) rfl (Nat.le_of_ble_eq_true rfl) hM hF (T_X4_areTwin g M (M 30 (0 + k27)) q (by omega) (by omega) (by omega) (by omega)) (fun h hM hF => ?_)
              refine V_ifb_ne (tgt := 68) dX4_isTrial_61 (by decide) (fun q61 => ?_) (fun q61 => ?_)
              · refine V_iconst dX4_isTrial_68 ?_
                refine V_istore (lc' := [_, _, _, _, _, _]) dX4_isTrial_69 (by decide) rfl ?_
                refine V_iinc (lc' := [_, _, _, _, _, _]) dX4_isTrial_71 rfl (by decide) rfl ?_
                refine V_goto (tgt := 27) dX4_isTrial_74 (by decide) ?_
                exact ih27 (by omega) 0 ⟨by omega, by omega, by first | exact Or.inl ⟨rfl, all_succ kB ⟨q46, q61⟩⟩ | exact Or.inr ⟨rfl, fun e => (e k27 k27l (by omega)).1 q46⟩ | exact Or.inr ⟨rfl, fun e => (e k27 k27l (by omega)).2 q61⟩⟩ h hM hF
              · refine V_iconst dX4_isTrial_64 ?_
                refine V_goto (tgt := 69) dX4_isTrial_65 (by decide) ?_
                refine V_istore (lc' := [_, _, _, _, _, _]) dX4_isTrial_69 (by decide) rfl ?_
                refine V_iinc (lc' := [_, _, _, _, _, _]) dX4_isTrial_71 rfl (by decide) rfl ?_
                refine V_goto (tgt := 27) dX4_isTrial_74 (by decide) ?_
                exact ih27 (by omega) 1 ⟨by omega, by omega, by first | exact Or.inl ⟨rfl, all_succ kB ⟨q46, q61⟩⟩ | exact Or.inr ⟨rfl, fun e => (e k27 k27l (by omega)).1 q46⟩ | exact Or.inr ⟨rfl, fun e => (e k27 k27l (by omega)).2 q61⟩⟩ h hM hF
      exact lp27 0 1 ⟨by omega, by omega, Or.inl ⟨rfl, fun j a b => absurd b (by omega)⟩⟩ h hM hF
theorem T_X4_candidate (g : GP) (M : MS) (pl : Int) (kd : Int) (sz : Int) (r_pl : -2147483648 ≤ pl ∧ pl ≤ 2147483647) (r_kd : -2147483648 ≤ kd ∧ kd ≤ 2147483647) (r_sz : -2147483648 ≤ sz ∧ sz ≤ 2147483647) (hI : IM M) (h1 : 0 ≤ sz ∧ sz ≤ 27) (h3 : M 23 0 ≤ 29) : TM g m_X4_candidate 6 [xI pl, xI kd, xI sz] M (some (xI (s_cand M pl kd sz))) (M) := by
  refine TM.of (by decide) rfl (fun v hv => ?_) (Nat.le_of_ble_eq_true rfl) ?_
  · simp only [List.mem_cons, List.not_mem_nil, or_false] at hv
    rcases hv with rfl | rfl | rfl <;> exact ⟨_, rfl⟩
  intro h0 h hM hF
  change V g m_X4_candidate 6 _ h 0 [xR 18, xI pl, xI kd, xI sz, xU, xU] []
  obtain ⟨⟨i19, i20, i21, i22, i23, i24, i25, i26, i29⟩, iA⟩ := id hI
  refine V_iconst dX4_candidate_0 ?_
  refine V_istore (lc' := [_, _, _, _, _, _]) dX4_candidate_1 (by decide) rfl ?_
  refine V_iconst dX4_candidate_3 ?_
  refine V_istore (lc' := [_, _, _, _, _, _]) dX4_candidate_4 (by decide) rfl ?_
  have lp6 : ∀ k6 : Int, ∀ n6 : Int, (0 ≤ k6 ∧ k6 ≤ M 20 0 ∧ n6 = sCc 16 (27 * M 23 0) M kd sz k6.toNat ∧ sPick 16 (27 * M 23 0) M kd sz pl k6.toNat = -1) → ∀ h, MR h M → FR h0 h → V g m_X4_candidate 6 (Qm h0 (some (xI (s_cand M pl kd sz))) (M)) h 6 [xR 18, xI pl, xI kd, xI sz, xI n6, xI k6] [] := by
    refine lp_up (M 20 0) (fun k6 ih6 => ?_)
    intro n6 hk h hM hF
    obtain ⟨k6l, k6u, k6e, k6p⟩ := hk
    have cr := sCc_r (f := 16) (o := 27 * M 23 0) (M := M) (kd := kd) (sz := sz) k6.toNat
    refine V_iload dX4_candidate_6 rfl ?_
    refine V_aload_n dX4_candidate_8 rfl ?_
    refine V_mg (f := 20) (z := M 20 0) dX4_candidate_9 fg_RX4_76 rfl (by decide) hM rfl (fun r9 => ?_)
    refine V_icmp_ge (tgt := 47) dX4_candidate_12 (by decide) (by omega) (by omega) (fun q12 => ?_) (fun q12 => ?_)
    · refine V_iload_n dX4_candidate_47 rfl ?_
      refine V_if_ge (tgt := 56) dX4_candidate_48 (by decide) (by omega) (fun q48 => ?_) (fun q48 => ?_)
      · refine V_iconst dX4_candidate_56 ?_
        refine V_iret dX4_candidate_57 rfl ?_
        refine mret hM hF ?_ rfl
        unfold s_cand
        rw [show M 20 0 = k6 by omega, k6p, if_neg (fun w => w rfl)]
        first | rw [if_neg (by omega)] | rw [if_pos q48, ← k6e]
      · refine V_iload dX4_candidate_51 rfl ?_
        refine V_goto (tgt := 57) dX4_candidate_53 (by decide) ?_
        refine V_iret dX4_candidate_57 rfl ?_
        refine mret hM hF ?_ rfl
        unfold s_cand
        rw [show M 20 0 = k6 by omega, k6p, if_neg (fun w => w rfl)]
        first | rw [if_neg (by omega)] | rw [if_pos q48, ← k6e]
    · refine V_aload_n dX4_candidate_15 rfl ?_
      refine V_iload dX4_candidate_16 rfl ?_
      refine V_iload_n dX4_candidate_18 rfl ?_
      refine V_iload_n dX4_candidate_19 rfl ?_
      refine V_mC (as := [_, _, _]) dX4_candidate_20 c_RX4_157 rfl (by decide) rfl (Nat.le_of_ble_eq_true rfl) hM hF (T_X4_isCandidate g M k6 kd sz (by omega) (by omega) (by omega) hI (by omega) (by omega) (by omega)) (fun h hM hF => ?_)
      refine V_ifb_ne (tgt := 29) dX4_candidate_23 (by decide) (fun q23 => ?_) (fun q23 => ?_)
      · refine V_iload dX4_candidate_29 rfl ?_
        refine V_iload_n dX4_candidate_31 rfl ?_
        refine V_icmp_ne (tgt := 38) dX4_candidate_32 (by decide) (by omega) (by omega) (fun q32 => ?_) (fun q32 => ?_)
        · refine V_iinc (lc' := [_, _, _, _, _, _]) dX4_candidate_38 rfl (by decide) rfl ?_
          refine V_iinc (lc' := [_, _, _, _, _, _]) dX4_candidate_41 rfl (by decide) rfl ?_
          refine V_goto (tgt := 6) dX4_candidate_44 (by decide) ?_
          exact ih6 (by omega) (n6 + 1) ⟨by omega, by omega, by rw [sCc_s k6l, ← k6e]; first | (rw [if_neg q23]; omega) | rw [if_pos q23], by rw [sPick_s k6l, k6p, if_neg (fun w => w rfl)]; exact if_neg (fun w => by first | exact q23 w.1 | (have := w.2; omega))⟩ h hM hF
        · refine V_iload dX4_candidate_35 rfl ?_
          refine V_iret dX4_candidate_37 rfl ?_
          have eP : sPick 16 (27 * M 23 0) M kd sz pl (k6 + 1).toNat = k6 := by rw [sPick_s k6l, k6p, if_neg (fun w => w rfl), if_pos ⟨q23, by omega⟩]
          have eQ := sPick_st eP (by omega) (M 20 0).toNat (by omega)
          exact mret hM hF (by unfold s_cand; rw [eQ, if_pos (by omega)]) rfl
      · refine V_goto (tgt := 41) dX4_candidate_26 (by decide) ?_
        refine V_iinc (lc' := [_, _, _, _, _, _]) dX4_candidate_41 rfl (by decide) rfl ?_
        refine V_goto (tgt := 6) dX4_candidate_44 (by decide) ?_
        exact ih6 (by omega) n6 ⟨by omega, by omega, by rw [sCc_s k6l, ← k6e]; first | (rw [if_neg q23]; omega) | rw [if_pos q23], by rw [sPick_s k6l, k6p, if_neg (fun w => w rfl)]; exact if_neg (fun w => by first | exact q23 w.1 | (have := w.2; omega))⟩ h hM hF
  exact lp6 0 0 ⟨by omega, by omega, rfl, rfl⟩ h hM hF
theorem T_X4_canDraw (g : GP) (M : MS) (sd : Int) (ne : Int) (nm : Int) (nh : Int) (r_sd : -2147483648 ≤ sd ∧ sd ≤ 2147483647) (r_ne : -2147483648 ≤ ne ∧ ne ≤ 2147483647) (r_nm : -2147483648 ≤ nm ∧ nm ≤ 2147483647) (r_nh : -2147483648 ≤ nh ∧ nh ≤ 2147483647) (hI : IM M) (h1 : 0 ≤ sd ∧ sd ≤ 1008) (h2 : 0 ≤ ne ∧ ne ≤ 9) (h3 : 0 ≤ nm ∧ nm ≤ 9) (h4 : 0 ≤ nh ∧ nh ≤ 9) : TM g m_X4_canDraw 6 [xI sd, xI ne, xI nm, xI nh] M (some (xI (pI ((sDr 30 0 M sd ne nm (ne + nm + nh).toNat).2.2 = 1)))) ((sDr 30 0 M sd ne nm (ne + nm + nh).toNat).1) := by
  refine TM.of (by decide) rfl (fun v hv => ?_) (Nat.le_of_ble_eq_true rfl) ?_
  · simp only [List.mem_cons, List.not_mem_nil, or_false] at hv
    rcases hv with rfl | rfl | rfl | rfl <;> exact ⟨_, rfl⟩
  intro h0 h hM hF
  change V g m_X4_canDraw 6 _ h 0 [xR 18, xI sd, xI ne, xI nm, xI nh, xU, xU, xU, xU, xU, xU, xU] []
  obtain ⟨⟨i19, i20, i21, i22, i23, i24, i25, i26, i29⟩, iA⟩ := id hI
  refine V_iload_n dX4_canDraw_0 rfl ?_
  refine V_istore (lc' := [_, _, _, _, _, _, _, _, _, _, _, _]) dX4_canDraw_1 (by decide) rfl ?_
  refine V_iconst dX4_canDraw_3 ?_
  refine V_istore (lc' := [_, _, _, _, _, _, _, _, _, _, _, _]) dX4_canDraw_4 (by decide) rfl ?_
  have lp6 : ∀ k6 : Int, ∀ n6 : Int, ∀ M6 : MS, (0 ≤ k6 ∧ k6 ≤ ne + nm + nh ∧ (M6, n6, 1) = sDr 30 0 M sd ne nm k6.toNat) → ∀ h, MR h M6 → FR h0 h → V g m_X4_canDraw 6 (Qm h0 (some (xI (pI ((sDr 30 0 M sd ne nm (ne + nm + nh).toNat).2.2 = 1)))) ((sDr 30 0 M sd ne nm (ne + nm + nh).toNat).1)) h 6 [xR 18, xI sd, xI ne, xI nm, xI nh, xI n6, xI k6, xU, xU, xU, xU, xU] [] := by
    refine lp_up (ne + nm + nh) (fun k6 ih6 => ?_)
    intro n6 M6 hk h hM hF
    obtain ⟨k6l, k6u, k6e⟩ := hk
    have oI6 := sDr_o (f := 30) (Or.inr rfl) (o := 0) (e := ne) (m := nm) hI h1 k6.toNat
    rw [← k6e] at oI6
    obtain ⟨o6, hI6, d6, -⟩ := oI6
    dsimp only at o6 hI6 d6
    have e20 : M6 20 0 = M 20 0 := o6 20 0 (by decide)
    refine V_iload dX4_canDraw_6 rfl ?_
    refine V_iload_n dX4_canDraw_8 rfl ?_
    refine V_iload_n dX4_canDraw_9 rfl ?_
    refine V_iadd dX4_canDraw_10 ?_
    refine V_iload dX4_canDraw_11 rfl ?_
    refine V_iadd dX4_canDraw_13 ?_
    refine V_icmp_ge (tgt := 189) dX4_canDraw_14 (by decide) (by omega) (by omega) (fun q14 => ?_) (fun q14 => ?_)
    · refine V_iconst dX4_canDraw_189 ?_
      refine V_zret (by first | exact pI_01 _ | omega) dX4_canDraw_190 rfl ?_
      exact mret hM hF (by rw [show ne + nm + nh = k6 by omega, ← k6e]; exact (pI_t rfl).symm) (by rw [show ne + nm + nh = k6 by omega, ← k6e])
    · refine V_iload dX4_canDraw_17 rfl ?_
      refine V_iload_n dX4_canDraw_19 rfl ?_
      refine V_icmp_ge (tgt := 28) dX4_canDraw_20 (by decide) (by omega) (by omega) (fun q20 => ?_) (fun q20 => ?_)
      · refine V_iload dX4_canDraw_28 rfl ?_
        refine V_iload_n dX4_canDraw_30 rfl ?_
        refine V_iload_n dX4_canDraw_31 rfl ?_
        refine V_iadd dX4_canDraw_32 ?_
        refine V_icmp_ge (tgt := 41) dX4_canDraw_33 (by decide) (by omega) (by omega) (fun q33 => ?_) (fun q33 => ?_)
        · refine V_bipush dX4_canDraw_41 (by decide) ?_
          refine V_istore (lc' := [_, _, _, _, _, _, _, _, _, _, _, _]) dX4_canDraw_43 (by decide) rfl ?_
          have eK : sDk ne nm k6 = 104 := by unfold sDk; (repeat' split) <;> first | rfl | (exfalso; omega)
          refine V_iconst dX4_canDraw_45 ?_
          refine V_istore (lc' := [_, _, _, _, _, _, _, _, _, _, _, _]) dX4_canDraw_46 (by decide) rfl ?_
          refine V_iconst dX4_canDraw_48 ?_
          refine V_istore (lc' := [_, _, _, _, _, _, _, _, _, _, _, _]) dX4_canDraw_49 (by decide) rfl ?_
          have lp51 : ∀ k51 : Int, ∀ n51 : Int, (0 ≤ k51 ∧ k51 ≤ M 20 0 ∧ n51 = sCc 30 0 M6 104 k6 k51.toNat) → ∀ h, MR h M6 → FR h0 h → V g m_X4_canDraw 6 (Qm h0 (some (xI (pI ((sDr 30 0 M sd ne nm (ne + nm + nh).toNat).2.2 = 1)))) ((sDr 30 0 M sd ne nm (ne + nm + nh).toNat).1)) h 51 [xR 18, xI sd, xI ne, xI nm, xI nh, xI n6, xI k6, xI 104, xI n51, xI k51, xU, xU] [] := by
            refine lp_up (M 20 0) (fun k51 ih51 => ?_)
            intro n51 hk h hM hF
            obtain ⟨k51l, k51u, k51e⟩ := hk
            have cr := sCc_r (f := 30) (o := 0) (M := M6) (kd := 104) (sz := k6) k51.toNat
            refine V_iload dX4_canDraw_51 rfl ?_
            refine V_aload_n dX4_canDraw_53 rfl ?_
            refine V_mg (f := 20) (z := M 20 0) dX4_canDraw_54 fg_RX4_76 rfl (by decide) hM ((o6 20 _ (by decide)).trans rfl) (fun r54 => ?_)
            refine V_icmp_ge (tgt := 89) dX4_canDraw_57 (by decide) (by omega) (by omega) (fun q57 => ?_) (fun q57 => ?_)
            · refine V_iload dX4_canDraw_89 rfl ?_
              refine V_if_ne (tgt := 96) dX4_canDraw_91 (by decide) (by omega) (fun q91 => ?_) (fun q91 => ?_)
              · have eC : n51 = sCc 30 0 M6 104 k6 (M 20 0).toNat := by rw [k51e, show k51 = M 20 0 by omega]
                have hp : 0 ≤ n6 % n51 ∧ n6 % n51 < n51 := ⟨Int.emod_nonneg _ q91, Int.emod_lt_of_pos _ (by omega)⟩
                refine V_iload dX4_canDraw_96 rfl ?_
                refine V_iload dX4_canDraw_98 rfl ?_
                refine V_irem dX4_canDraw_100 (by omega) (by omega) ?_
                refine V_istore (lc' := [_, _, _, _, _, _, _, _, _, _, _, _]) dX4_canDraw_101 (by decide) rfl ?_
                refine V_iconst dX4_canDraw_103 ?_
                refine V_istore (lc' := [_, _, _, _, _, _, _, _, _, _, _, _]) dX4_canDraw_104 (by decide) rfl ?_
                refine V_iconst dX4_canDraw_106 ?_
                refine V_istore (lc' := [_, _, _, _, _, _, _, _, _, _, _, _]) dX4_canDraw_107 (by decide) rfl ?_
                have lp109 : ∀ k109 : Int, ∀ p109 : Int, ∀ f109 : Int, (0 ≤ k109 ∧ k109 ≤ M 20 0 ∧ ((f109 = -1 ∧ sPick 30 0 M6 104 k6 (n6 % n51) k109.toNat = -1 ∧ p109 = n6 % n51 - sCc 30 0 M6 104 k6 k109.toNat) ∨ (f109 ≠ -1 ∧ sPick 30 0 M6 104 k6 (n6 % n51) k109.toNat = f109)) ∧ -2147483648 ≤ f109 ∧ f109 ≤ 2147483647) → ∀ h, MR h M6 → FR h0 h → V g m_X4_canDraw 6 (Qm h0 (some (xI (pI ((sDr 30 0 M sd ne nm (ne + nm + nh).toNat).2.2 = 1)))) ((sDr 30 0 M sd ne nm (ne + nm + nh).toNat).1)) h 109 [xR 18, xI sd, xI ne, xI nm, xI nh, xI n6, xI k6, xI 104, xI n51, xI p109, xI f109, xI k109] [] := by
                  refine lp_up (M 20 0) (fun k109 ih109 => ?_)
                  intro p109 f109 hk h hM hF
                  obtain ⟨k109l, k109u, k109A, k109f⟩ := hk
                  have cr2 := sCc_r (f := 30) (o := 0) (M := M6) (kd := 104) (sz := k6) k109.toNat
                  refine V_iload dX4_canDraw_109 rfl ?_
                  refine V_aload_n dX4_canDraw_111 rfl ?_
                  refine V_mg (f := 20) (z := M 20 0) dX4_canDraw_112 fg_RX4_76 rfl (by decide) hM ((o6 20 _ (by decide)).trans rfl) (fun r112 => ?_)
                  refine V_icmp_ge (tgt := 162) dX4_canDraw_115 (by decide) (by omega) (by omega) (fun q115 => ?_) (fun q115 => ?_)
                  · have eF : sPick 30 0 M6 104 k6 (n6 % n51) (M 20 0).toNat = f109 := by
                      rcases k109A with ⟨w1, w2, w3⟩ | ⟨w1, w2⟩
                      · exfalso
                        first | exact q121 w1 | exact absurd w2 (by rw [show k109 = M 20 0 by omega]; exact sPick_ex hp.1 _ (by rw [← eC]; exact hp.2))
                      · exact sPick_st w2 w1 _ (by omega)
                    have bF := sPick_b (f := 30) (o := 0) (M := M6) (kd := 104) (sz := k6) hI.1.2.1 hp.1 (by rw [← eC]; exact hp.2)
                    rw [eF] at bF
                    have bF1 := bF.1
                    have bF2 := bF.2.1
                    refine V_aload_n dX4_canDraw_162 rfl ?_
                    refine V_mgA (f := 30) (a := 38) dX4_canDraw_163 fg_RX4_69 rfl (by decide) hM rfl ?_
                    refine V_iload dX4_canDraw_166 rfl ?_
                    refine V_iload dX4_canDraw_168 rfl ?_
                    refine V_mis (f := 30) (n := 27) dX4_canDraw_170 rfl rfl (by decide) rfl rfl hM hF (by omega) (by omega) (fun h hM hF => ?_)
                    refine V_iload dX4_canDraw_171 rfl ?_
                    refine V_iconst dX4_canDraw_173 ?_
                    refine V_imul dX4_canDraw_174 ?_
                    refine V_iconst dX4_canDraw_175 ?_
                    refine V_iadd dX4_canDraw_176 ?_
                    refine V_sipush dX4_canDraw_177 (by decide) ?_
                    refine V_irem dX4_canDraw_180 (by omega) (by omega) ?_
                    refine V_istore (lc' := [_, _, _, _, _, _, _, _, _, _, _, _]) dX4_canDraw_181 (by decide) rfl ?_
                    refine V_iinc (lc' := [_, _, _, _, _, _, _, _, _, _, _, _]) dX4_canDraw_183 rfl (by decide) rfl ?_
                    refine V_goto (tgt := 6) dX4_canDraw_186 (by decide) ?_
                    refine V_wk (lc' := [_, _, _, _, _, _, _, xU, xU, xU, xU, xU]) ⟨Or.inr rfl, Or.inr rfl, Or.inr rfl, Or.inr rfl, Or.inr rfl, Or.inr rfl, Or.inr rfl, Or.inl rfl, Or.inl rfl, Or.inl rfl, Or.inl rfl, Or.inl rfl, trivial⟩ ?_
                    exact ih6 (by omega) (((n6 * 5) + 3) % 1009) (mset M6 30 k6 f109) ⟨by omega, by omega, by rw [sDr_s k6l, ← k6e]; unfold sDr1; dsimp only; rw [if_neg (by decide), eK, if_neg (by rw [← eC]; exact q91), ← eC, eF, Int.zero_add]⟩ h hM hF
                  · refine V_iload dX4_canDraw_118 rfl ?_
                    refine V_iconst dX4_canDraw_120 ?_
                    refine V_icmp_ne (tgt := 162) dX4_canDraw_121 (by decide) (by omega) (by omega) (fun q121 => ?_) (fun q121 => ?_)
                    · have eF : sPick 30 0 M6 104 k6 (n6 % n51) (M 20 0).toNat = f109 := by
                        rcases k109A with ⟨w1, w2, w3⟩ | ⟨w1, w2⟩
                        · exfalso
                          first | exact q121 w1 | exact absurd w2 (by rw [show k109 = M 20 0 by omega]; exact sPick_ex hp.1 _ (by rw [← eC]; exact hp.2))
                        · exact sPick_st w2 w1 _ (by omega)
                      have bF := sPick_b (f := 30) (o := 0) (M := M6) (kd := 104) (sz := k6) hI.1.2.1 hp.1 (by rw [← eC]; exact hp.2)
                      rw [eF] at bF
                      have bF1 := bF.1
                      have bF2 := bF.2.1
                      refine V_aload_n dX4_canDraw_162 rfl ?_
                      refine V_mgA (f := 30) (a := 38) dX4_canDraw_163 fg_RX4_69 rfl (by decide) hM rfl ?_
                      refine V_iload dX4_canDraw_166 rfl ?_
                      refine V_iload dX4_canDraw_168 rfl ?_
                      refine V_mis (f := 30) (n := 27) dX4_canDraw_170 rfl rfl (by decide) rfl rfl hM hF (by omega) (by omega) (fun h hM hF => ?_)
                      refine V_iload dX4_canDraw_171 rfl ?_
                      refine V_iconst dX4_canDraw_173 ?_
                      refine V_imul dX4_canDraw_174 ?_
                      refine V_iconst dX4_canDraw_175 ?_
                      refine V_iadd dX4_canDraw_176 ?_
                      refine V_sipush dX4_canDraw_177 (by decide) ?_
                      refine V_irem dX4_canDraw_180 (by omega) (by omega) ?_
                      refine V_istore (lc' := [_, _, _, _, _, _, _, _, _, _, _, _]) dX4_canDraw_181 (by decide) rfl ?_
                      refine V_iinc (lc' := [_, _, _, _, _, _, _, _, _, _, _, _]) dX4_canDraw_183 rfl (by decide) rfl ?_
                      refine V_goto (tgt := 6) dX4_canDraw_186 (by decide) ?_
                      refine V_wk (lc' := [_, _, _, _, _, _, _, xU, xU, xU, xU, xU]) ⟨Or.inr rfl, Or.inr rfl, Or.inr rfl, Or.inr rfl, Or.inr rfl, Or.inr rfl, Or.inr rfl, Or.inl rfl, Or.inl rfl, Or.inl rfl, Or.inl rfl, Or.inl rfl, trivial⟩ ?_
                      exact ih6 (by omega) (((n6 * 5) + 3) % 1009) (mset M6 30 k6 f109) ⟨by omega, by omega, by rw [sDr_s k6l, ← k6e]; unfold sDr1; dsimp only; rw [if_neg (by decide), eK, if_neg (by rw [← eC]; exact q91), ← eC, eF, Int.zero_add]⟩ h hM hF
                    · obtain ⟨-, k109p, k109q⟩ := k109A.resolve_right (fun w => w.1 q121)
                      refine V_aload_n dX4_canDraw_124 rfl ?_
                      refine V_iload dX4_canDraw_125 rfl ?_
                      refine V_iload dX4_canDraw_127 rfl ?_
                      refine V_iload dX4_canDraw_129 rfl ?_
                      refine V_mC (as := [_, _, _]) dX4_canDraw_131 c_RX4_173 rfl (by decide) rfl (Nat.le_of_ble_eq_true rfl) hM hF (T_X4_isTrial g M6 k109 104 k6 (by omega) (by omega) (by omega) hI6 (by omega) (by omega)) (fun h hM hF => ?_)
                      refine V_ifb_ne (tgt := 140) dX4_canDraw_134 (by decide) (fun q134 => ?_) (fun q134 => ?_)
                      · refine V_iload dX4_canDraw_140 rfl ?_
                        refine V_if_ne (tgt := 150) dX4_canDraw_142 (by decide) (by omega) (fun q142 => ?_) (fun q142 => ?_)
                        · refine V_iconst dX4_canDraw_150 ?_
                          refine V_istore (lc' := [_, _, _, _, _, _, _, _, _, _, _, _]) dX4_canDraw_151 (by decide) rfl ?_
                          refine V_iinc (lc' := [_, _, _, _, _, _, _, _, _, _, _, _]) dX4_canDraw_153 rfl (by decide) rfl ?_
                          refine V_iinc (lc' := [_, _, _, _, _, _, _, _, _, _, _, _]) dX4_canDraw_156 rfl (by decide) rfl ?_
                          refine V_goto (tgt := 109) dX4_canDraw_159 (by decide) ?_
                          exact ih109 (by omega) (p109 + (-1)) (-1) ⟨by omega, by omega, by first | exact Or.inl ⟨q121, by rw [sPick_s k109l, k109p, if_neg (fun w => w rfl)]; exact if_neg (fun w => q134 w.1), by rw [sCc_s k109l, if_neg q134]; omega⟩ | exact Or.inl ⟨rfl, by rw [sPick_s k109l, k109p, if_neg (fun w => w rfl)]; exact if_neg (fun w => by have := w.2; omega), by rw [sCc_s k109l, if_pos q134]; omega⟩ | exact Or.inr ⟨by omega, by rw [sPick_s k109l, k109p, if_neg (fun w => w rfl), if_pos ⟨q134, by omega⟩]⟩, by omega, by omega⟩ h hM hF
                        · refine V_iload dX4_canDraw_145 rfl ?_
                          refine V_goto (tgt := 151) dX4_canDraw_147 (by decide) ?_
                          refine V_istore (lc' := [_, _, _, _, _, _, _, _, _, _, _, _]) dX4_canDraw_151 (by decide) rfl ?_
                          refine V_iinc (lc' := [_, _, _, _, _, _, _, _, _, _, _, _]) dX4_canDraw_153 rfl (by decide) rfl ?_
                          refine V_iinc (lc' := [_, _, _, _, _, _, _, _, _, _, _, _]) dX4_canDraw_156 rfl (by decide) rfl ?_
                          refine V_goto (tgt := 109) dX4_canDraw_159 (by decide) ?_
                          exact ih109 (by omega) (p109 + (-1)) k109 ⟨by omega, by omega, by first | exact Or.inl ⟨q121, by rw [sPick_s k109l, k109p, if_neg (fun w => w rfl)]; exact if_neg (fun w => q134 w.1), by rw [sCc_s k109l, if_neg q134]; omega⟩ | exact Or.inl ⟨rfl, by rw [sPick_s k109l, k109p, if_neg (fun w => w rfl)]; exact if_neg (fun w => by have := w.2; omega), by rw [sCc_s k109l, if_pos q134]; omega⟩ | exact Or.inr ⟨by omega, by rw [sPick_s k109l, k109p, if_neg (fun w => w rfl), if_pos ⟨q134, by omega⟩]⟩, by omega, by omega⟩ h hM hF
                      · refine V_goto (tgt := 156) dX4_canDraw_137 (by decide) ?_
                        refine V_iinc (lc' := [_, _, _, _, _, _, _, _, _, _, _, _]) dX4_canDraw_156 rfl (by decide) rfl ?_
                        refine V_goto (tgt := 109) dX4_canDraw_159 (by decide) ?_
                        exact ih109 (by omega) p109 f109 ⟨by omega, by omega, by first | exact Or.inl ⟨q121, by rw [sPick_s k109l, k109p, if_neg (fun w => w rfl)]; exact if_neg (fun w => q134 w.1), by rw [sCc_s k109l, if_neg q134]; omega⟩ | exact Or.inl ⟨rfl, by rw [sPick_s k109l, k109p, if_neg (fun w => w rfl)]; exact if_neg (fun w => by have := w.2; omega), by rw [sCc_s k109l, if_pos q134]; omega⟩ | exact Or.inr ⟨by omega, by rw [sPick_s k109l, k109p, if_neg (fun w => w rfl), if_pos ⟨q134, by omega⟩]⟩, by omega, by omega⟩ h hM hF
                exact lp109 0 (n6 % n51) (-1) ⟨by omega, by omega, Or.inl ⟨rfl, rfl, by show _ = _ - (0 : Int); omega⟩, by omega, by omega⟩ h hM hF
              · refine V_iconst dX4_canDraw_94 ?_
                refine V_zret (by first | exact pI_01 _ | omega) dX4_canDraw_95 rfl ?_
                have eS : sDr 30 0 M sd ne nm (k6 + 1).toNat = (M6, n6, 0) := by
                  rw [sDr_s k6l, ← k6e]
                  unfold sDr1
                  dsimp only
                  rw [if_neg (by decide), eK, if_pos (by rw [show M 20 0 = k51 by omega, ← k51e]; exact q91)]
                have eT := sDr_f eS rfl (ne + nm + nh).toNat (by omega)
                exact mret hM hF (by rw [eT]; exact (pI_f (show ¬ ((0 : Int) = 1) by decide)).symm) (by rw [eT])
            · refine V_iload dX4_canDraw_60 rfl ?_
              refine V_aload_n dX4_canDraw_62 rfl ?_
              refine V_iload dX4_canDraw_63 rfl ?_
              refine V_iload dX4_canDraw_65 rfl ?_
              refine V_iload dX4_canDraw_67 rfl ?_
              refine V_mC (as := [_, _, _]) dX4_canDraw_69 c_RX4_173 rfl (by decide) rfl (Nat.le_of_ble_eq_true rfl) hM hF (T_X4_isTrial g M6 k51 104 k6 (by omega) (by omega) (by omega) hI6 (by omega) (by omega)) (fun h hM hF => ?_)
              refine V_ifb_eq (tgt := 79) dX4_canDraw_72 (by decide) (fun q72 => ?_) (fun q72 => ?_)
              · refine V_iconst dX4_canDraw_79 ?_
                refine V_iadd dX4_canDraw_80 ?_
                refine V_istore (lc' := [_, _, _, _, _, _, _, _, _, _, _, _]) dX4_canDraw_81 (by decide) rfl ?_
                refine V_iinc (lc' := [_, _, _, _, _, _, _, _, _, _, _, _]) dX4_canDraw_83 rfl (by decide) rfl ?_
                refine V_goto (tgt := 51) dX4_canDraw_86 (by decide) ?_
                exact ih51 (by omega) (n51 + 0) ⟨by omega, by omega, by rw [sCc_s k51l, ← k51e]; first | rw [if_neg q72] | rw [if_pos q72]⟩ h hM hF
              · refine V_iconst dX4_canDraw_75 ?_
                refine V_goto (tgt := 80) dX4_canDraw_76 (by decide) ?_
                refine V_iadd dX4_canDraw_80 ?_
                refine V_istore (lc' := [_, _, _, _, _, _, _, _, _, _, _, _]) dX4_canDraw_81 (by decide) rfl ?_
                refine V_iinc (lc' := [_, _, _, _, _, _, _, _, _, _, _, _]) dX4_canDraw_83 rfl (by decide) rfl ?_
                refine V_goto (tgt := 51) dX4_canDraw_86 (by decide) ?_
                exact ih51 (by omega) (n51 + 1) ⟨by omega, by omega, by rw [sCc_s k51l, ← k51e]; first | rw [if_neg q72] | rw [if_pos q72]⟩ h hM hF
          exact lp51 0 0 ⟨by omega, by omega, rfl⟩ h hM hF
        · refine V_bipush dX4_canDraw_36 (by decide) ?_
          refine V_goto (tgt := 43) dX4_canDraw_38 (by decide) ?_
          refine V_istore (lc' := [_, _, _, _, _, _, _, _, _, _, _, _]) dX4_canDraw_43 (by decide) rfl ?_
          have eK : sDk ne nm k6 = 109 := by unfold sDk; (repeat' split) <;> first | rfl | (exfalso; omega)
          refine V_iconst dX4_canDraw_45 ?_
          refine V_istore (lc' := [_, _, _, _, _, _, _, _, _, _, _, _]) dX4_canDraw_46 (by decide) rfl ?_
          refine V_iconst dX4_canDraw_48 ?_
          refine V_istore (lc' := [_, _, _, _, _, _, _, _, _, _, _, _]) dX4_canDraw_49 (by decide) rfl ?_
          have lp51 : ∀ k51 : Int, ∀ n51 : Int, (0 ≤ k51 ∧ k51 ≤ M 20 0 ∧ n51 = sCc 30 0 M6 109 k6 k51.toNat) → ∀ h, MR h M6 → FR h0 h → V g m_X4_canDraw 6 (Qm h0 (some (xI (pI ((sDr 30 0 M sd ne nm (ne + nm + nh).toNat).2.2 = 1)))) ((sDr 30 0 M sd ne nm (ne + nm + nh).toNat).1)) h 51 [xR 18, xI sd, xI ne, xI nm, xI nh, xI n6, xI k6, xI 109, xI n51, xI k51, xU, xU] [] := by
            refine lp_up (M 20 0) (fun k51 ih51 => ?_)
            intro n51 hk h hM hF
            obtain ⟨k51l, k51u, k51e⟩ := hk
            have cr := sCc_r (f := 30) (o := 0) (M := M6) (kd := 109) (sz := k6) k51.toNat
            refine V_iload dX4_canDraw_51 rfl ?_
            refine V_aload_n dX4_canDraw_53 rfl ?_
            refine V_mg (f := 20) (z := M 20 0) dX4_canDraw_54 fg_RX4_76 rfl (by decide) hM ((o6 20 _ (by decide)).trans rfl) (fun r54 => ?_)
            refine V_icmp_ge (tgt := 89) dX4_canDraw_57 (by decide) (by omega) (by omega) (fun q57 => ?_) (fun q57 => ?_)
            · refine V_iload dX4_canDraw_89 rfl ?_
              refine V_if_ne (tgt := 96) dX4_canDraw_91 (by decide) (by omega) (fun q91 => ?_) (fun q91 => ?_)
              · have eC : n51 = sCc 30 0 M6 109 k6 (M 20 0).toNat := by rw [k51e, show k51 = M 20 0 by omega]
                have hp : 0 ≤ n6 % n51 ∧ n6 % n51 < n51 := ⟨Int.emod_nonneg _ q91, Int.emod_lt_of_pos _ (by omega)⟩
                refine V_iload dX4_canDraw_96 rfl ?_
                refine V_iload dX4_canDraw_98 rfl ?_
                refine V_irem dX4_canDraw_100 (by omega) (by omega) ?_
                refine V_istore (lc' := [_, _, _, _, _, _, _, _, _, _, _, _]) dX4_canDraw_101 (by decide) rfl ?_
                refine V_iconst dX4_canDraw_103 ?_
                refine V_istore (lc' := [_, _, _, _, _, _, _, _, _, _, _, _]) dX4_canDraw_104 (by decide) rfl ?_
                refine V_iconst dX4_canDraw_106 ?_
                refine V_istore (lc' := [_, _, _, _, _, _, _, _, _, _, _, _]) dX4_canDraw_107 (by decide) rfl ?_
                have lp109 : ∀ k109 : Int, ∀ p109 : Int, ∀ f109 : Int, (0 ≤ k109 ∧ k109 ≤ M 20 0 ∧ ((f109 = -1 ∧ sPick 30 0 M6 109 k6 (n6 % n51) k109.toNat = -1 ∧ p109 = n6 % n51 - sCc 30 0 M6 109 k6 k109.toNat) ∨ (f109 ≠ -1 ∧ sPick 30 0 M6 109 k6 (n6 % n51) k109.toNat = f109)) ∧ -2147483648 ≤ f109 ∧ f109 ≤ 2147483647) → ∀ h, MR h M6 → FR h0 h → V g m_X4_canDraw 6 (Qm h0 (some (xI (pI ((sDr 30 0 M sd ne nm (ne + nm + nh).toNat).2.2 = 1)))) ((sDr 30 0 M sd ne nm (ne + nm + nh).toNat).1)) h 109 [xR 18, xI sd, xI ne, xI nm, xI nh, xI n6, xI k6, xI 109, xI n51, xI p109, xI f109, xI k109] [] := by
                  refine lp_up (M 20 0) (fun k109 ih109 => ?_)
                  intro p109 f109 hk h hM hF
                  obtain ⟨k109l, k109u, k109A, k109f⟩ := hk
                  have cr2 := sCc_r (f := 30) (o := 0) (M := M6) (kd := 109) (sz := k6) k109.toNat
                  refine V_iload dX4_canDraw_109 rfl ?_
                  refine V_aload_n dX4_canDraw_111 rfl ?_
                  refine V_mg (f := 20) (z := M 20 0) dX4_canDraw_112 fg_RX4_76 rfl (by decide) hM ((o6 20 _ (by decide)).trans rfl) (fun r112 => ?_)
                  refine V_icmp_ge (tgt := 162) dX4_canDraw_115 (by decide) (by omega) (by omega) (fun q115 => ?_) (fun q115 => ?_)
                  · have eF : sPick 30 0 M6 109 k6 (n6 % n51) (M 20 0).toNat = f109 := by
                      rcases k109A with ⟨w1, w2, w3⟩ | ⟨w1, w2⟩
                      · exfalso
                        first | exact q121 w1 | exact absurd w2 (by rw [show k109 = M 20 0 by omega]; exact sPick_ex hp.1 _ (by rw [← eC]; exact hp.2))
                      · exact sPick_st w2 w1 _ (by omega)
                    have bF := sPick_b (f := 30) (o := 0) (M := M6) (kd := 109) (sz := k6) hI.1.2.1 hp.1 (by rw [← eC]; exact hp.2)
                    rw [eF] at bF
                    have bF1 := bF.1
                    have bF2 := bF.2.1
                    refine V_aload_n dX4_canDraw_162 rfl ?_
                    refine V_mgA (f := 30) (a := 38) dX4_canDraw_163 fg_RX4_69 rfl (by decide) hM rfl ?_
                    refine V_iload dX4_canDraw_166 rfl ?_
                    refine V_iload dX4_canDraw_168 rfl ?_
                    refine V_mis (f := 30) (n := 27) dX4_canDraw_170 rfl rfl (by decide) rfl rfl hM hF (by omega) (by omega) (fun h hM hF => ?_)
                    refine V_iload dX4_canDraw_171 rfl ?_
                    refine V_iconst dX4_canDraw_173 ?_
                    refine V_imul dX4_canDraw_174 ?_
                    refine V_iconst dX4_canDraw_175 ?_
                    refine V_iadd dX4_canDraw_176 ?_
                    refine V_sipush dX4_canDraw_177 (by decide) ?_
                    refine V_irem dX4_canDraw_180 (by omega) (by omega) ?_
                    refine V_istore (lc' := [_, _, _, _, _, _, _, _, _, _, _, _]) dX4_canDraw_181 (by decide) rfl ?_
                    refine V_iinc (lc' := [_, _, _, _, _, _, _, _, _, _, _, _]) dX4_canDraw_183 rfl (by decide) rfl ?_
                    refine V_goto (tgt := 6) dX4_canDraw_186 (by decide) ?_
                    refine V_wk (lc' := [_, _, _, _, _, _, _, xU, xU, xU, xU, xU]) ⟨Or.inr rfl, Or.inr rfl, Or.inr rfl, Or.inr rfl, Or.inr rfl, Or.inr rfl, Or.inr rfl, Or.inl rfl, Or.inl rfl, Or.inl rfl, Or.inl rfl, Or.inl rfl, trivial⟩ ?_
                    exact ih6 (by omega) (((n6 * 5) + 3) % 1009) (mset M6 30 k6 f109) ⟨by omega, by omega, by rw [sDr_s k6l, ← k6e]; unfold sDr1; dsimp only; rw [if_neg (by decide), eK, if_neg (by rw [← eC]; exact q91), ← eC, eF, Int.zero_add]⟩ h hM hF
                  · refine V_iload dX4_canDraw_118 rfl ?_
                    refine V_iconst dX4_canDraw_120 ?_
                    refine V_icmp_ne (tgt := 162) dX4_canDraw_121 (by decide) (by omega) (by omega) (fun q121 => ?_) (fun q121 => ?_)
                    · have eF : sPick 30 0 M6 109 k6 (n6 % n51) (M 20 0).toNat = f109 := by
                        rcases k109A with ⟨w1, w2, w3⟩ | ⟨w1, w2⟩
                        · exfalso
                          first | exact q121 w1 | exact absurd w2 (by rw [show k109 = M 20 0 by omega]; exact sPick_ex hp.1 _ (by rw [← eC]; exact hp.2))
                        · exact sPick_st w2 w1 _ (by omega)
                      have bF := sPick_b (f := 30) (o := 0) (M := M6) (kd := 109) (sz := k6) hI.1.2.1 hp.1 (by rw [← eC]; exact hp.2)
                      rw [eF] at bF
                      have bF1 := bF.1
                      have bF2 := bF.2.1
                      refine V_aload_n dX4_canDraw_162 rfl ?_
                      refine V_mgA (f := 30) (a := 38) dX4_canDraw_163 fg_RX4_69 rfl (by decide) hM rfl ?_
                      refine V_iload dX4_canDraw_166 rfl ?_
                      refine V_iload dX4_canDraw_168 rfl ?_
                      refine V_mis (f := 30) (n := 27) dX4_canDraw_170 rfl rfl (by decide) rfl rfl hM hF (by omega) (by omega) (fun h hM hF => ?_)
                      refine V_iload dX4_canDraw_171 rfl ?_
                      refine V_iconst dX4_canDraw_173 ?_
                      refine V_imul dX4_canDraw_174 ?_
                      refine V_iconst dX4_canDraw_175 ?_
                      refine V_iadd dX4_canDraw_176 ?_
                      refine V_sipush dX4_canDraw_177 (by decide) ?_
                      refine V_irem dX4_canDraw_180 (by omega) (by omega) ?_
                      refine V_istore (lc' := [_, _, _, _, _, _, _, _, _, _, _, _]) dX4_canDraw_181 (by decide) rfl ?_
                      refine V_iinc (lc' := [_, _, _, _, _, _, _, _, _, _, _, _]) dX4_canDraw_183 rfl (by decide) rfl ?_
                      refine V_goto (tgt := 6) dX4_canDraw_186 (by decide) ?_
                      refine V_wk (lc' := [_, _, _, _, _, _, _, xU, xU, xU, xU, xU]) ⟨Or.inr rfl, Or.inr rfl, Or.inr rfl, Or.inr rfl, Or.inr rfl, Or.inr rfl, Or.inr rfl, Or.inl rfl, Or.inl rfl, Or.inl rfl, Or.inl rfl, Or.inl rfl, trivial⟩ ?_
                      exact ih6 (by omega) (((n6 * 5) + 3) % 1009) (mset M6 30 k6 f109) ⟨by omega, by omega, by rw [sDr_s k6l, ← k6e]; unfold sDr1; dsimp only; rw [if_neg (by decide), eK, if_neg (by rw [← eC]; exact q91), ← eC, eF, Int.zero_add]⟩ h hM hF
                    · obtain ⟨-, k109p, k109q⟩ := k109A.resolve_right (fun w => w.1 q121)
                      refine V_aload_n dX4_canDraw_124 rfl ?_
                      refine V_iload dX4_canDraw_125 rfl ?_
                      refine V_iload dX4_canDraw_127 rfl ?_
                      refine V_iload dX4_canDraw_129 rfl ?_
                      refine V_mC (as := [_, _, _]) dX4_canDraw_131 c_RX4_173 rfl (by decide) rfl (Nat.le_of_ble_eq_true rfl) hM hF (T_X4_isTrial g M6 k109 109 k6 (by omega) (by omega) (by omega) hI6 (by omega) (by omega)) (fun h hM hF => ?_)
                      refine V_ifb_ne (tgt := 140) dX4_canDraw_134 (by decide) (fun q134 => ?_) (fun q134 => ?_)
                      · refine V_iload dX4_canDraw_140 rfl ?_
                        refine V_if_ne (tgt := 150) dX4_canDraw_142 (by decide) (by omega) (fun q142 => ?_) (fun q142 => ?_)
                        · refine V_iconst dX4_canDraw_150 ?_
                          refine V_istore (lc' := [_, _, _, _, _, _, _, _, _, _, _, _]) dX4_canDraw_151 (by decide) rfl ?_
                          refine V_iinc (lc' := [_, _, _, _, _, _, _, _, _, _, _, _]) dX4_canDraw_153 rfl (by decide) rfl ?_
                          refine V_iinc (lc' := [_, _, _, _, _, _, _, _, _, _, _, _]) dX4_canDraw_156 rfl (by decide) rfl ?_
                          refine V_goto (tgt := 109) dX4_canDraw_159 (by decide) ?_
                          exact ih109 (by omega) (p109 + (-1)) (-1) ⟨by omega, by omega, by first | exact Or.inl ⟨q121, by rw [sPick_s k109l, k109p, if_neg (fun w => w rfl)]; exact if_neg (fun w => q134 w.1), by rw [sCc_s k109l, if_neg q134]; omega⟩ | exact Or.inl ⟨rfl, by rw [sPick_s k109l, k109p, if_neg (fun w => w rfl)]; exact if_neg (fun w => by have := w.2; omega), by rw [sCc_s k109l, if_pos q134]; omega⟩ | exact Or.inr ⟨by omega, by rw [sPick_s k109l, k109p, if_neg (fun w => w rfl), if_pos ⟨q134, by omega⟩]⟩, by omega, by omega⟩ h hM hF
                        · refine V_iload dX4_canDraw_145 rfl ?_
                          refine V_goto (tgt := 151) dX4_canDraw_147 (by decide) ?_
                          refine V_istore (lc' := [_, _, _, _, _, _, _, _, _, _, _, _]) dX4_canDraw_151 (by decide) rfl ?_
                          refine V_iinc (lc' := [_, _, _, _, _, _, _, _, _, _, _, _]) dX4_canDraw_153 rfl (by decide) rfl ?_
                          refine V_iinc (lc' := [_, _, _, _, _, _, _, _, _, _, _, _]) dX4_canDraw_156 rfl (by decide) rfl ?_
                          refine V_goto (tgt := 109) dX4_canDraw_159 (by decide) ?_
                          exact ih109 (by omega) (p109 + (-1)) k109 ⟨by omega, by omega, by first | exact Or.inl ⟨q121, by rw [sPick_s k109l, k109p, if_neg (fun w => w rfl)]; exact if_neg (fun w => q134 w.1), by rw [sCc_s k109l, if_neg q134]; omega⟩ | exact Or.inl ⟨rfl, by rw [sPick_s k109l, k109p, if_neg (fun w => w rfl)]; exact if_neg (fun w => by have := w.2; omega), by rw [sCc_s k109l, if_pos q134]; omega⟩ | exact Or.inr ⟨by omega, by rw [sPick_s k109l, k109p, if_neg (fun w => w rfl), if_pos ⟨q134, by omega⟩]⟩, by omega, by omega⟩ h hM hF
                      · refine V_goto (tgt := 156) dX4_canDraw_137 (by decide) ?_
                        refine V_iinc (lc' := [_, _, _, _, _, _, _, _, _, _, _, _]) dX4_canDraw_156 rfl (by decide) rfl ?_
                        refine V_goto (tgt := 109) dX4_canDraw_159 (by decide) ?_
                        exact ih109 (by omega) p109 f109 ⟨by omega, by omega, by first | exact Or.inl ⟨q121, by rw [sPick_s k109l, k109p, if_neg (fun w => w rfl)]; exact if_neg (fun w => q134 w.1), by rw [sCc_s k109l, if_neg q134]; omega⟩ | exact Or.inl ⟨rfl, by rw [sPick_s k109l, k109p, if_neg (fun w => w rfl)]; exact if_neg (fun w => by have := w.2; omega), by rw [sCc_s k109l, if_pos q134]; omega⟩ | exact Or.inr ⟨by omega, by rw [sPick_s k109l, k109p, if_neg (fun w => w rfl), if_pos ⟨q134, by omega⟩]⟩, by omega, by omega⟩ h hM hF
                exact lp109 0 (n6 % n51) (-1) ⟨by omega, by omega, Or.inl ⟨rfl, rfl, by show _ = _ - (0 : Int); omega⟩, by omega, by omega⟩ h hM hF
              · refine V_iconst dX4_canDraw_94 ?_
                refine V_zret (by first | exact pI_01 _ | omega) dX4_canDraw_95 rfl ?_
                have eS : sDr 30 0 M sd ne nm (k6 + 1).toNat = (M6, n6, 0) := by
                  rw [sDr_s k6l, ← k6e]
                  unfold sDr1
                  dsimp only
                  rw [if_neg (by decide), eK, if_pos (by rw [show M 20 0 = k51 by omega, ← k51e]; exact q91)]
                have eT := sDr_f eS rfl (ne + nm + nh).toNat (by omega)
                exact mret hM hF (by rw [eT]; exact (pI_f (show ¬ ((0 : Int) = 1) by decide)).symm) (by rw [eT])
            · refine V_iload dX4_canDraw_60 rfl ?_
              refine V_aload_n dX4_canDraw_62 rfl ?_
              refine V_iload dX4_canDraw_63 rfl ?_
              refine V_iload dX4_canDraw_65 rfl ?_
              refine V_iload dX4_canDraw_67 rfl ?_
              refine V_mC (as := [_, _, _]) dX4_canDraw_69 c_RX4_173 rfl (by decide) rfl (Nat.le_of_ble_eq_true rfl) hM hF (T_X4_isTrial g M6 k51 109 k6 (by omega) (by omega) (by omega) hI6 (by omega) (by omega)) (fun h hM hF => ?_)
              refine V_ifb_eq (tgt := 79) dX4_canDraw_72 (by decide) (fun q72 => ?_) (fun q72 => ?_)
              · refine V_iconst dX4_canDraw_79 ?_
                refine V_iadd dX4_canDraw_80 ?_
                refine V_istore (lc' := [_, _, _, _, _, _, _, _, _, _, _, _]) dX4_canDraw_81 (by decide) rfl ?_
                refine V_iinc (lc' := [_, _, _, _, _, _, _, _, _, _, _, _]) dX4_canDraw_83 rfl (by decide) rfl ?_
                refine V_goto (tgt := 51) dX4_canDraw_86 (by decide) ?_
                exact ih51 (by omega) (n51 + 0) ⟨by omega, by omega, by rw [sCc_s k51l, ← k51e]; first | rw [if_neg q72] | rw [if_pos q72]⟩ h hM hF
              · refine V_iconst dX4_canDraw_75 ?_
                refine V_goto (tgt := 80) dX4_canDraw_76 (by decide) ?_
                refine V_iadd dX4_canDraw_80 ?_
                refine V_istore (lc' := [_, _, _, _, _, _, _, _, _, _, _, _]) dX4_canDraw_81 (by decide) rfl ?_
                refine V_iinc (lc' := [_, _, _, _, _, _, _, _, _, _, _, _]) dX4_canDraw_83 rfl (by decide) rfl ?_
                refine V_goto (tgt := 51) dX4_canDraw_86 (by decide) ?_
                exact ih51 (by omega) (n51 + 1) ⟨by omega, by omega, by rw [sCc_s k51l, ← k51e]; first | rw [if_neg q72] | rw [if_pos q72]⟩ h hM hF
          exact lp51 0 0 ⟨by omega, by omega, rfl⟩ h hM hF
      · refine V_bipush dX4_canDraw_23 (by decide) ?_
        refine V_goto (tgt := 43) dX4_canDraw_25 (by decide) ?_
        refine V_istore (lc' := [_, _, _, _, _, _, _, _, _, _, _, _]) dX4_canDraw_43 (by decide) rfl ?_
        have eK : sDk ne nm k6 = 101 := by unfold sDk; (repeat' split) <;> first | rfl | (exfalso; omega)
        refine V_iconst dX4_canDraw_45 ?_
        refine V_istore (lc' := [_, _, _, _, _, _, _, _, _, _, _, _]) dX4_canDraw_46 (by decide) rfl ?_
        refine V_iconst dX4_canDraw_48 ?_
        refine V_istore (lc' := [_, _, _, _, _, _, _, _, _, _, _, _]) dX4_canDraw_49 (by decide) rfl ?_
        have lp51 : ∀ k51 : Int, ∀ n51 : Int, (0 ≤ k51 ∧ k51 ≤ M 20 0 ∧ n51 = sCc 30 0 M6 101 k6 k51.toNat) → ∀ h, MR h M6 → FR h0 h → V g m_X4_canDraw 6 (Qm h0 (some (xI (pI ((sDr 30 0 M sd ne nm (ne + nm + nh).toNat).2.2 = 1)))) ((sDr 30 0 M sd ne nm (ne + nm + nh).toNat).1)) h 51 [xR 18, xI sd, xI ne, xI nm, xI nh, xI n6, xI k6, xI 101, xI n51, xI k51, xU, xU] [] := by
          refine lp_up (M 20 0) (fun k51 ih51 => ?_)
          intro n51 hk h hM hF
          obtain ⟨k51l, k51u, k51e⟩ := hk
          have cr := sCc_r (f := 30) (o := 0) (M := M6) (kd := 101) (sz := k6) k51.toNat
          refine V_iload dX4_canDraw_51 rfl ?_
          refine V_aload_n dX4_canDraw_53 rfl ?_
          refine V_mg (f := 20) (z := M 20 0) dX4_canDraw_54 fg_RX4_76 rfl (by decide) hM ((o6 20 _ (by decide)).trans rfl) (fun r54 => ?_)
          refine V_icmp_ge (tgt := 89) dX4_canDraw_57 (by decide) (by omega) (by omega) (fun q57 => ?_) (fun q57 => ?_)
          · refine V_iload dX4_canDraw_89 rfl ?_
            refine V_if_ne (tgt := 96) dX4_canDraw_91 (by decide) (by omega) (fun q91 => ?_) (fun q91 => ?_)
            · have eC : n51 = sCc 30 0 M6 101 k6 (M 20 0).toNat := by rw [k51e, show k51 = M 20 0 by omega]
              have hp : 0 ≤ n6 % n51 ∧ n6 % n51 < n51 := ⟨Int.emod_nonneg _ q91, Int.emod_lt_of_pos _ (by omega)⟩
              refine V_iload dX4_canDraw_96 rfl ?_
              refine V_iload dX4_canDraw_98 rfl ?_
              refine V_irem dX4_canDraw_100 (by omega) (by omega) ?_
              refine V_istore (lc' := [_, _, _, _, _, _, _, _, _, _, _, _]) dX4_canDraw_101 (by decide) rfl ?_
              refine V_iconst dX4_canDraw_103 ?_
              refine V_istore (lc' := [_, _, _, _, _, _, _, _, _, _, _, _]) dX4_canDraw_104 (by decide) rfl ?_
              refine V_iconst dX4_canDraw_106 ?_
              refine V_istore (lc' := [_, _, _, _, _, _, _, _, _, _, _, _]) dX4_canDraw_107 (by decide) rfl ?_
              have lp109 : ∀ k109 : Int, ∀ p109 : Int, ∀ f109 : Int, (0 ≤ k109 ∧ k109 ≤ M 20 0 ∧ ((f109 = -1 ∧ sPick 30 0 M6 101 k6 (n6 % n51) k109.toNat = -1 ∧ p109 = n6 % n51 - sCc 30 0 M6 101 k6 k109.toNat) ∨ (f109 ≠ -1 ∧ sPick 30 0 M6 101 k6 (n6 % n51) k109.toNat = f109)) ∧ -2147483648 ≤ f109 ∧ f109 ≤ 2147483647) → ∀ h, MR h M6 → FR h0 h → V g m_X4_canDraw 6 (Qm h0 (some (xI (pI ((sDr 30 0 M sd ne nm (ne + nm + nh).toNat).2.2 = 1)))) ((sDr 30 0 M sd ne nm (ne + nm + nh).toNat).1)) h 109 [xR 18, xI sd, xI ne, xI nm, xI nh, xI n6, xI k6, xI 101, xI n51, xI p109, xI f109, xI k109] [] := by
                refine lp_up (M 20 0) (fun k109 ih109 => ?_)
                intro p109 f109 hk h hM hF
                obtain ⟨k109l, k109u, k109A, k109f⟩ := hk
                have cr2 := sCc_r (f := 30) (o := 0) (M := M6) (kd := 101) (sz := k6) k109.toNat
                refine V_iload dX4_canDraw_109 rfl ?_
                refine V_aload_n dX4_canDraw_111 rfl ?_
                refine V_mg (f := 20) (z := M 20 0) dX4_canDraw_112 fg_RX4_76 rfl (by decide) hM ((o6 20 _ (by decide)).trans rfl) (fun r112 => ?_)
                refine V_icmp_ge (tgt := 162) dX4_canDraw_115 (by decide) (by omega) (by omega) (fun q115 => ?_) (fun q115 => ?_)
                · have eF : sPick 30 0 M6 101 k6 (n6 % n51) (M 20 0).toNat = f109 := by
                    rcases k109A with ⟨w1, w2, w3⟩ | ⟨w1, w2⟩
                    · exfalso
                      first | exact q121 w1 | exact absurd w2 (by rw [show k109 = M 20 0 by omega]; exact sPick_ex hp.1 _ (by rw [← eC]; exact hp.2))
                    · exact sPick_st w2 w1 _ (by omega)
                  have bF := sPick_b (f := 30) (o := 0) (M := M6) (kd := 101) (sz := k6) hI.1.2.1 hp.1 (by rw [← eC]; exact hp.2)
                  rw [eF] at bF
                  have bF1 := bF.1
                  have bF2 := bF.2.1
                  refine V_aload_n dX4_canDraw_162 rfl ?_
                  refine V_mgA (f := 30) (a := 38) dX4_canDraw_163 fg_RX4_69 rfl (by decide) hM rfl ?_
                  refine V_iload dX4_canDraw_166 rfl ?_
                  refine V_iload dX4_canDraw_168 rfl ?_
                  refine V_mis (f := 30) (n := 27) dX4_canDraw_170 rfl rfl (by decide) rfl rfl hM hF (by omega) (by omega) (fun h hM hF => ?_)
                  refine V_iload dX4_canDraw_171 rfl ?_
                  refine V_iconst dX4_canDraw_173 ?_
                  refine V_imul dX4_canDraw_174 ?_
                  refine V_iconst dX4_canDraw_175 ?_
                  refine V_iadd dX4_canDraw_176 ?_
                  refine V_sipush dX4_canDraw_177 (by decide) ?_
                  refine V_irem dX4_canDraw_180 (by omega) (by omega) ?_
                  refine V_istore (lc' := [_, _, _, _, _, _, _, _, _, _, _, _]) dX4_canDraw_181 (by decide) rfl ?_
                  refine V_iinc (lc' := [_, _, _, _, _, _, _, _, _, _, _, _]) dX4_canDraw_183 rfl (by decide) rfl ?_
                  refine V_goto (tgt := 6) dX4_canDraw_186 (by decide) ?_
                  refine V_wk (lc' := [_, _, _, _, _, _, _, xU, xU, xU, xU, xU]) ⟨Or.inr rfl, Or.inr rfl, Or.inr rfl, Or.inr rfl, Or.inr rfl, Or.inr rfl, Or.inr rfl, Or.inl rfl, Or.inl rfl, Or.inl rfl, Or.inl rfl, Or.inl rfl, trivial⟩ ?_
                  exact ih6 (by omega) (((n6 * 5) + 3) % 1009) (mset M6 30 k6 f109) ⟨by omega, by omega, by rw [sDr_s k6l, ← k6e]; unfold sDr1; dsimp only; rw [if_neg (by decide), eK, if_neg (by rw [← eC]; exact q91), ← eC, eF, Int.zero_add]⟩ h hM hF
                · refine V_iload dX4_canDraw_118 rfl ?_
                  refine V_iconst dX4_canDraw_120 ?_
                  refine V_icmp_ne (tgt := 162) dX4_canDraw_121 (by decide) (by omega) (by omega) (fun q121 => ?_) (fun q121 => ?_)
                  · have eF : sPick 30 0 M6 101 k6 (n6 % n51) (M 20 0).toNat = f109 := by
                      rcases k109A with ⟨w1, w2, w3⟩ | ⟨w1, w2⟩
                      · exfalso
                        first | exact q121 w1 | exact absurd w2 (by rw [show k109 = M 20 0 by omega]; exact sPick_ex hp.1 _ (by rw [← eC]; exact hp.2))
                      · exact sPick_st w2 w1 _ (by omega)
                    have bF := sPick_b (f := 30) (o := 0) (M := M6) (kd := 101) (sz := k6) hI.1.2.1 hp.1 (by rw [← eC]; exact hp.2)
                    rw [eF] at bF
                    have bF1 := bF.1
                    have bF2 := bF.2.1
                    refine V_aload_n dX4_canDraw_162 rfl ?_
                    refine V_mgA (f := 30) (a := 38) dX4_canDraw_163 fg_RX4_69 rfl (by decide) hM rfl ?_
                    refine V_iload dX4_canDraw_166 rfl ?_
                    refine V_iload dX4_canDraw_168 rfl ?_
                    refine V_mis (f := 30) (n := 27) dX4_canDraw_170 rfl rfl (by decide) rfl rfl hM hF (by omega) (by omega) (fun h hM hF => ?_)
                    refine V_iload dX4_canDraw_171 rfl ?_
                    refine V_iconst dX4_canDraw_173 ?_
                    refine V_imul dX4_canDraw_174 ?_
                    refine V_iconst dX4_canDraw_175 ?_
                    refine V_iadd dX4_canDraw_176 ?_
                    refine V_sipush dX4_canDraw_177 (by decide) ?_
                    refine V_irem dX4_canDraw_180 (by omega) (by omega) ?_
                    refine V_istore (lc' := [_, _, _, _, _, _, _, _, _, _, _, _]) dX4_canDraw_181 (by decide) rfl ?_
                    refine V_iinc (lc' := [_, _, _, _, _, _, _, _, _, _, _, _]) dX4_canDraw_183 rfl (by decide) rfl ?_
                    refine V_goto (tgt := 6) dX4_canDraw_186 (by decide) ?_
                    refine V_wk (lc' := [_, _, _, _, _, _, _, xU, xU, xU, xU, xU]) ⟨Or.inr rfl, Or.inr rfl, Or.inr rfl, Or.inr rfl, Or.inr rfl, Or.inr rfl, Or.inr rfl, Or.inl rfl, Or.inl rfl, Or.inl rfl, Or.inl rfl, Or.inl rfl, trivial⟩ ?_
                    exact ih6 (by omega) (((n6 * 5) + 3) % 1009) (mset M6 30 k6 f109) ⟨by omega, by omega, by rw [sDr_s k6l, ← k6e]; unfold sDr1; dsimp only; rw [if_neg (by decide), eK, if_neg (by rw [← eC]; exact q91), ← eC, eF, Int.zero_add]⟩ h hM hF
                  · obtain ⟨-, k109p, k109q⟩ := k109A.resolve_right (fun w => w.1 q121)
                    refine V_aload_n dX4_canDraw_124 rfl ?_
                    refine V_iload dX4_canDraw_125 rfl ?_
                    refine V_iload dX4_canDraw_127 rfl ?_
                    refine V_iload dX4_canDraw_129 rfl ?_
                    refine V_mC (as := [_, _, _]) dX4_canDraw_131 c_RX4_173 rfl (by decide) rfl (Nat.le_of_ble_eq_true rfl) hM hF (T_X4_isTrial g M6 k109 101 k6 (by omega) (by omega) (by omega) hI6 (by omega) (by omega)) (fun h hM hF => ?_)
                    refine V_ifb_ne (tgt := 140) dX4_canDraw_134 (by decide) (fun q134 => ?_) (fun q134 => ?_)
                    · refine V_iload dX4_canDraw_140 rfl ?_
                      refine V_if_ne (tgt := 150) dX4_canDraw_142 (by decide) (by omega) (fun q142 => ?_) (fun q142 => ?_)
                      · refine V_iconst dX4_canDraw_150 ?_
                        refine V_istore (lc' := [_, _, _, _, _, _, _, _, _, _, _, _]) dX4_canDraw_151 (by decide) rfl ?_
                        refine V_iinc (lc' := [_, _, _, _, _, _, _, _, _, _, _, _]) dX4_canDraw_153 rfl (by decide) rfl ?_
                        refine V_iinc (lc' := [_, _, _, _, _, _, _, _, _, _, _, _]) dX4_canDraw_156 rfl (by decide) rfl ?_
                        refine V_goto (tgt := 109) dX4_canDraw_159 (by decide) ?_
                        exact ih109 (by omega) (p109 + (-1)) (-1) ⟨by omega, by omega, by first | exact Or.inl ⟨q121, by rw [sPick_s k109l, k109p, if_neg (fun w => w rfl)]; exact if_neg (fun w => q134 w.1), by rw [sCc_s k109l, if_neg q134]; omega⟩ | exact Or.inl ⟨rfl, by rw [sPick_s k109l, k109p, if_neg (fun w => w rfl)]; exact if_neg (fun w => by have := w.2; omega), by rw [sCc_s k109l, if_pos q134]; omega⟩ | exact Or.inr ⟨by omega, by rw [sPick_s k109l, k109p, if_neg (fun w => w rfl), if_pos ⟨q134, by omega⟩]⟩, by omega, by omega⟩ h hM hF
                      · refine V_iload dX4_canDraw_145 rfl ?_
                        refine V_goto (tgt := 151) dX4_canDraw_147 (by decide) ?_
                        refine V_istore (lc' := [_, _, _, _, _, _, _, _, _, _, _, _]) dX4_canDraw_151 (by decide) rfl ?_
                        refine V_iinc (lc' := [_, _, _, _, _, _, _, _, _, _, _, _]) dX4_canDraw_153 rfl (by decide) rfl ?_
                        refine V_iinc (lc' := [_, _, _, _, _, _, _, _, _, _, _, _]) dX4_canDraw_156 rfl (by decide) rfl ?_
                        refine V_goto (tgt := 109) dX4_canDraw_159 (by decide) ?_
                        exact ih109 (by omega) (p109 + (-1)) k109 ⟨by omega, by omega, by first | exact Or.inl ⟨q121, by rw [sPick_s k109l, k109p, if_neg (fun w => w rfl)]; exact if_neg (fun w => q134 w.1), by rw [sCc_s k109l, if_neg q134]; omega⟩ | exact Or.inl ⟨rfl, by rw [sPick_s k109l, k109p, if_neg (fun w => w rfl)]; exact if_neg (fun w => by have := w.2; omega), by rw [sCc_s k109l, if_pos q134]; omega⟩ | exact Or.inr ⟨by omega, by rw [sPick_s k109l, k109p, if_neg (fun w => w rfl), if_pos ⟨q134, by omega⟩]⟩, by omega, by omega⟩ h hM hF
                    · refine V_goto (tgt := 156) dX4_canDraw_137 (by decide) ?_
                      refine V_iinc (lc' := [_, _, _, _, _, _, _, _, _, _, _, _]) dX4_canDraw_156 rfl (by decide) rfl ?_
                      refine V_goto (tgt := 109) dX4_canDraw_159 (by decide) ?_
                      exact ih109 (by omega) p109 f109 ⟨by omega, by omega, by first | exact Or.inl ⟨q121, by rw [sPick_s k109l, k109p, if_neg (fun w => w rfl)]; exact if_neg (fun w => q134 w.1), by rw [sCc_s k109l, if_neg q134]; omega⟩ | exact Or.inl ⟨rfl, by rw [sPick_s k109l, k109p, if_neg (fun w => w rfl)]; exact if_neg (fun w => by have := w.2; omega), by rw [sCc_s k109l, if_pos q134]; omega⟩ | exact Or.inr ⟨by omega, by rw [sPick_s k109l, k109p, if_neg (fun w => w rfl), if_pos ⟨q134, by omega⟩]⟩, by omega, by omega⟩ h hM hF
              exact lp109 0 (n6 % n51) (-1) ⟨by omega, by omega, Or.inl ⟨rfl, rfl, by show _ = _ - (0 : Int); omega⟩, by omega, by omega⟩ h hM hF
            · refine V_iconst dX4_canDraw_94 ?_
              refine V_zret (by first | exact pI_01 _ | omega) dX4_canDraw_95 rfl ?_
              have eS : sDr 30 0 M sd ne nm (k6 + 1).toNat = (M6, n6, 0) := by
                rw [sDr_s k6l, ← k6e]
                unfold sDr1
                dsimp only
                rw [if_neg (by decide), eK, if_pos (by rw [show M 20 0 = k51 by omega, ← k51e]; exact q91)]
              have eT := sDr_f eS rfl (ne + nm + nh).toNat (by omega)
              exact mret hM hF (by rw [eT]; exact (pI_f (show ¬ ((0 : Int) = 1) by decide)).symm) (by rw [eT])
          · refine V_iload dX4_canDraw_60 rfl ?_
            refine V_aload_n dX4_canDraw_62 rfl ?_
            refine V_iload dX4_canDraw_63 rfl ?_
            refine V_iload dX4_canDraw_65 rfl ?_
            refine V_iload dX4_canDraw_67 rfl ?_
            refine V_mC (as := [_, _, _]) dX4_canDraw_69 c_RX4_173 rfl (by decide) rfl (Nat.le_of_ble_eq_true rfl) hM hF (T_X4_isTrial g M6 k51 101 k6 (by omega) (by omega) (by omega) hI6 (by omega) (by omega)) (fun h hM hF => ?_)
            refine V_ifb_eq (tgt := 79) dX4_canDraw_72 (by decide) (fun q72 => ?_) (fun q72 => ?_)
            · refine V_iconst dX4_canDraw_79 ?_
              refine V_iadd dX4_canDraw_80 ?_
              refine V_istore (lc' := [_, _, _, _, _, _, _, _, _, _, _, _]) dX4_canDraw_81 (by decide) rfl ?_
              refine V_iinc (lc' := [_, _, _, _, _, _, _, _, _, _, _, _]) dX4_canDraw_83 rfl (by decide) rfl ?_
              refine V_goto (tgt := 51) dX4_canDraw_86 (by decide) ?_
              exact ih51 (by omega) (n51 + 0) ⟨by omega, by omega, by rw [sCc_s k51l, ← k51e]; first | rw [if_neg q72] | rw [if_pos q72]⟩ h hM hF
            · refine V_iconst dX4_canDraw_75 ?_
              refine V_goto (tgt := 80) dX4_canDraw_76 (by decide) ?_
              refine V_iadd dX4_canDraw_80 ?_
              refine V_istore (lc' := [_, _, _, _, _, _, _, _, _, _, _, _]) dX4_canDraw_81 (by decide) rfl ?_
              refine V_iinc (lc' := [_, _, _, _, _, _, _, _, _, _, _, _]) dX4_canDraw_83 rfl (by decide) rfl ?_
              refine V_goto (tgt := 51) dX4_canDraw_86 (by decide) ?_
              exact ih51 (by omega) (n51 + 1) ⟨by omega, by omega, by rw [sCc_s k51l, ← k51e]; first | rw [if_neg q72] | rw [if_pos q72]⟩ h hM hF
        exact lp51 0 0 ⟨by omega, by omega, rfl⟩ h hM hF
  exact lp6 0 sd M ⟨by omega, by omega, rfl⟩ h hM hF
theorem T_X4_quiz (g : GP) (M : MS) (sd : Int) (ne : Int) (nm : Int) (nh : Int) (r_sd : -2147483648 ≤ sd ∧ sd ≤ 2147483647) (r_ne : -2147483648 ≤ ne ∧ ne ≤ 2147483647) (r_nm : -2147483648 ≤ nm ∧ nm ≤ 2147483647) (r_nh : -2147483648 ≤ nh ∧ nh ≤ 2147483647) (hI : IM M) : TM g m_X4_quiz 7 [xI sd, xI ne, xI nm, xI nh] M (some (xI ((s_quiz M sd ne nm nh).1))) ((s_quiz M sd ne nm nh).2) := by
  refine TM.of (by decide) rfl (fun v hv => ?_) (Nat.le_of_ble_eq_true rfl) ?_
  · simp only [List.mem_cons, List.not_mem_nil, or_false] at hv
    rcases hv with rfl | rfl | rfl | rfl <;> exact ⟨_, rfl⟩
  intro h0 h hM hF
  change V g m_X4_quiz 7 _ h 0 [xR 18, xI sd, xI ne, xI nm, xI nh, xU, xU, xU, xU, xU, xU] []
  obtain ⟨⟨i19, i20, i21, i22, i23, i24, i25, i26, i29⟩, iA⟩ := id hI
  refine V_iload_n dX4_quiz_0 rfl ?_
  refine V_iconst dX4_quiz_1 ?_
  refine V_sipush dX4_quiz_2 (by decide) ?_
  refine V_pS (as := [_, _, _]) dX4_quiz_5 c_RX4_79 rfl (by decide) rfl (Nat.le_of_ble_eq_true rfl) (T_X4_in g sd 0 1008 (by omega) (by omega) (by omega)) ?_
  refine V_ifb_eq (tgt := 55) dX4_quiz_8 (by decide) (fun q8 => ?_) (fun q8 => ?_)
  · refine V_iconst dX4_quiz_55 ?_
    refine V_istore (lc' := [_, _, _, _, _, _, _, _, _, _, _]) dX4_quiz_56 (by decide) rfl ?_
    refine V_aload_n dX4_quiz_58 rfl ?_
    refine V_iload dX4_quiz_59 rfl ?_
    refine V_if_eq (tgt := 68) dX4_quiz_61 (by decide) (by decide) (fun _ => ?_) (fun q61 => absurd q61 (by decide))
    refine V_iconst dX4_quiz_68 ?_
    refine V_mp (f := 27) dX4_quiz_69 f_RX4_72 rfl (by decide) hM hF (by omega) (fun h hM hF => ?_)
    refine V_aload_n dX4_quiz_72 rfl ?_
    refine V_mg (f := 27) (z := 1) dX4_quiz_73 fg_RX4_72 rfl (by decide) hM (by simp [sT, mset]) (fun r73 => ?_)
    refine V_if_le (tgt := 81) dX4_quiz_76 (by decide) (by decide) (fun q76 => absurd q76 (by decide)) (fun _ => ?_)
    refine V_iconst dX4_quiz_79 ?_
    refine V_iret dX4_quiz_80 rfl ?_
    refine mret hM hF ?_ ?_ <;> (unfold s_quiz; (repeat' split) <;> first | rfl | contradiction | (exfalso; omega))
  · refine V_iload_n dX4_quiz_11 rfl ?_
    refine V_iconst dX4_quiz_12 ?_
    refine V_bipush dX4_quiz_13 (by decide) ?_
    refine V_pS (as := [_, _, _]) dX4_quiz_15 c_RX4_79 rfl (by decide) rfl (Nat.le_of_ble_eq_true rfl) (T_X4_in g ne 0 9 (by omega) (by omega) (by omega)) ?_
    refine V_ifb_eq (tgt := 55) dX4_quiz_18 (by decide) (fun q18 => ?_) (fun q18 => ?_)
    · refine V_iconst dX4_quiz_55 ?_
      refine V_istore (lc' := [_, _, _, _, _, _, _, _, _, _, _]) dX4_quiz_56 (by decide) rfl ?_
      refine V_aload_n dX4_quiz_58 rfl ?_
      refine V_iload dX4_quiz_59 rfl ?_
      refine V_if_eq (tgt := 68) dX4_quiz_61 (by decide) (by decide) (fun _ => ?_) (fun q61 => absurd q61 (by decide))
      refine V_iconst dX4_quiz_68 ?_
      refine V_mp (f := 27) dX4_quiz_69 f_RX4_72 rfl (by decide) hM hF (by omega) (fun h hM hF => ?_)
      refine V_aload_n dX4_quiz_72 rfl ?_
      refine V_mg (f := 27) (z := 1) dX4_quiz_73 fg_RX4_72 rfl (by decide) hM (by simp [sT, mset]) (fun r73 => ?_)
      refine V_if_le (tgt := 81) dX4_quiz_76 (by decide) (by decide) (fun q76 => absurd q76 (by decide)) (fun _ => ?_)
      refine V_iconst dX4_quiz_79 ?_
      refine V_iret dX4_quiz_80 rfl ?_
      refine mret hM hF ?_ ?_ <;> (unfold s_quiz; (repeat' split) <;> first | rfl | contradiction | (exfalso; omega))
    · refine V_iload_n dX4_quiz_21 rfl ?_
      refine V_iconst dX4_quiz_22 ?_
      refine V_bipush dX4_quiz_23 (by decide) ?_
      refine V_pS (as := [_, _, _]) dX4_quiz_25 c_RX4_79 rfl (by decide) rfl (Nat.le_of_ble_eq_true rfl) (T_X4_in g nm 0 9 (by omega) (by omega) (by omega)) ?_
      refine V_ifb_eq (tgt := 55) dX4_quiz_28 (by decide) (fun q28 => ?_) (fun q28 => ?_)
      · refine V_iconst dX4_quiz_55 ?_
        refine V_istore (lc' := [_, _, _, _, _, _, _, _, _, _, _]) dX4_quiz_56 (by decide) rfl ?_
        refine V_aload_n dX4_quiz_58 rfl ?_
        refine V_iload dX4_quiz_59 rfl ?_
        refine V_if_eq (tgt := 68) dX4_quiz_61 (by decide) (by decide) (fun _ => ?_) (fun q61 => absurd q61 (by decide))
        refine V_iconst dX4_quiz_68 ?_
        refine V_mp (f := 27) dX4_quiz_69 f_RX4_72 rfl (by decide) hM hF (by omega) (fun h hM hF => ?_)
        refine V_aload_n dX4_quiz_72 rfl ?_
        refine V_mg (f := 27) (z := 1) dX4_quiz_73 fg_RX4_72 rfl (by decide) hM (by simp [sT, mset]) (fun r73 => ?_)
        refine V_if_le (tgt := 81) dX4_quiz_76 (by decide) (by decide) (fun q76 => absurd q76 (by decide)) (fun _ => ?_)
        refine V_iconst dX4_quiz_79 ?_
        refine V_iret dX4_quiz_80 rfl ?_
        refine mret hM hF ?_ ?_ <;> (unfold s_quiz; (repeat' split) <;> first | rfl | contradiction | (exfalso; omega))
      · refine V_iload dX4_quiz_31 rfl ?_
        refine V_iconst dX4_quiz_33 ?_
        refine V_bipush dX4_quiz_34 (by decide) ?_
        refine V_pS (as := [_, _, _]) dX4_quiz_36 c_RX4_79 rfl (by decide) rfl (Nat.le_of_ble_eq_true rfl) (T_X4_in g nh 0 9 (by omega) (by omega) (by omega)) ?_
        refine V_ifb_eq (tgt := 55) dX4_quiz_39 (by decide) (fun q39 => ?_) (fun q39 => ?_)
        · refine V_iconst dX4_quiz_55 ?_
          refine V_istore (lc' := [_, _, _, _, _, _, _, _, _, _, _]) dX4_quiz_56 (by decide) rfl ?_
          refine V_aload_n dX4_quiz_58 rfl ?_
          refine V_iload dX4_quiz_59 rfl ?_
          refine V_if_eq (tgt := 68) dX4_quiz_61 (by decide) (by decide) (fun _ => ?_) (fun q61 => absurd q61 (by decide))
          refine V_iconst dX4_quiz_68 ?_
          refine V_mp (f := 27) dX4_quiz_69 f_RX4_72 rfl (by decide) hM hF (by omega) (fun h hM hF => ?_)
          refine V_aload_n dX4_quiz_72 rfl ?_
          refine V_mg (f := 27) (z := 1) dX4_quiz_73 fg_RX4_72 rfl (by decide) hM (by simp [sT, mset]) (fun r73 => ?_)
          refine V_if_le (tgt := 81) dX4_quiz_76 (by decide) (by decide) (fun q76 => absurd q76 (by decide)) (fun _ => ?_)
          refine V_iconst dX4_quiz_79 ?_
          refine V_iret dX4_quiz_80 rfl ?_
          refine mret hM hF ?_ ?_ <;> (unfold s_quiz; (repeat' split) <;> first | rfl | contradiction | (exfalso; omega))
        · refine V_iload_n dX4_quiz_42 rfl ?_
          refine V_iload_n dX4_quiz_43 rfl ?_
          refine V_iadd dX4_quiz_44 ?_
          refine V_iload dX4_quiz_45 rfl ?_
          refine V_iadd dX4_quiz_47 ?_
          refine V_if_le (tgt := 55) dX4_quiz_48 (by decide) (by omega) (fun q48 => ?_) (fun q48 => ?_)
          · refine V_iconst dX4_quiz_55 ?_
            refine V_istore (lc' := [_, _, _, _, _, _, _, _, _, _, _]) dX4_quiz_56 (by decide) rfl ?_
            refine V_aload_n dX4_quiz_58 rfl ?_
            refine V_iload dX4_quiz_59 rfl ?_
            refine V_if_eq (tgt := 68) dX4_quiz_61 (by decide) (by decide) (fun _ => ?_) (fun q61 => absurd q61 (by decide))
            refine V_iconst dX4_quiz_68 ?_
            refine V_mp (f := 27) dX4_quiz_69 f_RX4_72 rfl (by decide) hM hF (by omega) (fun h hM hF => ?_)
            refine V_aload_n dX4_quiz_72 rfl ?_
            refine V_mg (f := 27) (z := 1) dX4_quiz_73 fg_RX4_72 rfl (by decide) hM (by simp [sT, mset]) (fun r73 => ?_)
            refine V_if_le (tgt := 81) dX4_quiz_76 (by decide) (by decide) (fun q76 => absurd q76 (by decide)) (fun _ => ?_)
            refine V_iconst dX4_quiz_79 ?_
            refine V_iret dX4_quiz_80 rfl ?_
            refine mret hM hF ?_ ?_ <;> (unfold s_quiz; (repeat' split) <;> first | rfl | contradiction | (exfalso; omega))
          · refine V_iconst dX4_quiz_51 ?_
            refine V_goto (tgt := 56) dX4_quiz_52 (by decide) ?_
            refine V_istore (lc' := [_, _, _, _, _, _, _, _, _, _, _]) dX4_quiz_56 (by decide) rfl ?_
            refine V_aload_n dX4_quiz_58 rfl ?_
            refine V_iload dX4_quiz_59 rfl ?_
            refine V_if_eq (tgt := 68) dX4_quiz_61 (by decide) (by decide) (fun q61 => absurd q61 (by decide)) (fun _ => ?_)
            refine V_iconst dX4_quiz_64 ?_
            refine V_goto (tgt := 69) dX4_quiz_65 (by decide) ?_
            refine V_mp (f := 27) dX4_quiz_69 f_RX4_72 rfl (by decide) hM hF (by omega) (fun h hM hF => ?_)
            refine V_aload_n dX4_quiz_72 rfl ?_
            refine V_mg (f := 27) (z := 0) dX4_quiz_73 fg_RX4_72 rfl (by decide) hM (by simp [sT, mset]) (fun r73 => ?_)
            refine V_if_le (tgt := 81) dX4_quiz_76 (by decide) (by decide) (fun _ => ?_) (fun q76 => absurd q76 (by decide))
            refine V_aload_n dX4_quiz_81 rfl ?_
            refine V_mg (f := 23) (z := M 23 0) dX4_quiz_82 fg_RX4_86 rfl (by decide) hM (by simp [sT, mset]) (fun r82 => ?_)
            refine V_bipush dX4_quiz_85 (by decide) ?_
            refine V_icmp_ne (tgt := 113) dX4_quiz_87 (by decide) (by omega) (by omega) (fun q87 => ?_) (fun q87 => ?_)
            · refine V_iload_n dX4_quiz_113 rfl ?_
              refine V_istore (lc' := [_, _, _, _, _, _, _, _, _, _, _]) dX4_quiz_114 (by decide) rfl ?_
              refine V_iconst dX4_quiz_116 ?_
              refine V_istore (lc' := [_, _, _, _, _, _, _, _, _, _, _]) dX4_quiz_117 (by decide) rfl ?_
              refine V_iconst dX4_quiz_119 ?_
              refine V_istore (lc' := [_, _, _, _, _, _, _, _, _, _, _]) dX4_quiz_120 (by decide) rfl ?_
              have lp122 : ∀ k122 : Int, ∀ n122 : Int, ∀ M122 : MS, (0 ≤ k122 ∧ k122 ≤ ne + nm + nh ∧ (M122, n122, 1) = sDr 16 (27 * M 23 0) (mset M 27 0 0) sd ne nm k122.toNat) → ∀ h, MR h M122 → FR h0 h → V g m_X4_quiz 7 (Qm h0 (some (xI ((s_quiz M sd ne nm nh).1))) ((s_quiz M sd ne nm nh).2)) h 122 [xR 18, xI sd, xI ne, xI nm, xI nh, xI 1, xI n122, xI k122, xI k122, xU, xU] [] := by
                refine lp_up (ne + nm + nh) (fun k122 ih122 => ?_)
                intro n122 M122 hk h hM hF
                obtain ⟨k122l, k122u, k122e⟩ := hk
                have oI122 := sDr_o (f := 16) (Or.inl rfl) (o := 27 * M 23 0) (M := mset M 27 0 0) (e := ne) (m := nm) hI (seed := sd) (by omega) k122.toNat
                rw [← k122e] at oI122
                obtain ⟨o122, hI122, d122, -⟩ := oI122
                dsimp only at o122 hI122 d122
                have e20 : M122 20 0 = M 20 0 := (o122 20 0 (by decide)).trans rfl
                have e23 : M122 23 0 = M 23 0 := (o122 23 0 (by decide)).trans rfl
                refine V_iload dX4_quiz_122 rfl ?_
                refine V_iload_n dX4_quiz_124 rfl ?_
                refine V_iload_n dX4_quiz_125 rfl ?_
                refine V_iadd dX4_quiz_126 ?_
                refine V_iload dX4_quiz_127 rfl ?_
                refine V_iadd dX4_quiz_129 ?_
                refine V_icmp_ge (tgt := 233) dX4_quiz_130 (by decide) (by omega) (by omega) (fun q130 => ?_) (fun q130 => ?_)
                · refine V_aload_n dX4_quiz_233 rfl ?_
                  refine V_iload dX4_quiz_234 rfl ?_
                  refine V_mC (as := [_]) dX4_quiz_236 c_RX4_169 rfl (by decide) rfl (Nat.le_of_ble_eq_true rfl) hM hF (T_X4_made g M122 k122 (by omega) hI122 (by omega) (by omega)) (fun h hM hF => ?_)
                  have hM : MR h (sSettle (mset (mset (mset M122 17 (M122 23 0) k122) 13 (M122 23 0) 115) 23 0 (M122 23 0 + 1))) := hM
                  obtain ⟨N236, eN236⟩ : ∃ X, X = sSettle (mset (mset (mset M122 17 (M122 23 0) k122) 13 (M122 23 0) 115) 23 0 (M122 23 0 + 1)) := ⟨_, rfl⟩
                  rw [← eN236] at hM
                  obtain ⟨oN236, hIN236⟩ := sSettle_o (M := (mset (mset (mset M122 17 (M122 23 0) k122) 13 (M122 23 0) 115) 23 0 (M122 23 0 + 1))) (((hI122.s17 (by omega)).s13 (by omega)).s23 (by omega))
                  rw [← eN236] at oN236 hIN236
                  refine V_aload_n dX4_quiz_239 rfl ?_
                  refine V_mg (f := 23) (z := (M122 23 0 + 1)) dX4_quiz_240 fg_RX4_86 rfl (by decide) hM ((oN236 23 _ (by decide)).trans (by simp [sT, mset])) (fun r240 => ?_)
                  refine V_iconst dX4_quiz_243 ?_
                  refine V_isub dX4_quiz_244 ?_
                  refine V_iret dX4_quiz_245 rfl ?_
                  have eT : sDr 16 (27 * M 23 0) (sT M 0) sd ne nm (ne + nm + nh).toNat = (M122, n122, 1) := by rw [show ne + nm + nh = k122 by omega]; exact k122e.symm
                  refine mret hM hF ?_ ?_ <;> (unfold s_quiz; rw [eT]; (repeat' split) <;> first | (exfalso; omega) | (rename_i w; exact absurd w (by decide)) | (rw [e23]; done) | (rw [eN236, show k122 = ne + nm + nh by omega]; rfl))
                · refine V_iload dX4_quiz_133 rfl ?_
                  refine V_iload_n dX4_quiz_135 rfl ?_
                  refine V_icmp_ge (tgt := 144) dX4_quiz_136 (by decide) (by omega) (by omega) (fun q136 => ?_) (fun q136 => ?_)
                  · refine V_iload dX4_quiz_144 rfl ?_
                    refine V_iload_n dX4_quiz_146 rfl ?_
                    refine V_iload_n dX4_quiz_147 rfl ?_
                    refine V_iadd dX4_quiz_148 ?_
                    refine V_icmp_ge (tgt := 157) dX4_quiz_149 (by decide) (by omega) (by omega) (fun q149 => ?_) (fun q149 => ?_)
                    · refine V_bipush dX4_quiz_157 (by decide) ?_
                      refine V_istore (lc' := [_, _, _, _, _, _, _, _, _, _, _]) dX4_quiz_159 (by decide) rfl ?_
                      have eK : sDk ne nm k122 = 104 := by unfold sDk; (repeat' split) <;> first | rfl | (exfalso; omega)
                      refine V_aload_n dX4_quiz_161 rfl ?_
                      refine V_iconst dX4_quiz_162 ?_
                      refine V_iload dX4_quiz_163 rfl ?_
                      refine V_iload dX4_quiz_165 rfl ?_
                      refine V_mC (as := [_, _, _]) dX4_quiz_167 c_RX4_165 rfl (by decide) rfl (Nat.le_of_ble_eq_true rfl) hM hF (T_X4_candidate g M122 (-1) 104 k122 (by omega) (by omega) (by omega) hI122 (by omega) (by omega)) (fun h hM hF => ?_)
                      obtain ⟨c167, ec⟩ : ∃ c, c = s_cand M122 (-1) 104 k122 := ⟨_, rfl⟩
                      rw [← ec]
                      have ec2 := ec.trans s_cand_n
                      have cr := sCc_r (f := 16) (o := 27 * M122 23 0) (M := M122) (kd := 104) (sz := k122) (M122 20 0).toNat
                      rw [← ec2] at cr
                      rw [e23, e20] at ec2
                      have ec3 : sCc 16 (27 * M 23 0) M122 104 k122 (mset M 27 0 0 20 0).toNat = c167 := ec2.symm
                      refine V_istore (lc' := [_, _, _, _, _, _, _, _, _, _, _]) dX4_quiz_170 (by decide) rfl ?_
                      refine V_iload dX4_quiz_172 rfl ?_
                      refine V_if_ne (tgt := 184) dX4_quiz_174 (by decide) (by omega) (fun q174 => ?_) (fun q174 => ?_)
                      · refine V_aload_n dX4_quiz_184 rfl ?_
                        refine V_mgA (f := 16) (a := 35) dX4_quiz_185 fg_RX4_60 rfl (by decide) hM rfl ?_
                        refine V_bipush dX4_quiz_188 (by decide) ?_
                        refine V_aload_n dX4_quiz_190 rfl ?_
                        refine V_mg (f := 23) (z := M 23 0) dX4_quiz_191 fg_RX4_86 rfl (by decide) hM ((o122 23 _ (by decide)).trans (by simp [sT, mset])) (fun r191 => ?_)
                        refine V_imul dX4_quiz_194 ?_
                        refine V_iload dX4_quiz_195 rfl ?_
                        refine V_iadd dX4_quiz_197 ?_
                        refine V_aload_n dX4_quiz_198 rfl ?_
                        refine V_iload dX4_quiz_199 rfl ?_
                        refine V_iload dX4_quiz_201 rfl ?_
                        refine V_irem dX4_quiz_203 (by omega) (by omega) ?_
                        refine V_iload dX4_quiz_204 rfl ?_
                        refine V_iload dX4_quiz_206 rfl ?_
                        have hp : 0 ≤ n122 % c167 ∧ n122 % c167 < c167 := ⟨Int.emod_nonneg _ q174, Int.emod_lt_of_pos _ (by omega)⟩
                        refine V_mC (as := [_, _, _]) dX4_quiz_208 c_RX4_165 rfl (by decide) rfl (Nat.le_of_ble_eq_true rfl) hM hF (T_X4_candidate g M122 (n122 % c167) 104 k122 (by omega) (by omega) (by omega) hI122 (by omega) (by omega)) (fun h hM hF => ?_)
                        have bP := sPick_b (f := 16) (o := 27 * M 23 0) (M := M122) (kd := 104) (sz := k122) (n0 := mset M 27 0 0 20 0) i20 hp.1 (by rw [ec3]; exact hp.2)
                        obtain ⟨r208, er⟩ : ∃ r, r = sPick 16 (27 * M 23 0) M122 104 k122 (n122 % c167) (mset M 27 0 0 20 0).toNat := ⟨_, rfl⟩
                        rw [← er] at bP
                        have bP1 := bP.1
                        have bP2 := bP.2.1
                        have eP : s_cand M122 (n122 % c167) 104 k122 = r208 := by
                          rw [er, s_cand_p hp.1 (by rw [e23, e20, ← ec2]; exact hp.2), e23, e20]
                          try rfl
                        rw [eP]
                        refine V_mis (f := 16) (n := 810) dX4_quiz_211 rfl rfl (by decide) rfl rfl hM hF (by omega) (by omega) (fun h hM hF => ?_)
                        refine V_iinc (lc' := [_, _, _, _, _, _, _, _, _, _, _]) dX4_quiz_212 rfl (by decide) rfl ?_
                        refine V_iload dX4_quiz_215 rfl ?_
                        refine V_iconst dX4_quiz_217 ?_
                        refine V_imul dX4_quiz_218 ?_
                        refine V_iconst dX4_quiz_219 ?_
                        refine V_iadd dX4_quiz_220 ?_
                        refine V_sipush dX4_quiz_221 (by decide) ?_
                        refine V_irem dX4_quiz_224 (by omega) (by omega) ?_
                        refine V_istore (lc' := [_, _, _, _, _, _, _, _, _, _, _]) dX4_quiz_225 (by decide) rfl ?_
                        refine V_iinc (lc' := [_, _, _, _, _, _, _, _, _, _, _]) dX4_quiz_227 rfl (by decide) rfl ?_
                        refine V_goto (tgt := 122) dX4_quiz_230 (by decide) ?_
                        refine V_wk (lc' := [_, _, _, _, _, _, _, _, _, xU, xU]) ⟨Or.inr rfl, Or.inr rfl, Or.inr rfl, Or.inr rfl, Or.inr rfl, Or.inr rfl, Or.inr rfl, Or.inr rfl, Or.inr rfl, Or.inl rfl, Or.inl rfl, trivial⟩ ?_
                        exact ih122 (by omega) (((n122 * 5) + 3) % 1009) (mset M122 16 ((27 * (M 23 0)) + k122) r208) ⟨by omega, by omega, by rw [sDr_s k122l, ← k122e]; unfold sDr1; dsimp only; rw [if_neg (by decide), eK, ec3, if_neg q174, er]⟩ h hM hF
                      · refine V_aload_n dX4_quiz_177 rfl ?_
                        refine V_iconst dX4_quiz_178 ?_
                        refine V_mp (f := 27) dX4_quiz_179 f_RX4_72 rfl (by decide) hM hF (by omega) (fun h hM hF => ?_)
                        refine V_iconst dX4_quiz_182 ?_
                        refine V_iret dX4_quiz_183 rfl ?_
                        have eS : sDr 16 (27 * M 23 0) (mset M 27 0 0) sd ne nm (k122 + 1).toNat = (M122, n122, 0) := by
                          rw [sDr_s k122l, ← k122e]
                          unfold sDr1
                          dsimp only
                          rw [if_neg (by decide), eK, ec3, if_pos q174]
                        have eT : sDr 16 (27 * M 23 0) (sT M 0) sd ne nm (ne + nm + nh).toNat = (M122, n122, 0) := sDr_f eS rfl _ (by omega)
                        refine mret hM hF ?_ ?_ <;> (unfold s_quiz; rw [eT]; (repeat' split) <;> first | rfl | (exfalso; omega) | (rename_i w; exact absurd rfl w))
                    · refine V_bipush dX4_quiz_152 (by decide) ?_
                      refine V_goto (tgt := 159) dX4_quiz_154 (by decide) ?_
                      refine V_istore (lc' := [_, _, _, _, _, _, _, _, _, _, _]) dX4_quiz_159 (by decide) rfl ?_
                      have eK : sDk ne nm k122 = 109 := by unfold sDk; (repeat' split) <;> first | rfl | (exfalso; omega)
                      refine V_aload_n dX4_quiz_161 rfl ?_
                      refine V_iconst dX4_quiz_162 ?_
                      refine V_iload dX4_quiz_163 rfl ?_
                      refine V_iload dX4_quiz_165 rfl ?_
                      refine V_mC (as := [_, _, _]) dX4_quiz_167 c_RX4_165 rfl (by decide) rfl (Nat.le_of_ble_eq_true rfl) hM hF (T_X4_candidate g M122 (-1) 109 k122 (by omega) (by omega) (by omega) hI122 (by omega) (by omega)) (fun h hM hF => ?_)
                      obtain ⟨c167, ec⟩ : ∃ c, c = s_cand M122 (-1) 109 k122 := ⟨_, rfl⟩
                      rw [← ec]
                      have ec2 := ec.trans s_cand_n
                      have cr := sCc_r (f := 16) (o := 27 * M122 23 0) (M := M122) (kd := 109) (sz := k122) (M122 20 0).toNat
                      rw [← ec2] at cr
                      rw [e23, e20] at ec2
                      have ec3 : sCc 16 (27 * M 23 0) M122 109 k122 (mset M 27 0 0 20 0).toNat = c167 := ec2.symm
                      refine V_istore (lc' := [_, _, _, _, _, _, _, _, _, _, _]) dX4_quiz_170 (by decide) rfl ?_
                      refine V_iload dX4_quiz_172 rfl ?_
                      refine V_if_ne (tgt := 184) dX4_quiz_174 (by decide) (by omega) (fun q174 => ?_) (fun q174 => ?_)
                      · refine V_aload_n dX4_quiz_184 rfl ?_
                        refine V_mgA (f := 16) (a := 35) dX4_quiz_185 fg_RX4_60 rfl (by decide) hM rfl ?_
                        refine V_bipush dX4_quiz_188 (by decide) ?_
                        refine V_aload_n dX4_quiz_190 rfl ?_
                        refine V_mg (f := 23) (z := M 23 0) dX4_quiz_191 fg_RX4_86 rfl (by decide) hM ((o122 23 _ (by decide)).trans (by simp [sT, mset])) (fun r191 => ?_)
                        refine V_imul dX4_quiz_194 ?_
                        refine V_iload dX4_quiz_195 rfl ?_
                        refine V_iadd dX4_quiz_197 ?_
                        refine V_aload_n dX4_quiz_198 rfl ?_
                        refine V_iload dX4_quiz_199 rfl ?_
                        refine V_iload dX4_quiz_201 rfl ?_
                        refine V_irem dX4_quiz_203 (by omega) (by omega) ?_
                        refine V_iload dX4_quiz_204 rfl ?_
                        refine V_iload dX4_quiz_206 rfl ?_
                        have hp : 0 ≤ n122 % c167 ∧ n122 % c167 < c167 := ⟨Int.emod_nonneg _ q174, Int.emod_lt_of_pos _ (by omega)⟩
                        refine V_mC (as := [_, _, _]) dX4_quiz_208 c_RX4_165 rfl (by decide) rfl (Nat.le_of_ble_eq_true rfl) hM hF (T_X4_candidate g M122 (n122 % c167) 109 k122 (by omega) (by omega) (by omega) hI122 (by omega) (by omega)) (fun h hM hF => ?_)
                        have bP := sPick_b (f := 16) (o := 27 * M 23 0) (M := M122) (kd := 109) (sz := k122) (n0 := mset M 27 0 0 20 0) i20 hp.1 (by rw [ec3]; exact hp.2)
                        obtain ⟨r208, er⟩ : ∃ r, r = sPick 16 (27 * M 23 0) M122 109 k122 (n122 % c167) (mset M 27 0 0 20 0).toNat := ⟨_, rfl⟩
                        rw [← er] at bP
                        have bP1 := bP.1
                        have bP2 := bP.2.1
                        have eP : s_cand M122 (n122 % c167) 109 k122 = r208 := by
                          rw [er, s_cand_p hp.1 (by rw [e23, e20, ← ec2]; exact hp.2), e23, e20]
                          try rfl
                        rw [eP]
                        refine V_mis (f := 16) (n := 810) dX4_quiz_211 rfl rfl (by decide) rfl rfl hM hF (by omega) (by omega) (fun h hM hF => ?_)
                        refine V_iinc (lc' := [_, _, _, _, _, _, _, _, _, _, _]) dX4_quiz_212 rfl (by decide) rfl ?_
                        refine V_iload dX4_quiz_215 rfl ?_
                        refine V_iconst dX4_quiz_217 ?_
                        refine V_imul dX4_quiz_218 ?_
                        refine V_iconst dX4_quiz_219 ?_
                        refine V_iadd dX4_quiz_220 ?_
                        refine V_sipush dX4_quiz_221 (by decide) ?_
                        refine V_irem dX4_quiz_224 (by omega) (by omega) ?_
                        refine V_istore (lc' := [_, _, _, _, _, _, _, _, _, _, _]) dX4_quiz_225 (by decide) rfl ?_
                        refine V_iinc (lc' := [_, _, _, _, _, _, _, _, _, _, _]) dX4_quiz_227 rfl (by decide) rfl ?_
                        refine V_goto (tgt := 122) dX4_quiz_230 (by decide) ?_
                        refine V_wk (lc' := [_, _, _, _, _, _, _, _, _, xU, xU]) ⟨Or.inr rfl, Or.inr rfl, Or.inr rfl, Or.inr rfl, Or.inr rfl, Or.inr rfl, Or.inr rfl, Or.inr rfl, Or.inr rfl, Or.inl rfl, Or.inl rfl, trivial⟩ ?_
                        exact ih122 (by omega) (((n122 * 5) + 3) % 1009) (mset M122 16 ((27 * (M 23 0)) + k122) r208) ⟨by omega, by omega, by rw [sDr_s k122l, ← k122e]; unfold sDr1; dsimp only; rw [if_neg (by decide), eK, ec3, if_neg q174, er]⟩ h hM hF
                      · refine V_aload_n dX4_quiz_177 rfl ?_
                        refine V_iconst dX4_quiz_178 ?_
                        refine V_mp (f := 27) dX4_quiz_179 f_RX4_72 rfl (by decide) hM hF (by omega) (fun h hM hF => ?_)
                        refine V_iconst dX4_quiz_182 ?_
                        refine V_iret dX4_quiz_183 rfl ?_
                        have eS : sDr 16 (27 * M 23 0) (mset M 27 0 0) sd ne nm (k122 + 1).toNat = (M122, n122, 0) := by
                          rw [sDr_s k122l, ← k122e]
                          unfold sDr1
                          dsimp only
                          rw [if_neg (by decide), eK, ec3, if_pos q174]
                        have eT : sDr 16 (27 * M 23 0) (sT M 0) sd ne nm (ne + nm + nh).toNat = (M122, n122, 0) := sDr_f eS rfl _ (by omega)
                        refine mret hM hF ?_ ?_ <;> (unfold s_quiz; rw [eT]; (repeat' split) <;> first | rfl | (exfalso; omega) | (rename_i w; exact absurd rfl w))
                  · refine V_bipush dX4_quiz_139 (by decide) ?_
                    refine V_goto (tgt := 159) dX4_quiz_141 (by decide) ?_
                    refine V_istore (lc' := [_, _, _, _, _, _, _, _, _, _, _]) dX4_quiz_159 (by decide) rfl ?_
                    have eK : sDk ne nm k122 = 101 := by unfold sDk; (repeat' split) <;> first | rfl | (exfalso; omega)
                    refine V_aload_n dX4_quiz_161 rfl ?_
                    refine V_iconst dX4_quiz_162 ?_
                    refine V_iload dX4_quiz_163 rfl ?_
                    refine V_iload dX4_quiz_165 rfl ?_
                    refine V_mC (as := [_, _, _]) dX4_quiz_167 c_RX4_165 rfl (by decide) rfl (Nat.le_of_ble_eq_true rfl) hM hF (T_X4_candidate g M122 (-1) 101 k122 (by omega) (by omega) (by omega) hI122 (by omega) (by omega)) (fun h hM hF => ?_)
                    obtain ⟨c167, ec⟩ : ∃ c, c = s_cand M122 (-1) 101 k122 := ⟨_, rfl⟩
                    rw [← ec]
                    have ec2 := ec.trans s_cand_n
                    have cr := sCc_r (f := 16) (o := 27 * M122 23 0) (M := M122) (kd := 101) (sz := k122) (M122 20 0).toNat
                    rw [← ec2] at cr
                    rw [e23, e20] at ec2
                    have ec3 : sCc 16 (27 * M 23 0) M122 101 k122 (mset M 27 0 0 20 0).toNat = c167 := ec2.symm
                    refine V_istore (lc' := [_, _, _, _, _, _, _, _, _, _, _]) dX4_quiz_170 (by decide) rfl ?_
                    refine V_iload dX4_quiz_172 rfl ?_
                    refine V_if_ne (tgt := 184) dX4_quiz_174 (by decide) (by omega) (fun q174 => ?_) (fun q174 => ?_)
                    · refine V_aload_n dX4_quiz_184 rfl ?_
                      refine V_mgA (f := 16) (a := 35) dX4_quiz_185 fg_RX4_60 rfl (by decide) hM rfl ?_
                      refine V_bipush dX4_quiz_188 (by decide) ?_
                      refine V_aload_n dX4_quiz_190 rfl ?_
                      refine V_mg (f := 23) (z := M 23 0) dX4_quiz_191 fg_RX4_86 rfl (by decide) hM ((o122 23 _ (by decide)).trans (by simp [sT, mset])) (fun r191 => ?_)
                      refine V_imul dX4_quiz_194 ?_
                      refine V_iload dX4_quiz_195 rfl ?_
                      refine V_iadd dX4_quiz_197 ?_
                      refine V_aload_n dX4_quiz_198 rfl ?_
                      refine V_iload dX4_quiz_199 rfl ?_
                      refine V_iload dX4_quiz_201 rfl ?_
                      refine V_irem dX4_quiz_203 (by omega) (by omega) ?_
                      refine V_iload dX4_quiz_204 rfl ?_
                      refine V_iload dX4_quiz_206 rfl ?_
                      have hp : 0 ≤ n122 % c167 ∧ n122 % c167 < c167 := ⟨Int.emod_nonneg _ q174, Int.emod_lt_of_pos _ (by omega)⟩
                      refine V_mC (as := [_, _, _]) dX4_quiz_208 c_RX4_165 rfl (by decide) rfl (Nat.le_of_ble_eq_true rfl) hM hF (T_X4_candidate g M122 (n122 % c167) 101 k122 (by omega) (by omega) (by omega) hI122 (by omega) (by omega)) (fun h hM hF => ?_)
                      have bP := sPick_b (f := 16) (o := 27 * M 23 0) (M := M122) (kd := 101) (sz := k122) (n0 := mset M 27 0 0 20 0) i20 hp.1 (by rw [ec3]; exact hp.2)
                      obtain ⟨r208, er⟩ : ∃ r, r = sPick 16 (27 * M 23 0) M122 101 k122 (n122 % c167) (mset M 27 0 0 20 0).toNat := ⟨_, rfl⟩
                      rw [← er] at bP
                      have bP1 := bP.1
                      have bP2 := bP.2.1
                      have eP : s_cand M122 (n122 % c167) 101 k122 = r208 := by
                        rw [er, s_cand_p hp.1 (by rw [e23, e20, ← ec2]; exact hp.2), e23, e20]
                        try rfl
                      rw [eP]
                      refine V_mis (f := 16) (n := 810) dX4_quiz_211 rfl rfl (by decide) rfl rfl hM hF (by omega) (by omega) (fun h hM hF => ?_)
                      refine V_iinc (lc' := [_, _, _, _, _, _, _, _, _, _, _]) dX4_quiz_212 rfl (by decide) rfl ?_
                      refine V_iload dX4_quiz_215 rfl ?_
                      refine V_iconst dX4_quiz_217 ?_
                      refine V_imul dX4_quiz_218 ?_
                      refine V_iconst dX4_quiz_219 ?_
                      refine V_iadd dX4_quiz_220 ?_
                      refine V_sipush dX4_quiz_221 (by decide) ?_
                      refine V_irem dX4_quiz_224 (by omega) (by omega) ?_
                      refine V_istore (lc' := [_, _, _, _, _, _, _, _, _, _, _]) dX4_quiz_225 (by decide) rfl ?_
                      refine V_iinc (lc' := [_, _, _, _, _, _, _, _, _, _, _]) dX4_quiz_227 rfl (by decide) rfl ?_
                      refine V_goto (tgt := 122) dX4_quiz_230 (by decide) ?_
                      refine V_wk (lc' := [_, _, _, _, _, _, _, _, _, xU, xU]) ⟨Or.inr rfl, Or.inr rfl, Or.inr rfl, Or.inr rfl, Or.inr rfl, Or.inr rfl, Or.inr rfl, Or.inr rfl, Or.inr rfl, Or.inl rfl, Or.inl rfl, trivial⟩ ?_
                      exact ih122 (by omega) (((n122 * 5) + 3) % 1009) (mset M122 16 ((27 * (M 23 0)) + k122) r208) ⟨by omega, by omega, by rw [sDr_s k122l, ← k122e]; unfold sDr1; dsimp only; rw [if_neg (by decide), eK, ec3, if_neg q174, er]⟩ h hM hF
                    · refine V_aload_n dX4_quiz_177 rfl ?_
                      refine V_iconst dX4_quiz_178 ?_
                      refine V_mp (f := 27) dX4_quiz_179 f_RX4_72 rfl (by decide) hM hF (by omega) (fun h hM hF => ?_)
                      refine V_iconst dX4_quiz_182 ?_
                      refine V_iret dX4_quiz_183 rfl ?_
                      have eS : sDr 16 (27 * M 23 0) (mset M 27 0 0) sd ne nm (k122 + 1).toNat = (M122, n122, 0) := by
                        rw [sDr_s k122l, ← k122e]
                        unfold sDr1
                        dsimp only
                        rw [if_neg (by decide), eK, ec3, if_pos q174]
                      have eT : sDr 16 (27 * M 23 0) (sT M 0) sd ne nm (ne + nm + nh).toNat = (M122, n122, 0) := sDr_f eS rfl _ (by omega)
                      refine mret hM hF ?_ ?_ <;> (unfold s_quiz; rw [eT]; (repeat' split) <;> first | rfl | (exfalso; omega) | (rename_i w; exact absurd rfl w))
              exact lp122 0 sd (mset M 27 0 0) ⟨by omega, by omega, rfl⟩ h hM hF
            · refine V_aload_n dX4_quiz_90 rfl ?_
              refine V_aload_n dX4_quiz_91 rfl ?_
              refine V_iload_n dX4_quiz_92 rfl ?_
              refine V_iload_n dX4_quiz_93 rfl ?_
              refine V_iload_n dX4_quiz_94 rfl ?_
              refine V_iload dX4_quiz_95 rfl ?_
              refine V_mC (as := [_, _, _, _]) dX4_quiz_97 c_RX4_161 rfl (by decide) rfl (Nat.le_of_ble_eq_true rfl) hM hF (T_X4_canDraw g (mset M 27 0 0) sd ne nm nh (by omega) (by omega) (by omega) (by omega) hI (by omega) (by omega) (by omega) (by omega)) (fun h hM hF => ?_)
              refine V_ifb_eq (tgt := 107) dX4_quiz_100 (by decide) (fun q100 => ?_) (fun q100 => ?_)
              · refine V_iconst dX4_quiz_107 ?_
                refine V_mp (f := 27) dX4_quiz_108 f_RX4_72 rfl (by decide) hM hF (by omega) (fun h hM hF => ?_)
                refine V_iconst dX4_quiz_111 ?_
                refine V_iret dX4_quiz_112 rfl ?_
                refine mret hM hF ?_ ?_ <;> (unfold s_quiz; (repeat' split) <;> first | rfl | contradiction | (exfalso; omega))
              · refine V_iconst dX4_quiz_103 ?_
                refine V_goto (tgt := 108) dX4_quiz_104 (by decide) ?_
                refine V_mp (f := 27) dX4_quiz_108 f_RX4_72 rfl (by decide) hM hF (by omega) (fun h hM hF => ?_)
                refine V_iconst dX4_quiz_111 ?_
                refine V_iret dX4_quiz_112 rfl ?_
                refine mret hM hF ?_ ?_ <;> (unfold s_quiz; (repeat' split) <;> first | rfl | contradiction | (exfalso; omega))

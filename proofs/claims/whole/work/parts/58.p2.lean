theorem T_X3_twin (g : GP) (N U : Nat) (D : MS) (a : Int) (b : Int) (r_a : -2147483648 ≤ a ∧ a ≤ 2147483647) (r_b : -2147483648 ≤ b ∧ b ≤ 2147483647) (hI : ID D) (hN : N + 200 ≤ z_CC) (hU : U + 5000 ≤ z_CS) : TX g m_X3_twin 11 [xR 8, xI a, xI b] N U D (d_twin D a b) := by
  refine TX.of (by decide) rfl (fun v hv => ?_) (Nat.le_of_ble_eq_true rfl) ?_
  · simp only [List.mem_cons, List.not_mem_nil, or_false] at hv
    rcases hv with rfl | rfl | rfl <;> first | exact Or.inl ⟨_, rfl⟩ | exact Or.inr ⟨_, rfl⟩
  intro A h0 h hM hF
  obtain ⟨i90, i91, i92⟩ := hI.n
  obtain ⟨c90, c91, c92⟩ := hI.c
  obtain ⟨⟨z90, -⟩, ⟨z91, -⟩, z92, -⟩ := hM.b.2.2.1
  change V g m_X3_twin 11 _ h 0 [xR 8, xI a, xI b, xU, xU] []
  refine V_aload_n dX3_twin_0 rfl ?_
  refine V_iload_n dX3_twin_1 rfl ?_
  rcases (Classical.em (0 ≤ a ∧ a < D 70 45)).symm with w2 | w2
  · refine V_cV (as := [_]) dX3_twin_2 c_RX3_93 rfl (by decide) rfl (Nat.le_of_ble_eq_true rfl) hM.kx (X_X3_questionOf g hM a (by omega) hI w2) (fun E9 h9 z9 => ?_) (fun v9 h9 z9 => nomatch z9.1)
    obtain ⟨z8, n9, n9a, n9b, rfl⟩ := z9
    cases z8
    exact qthr hM hF hN hU n9a n9b (by unfold d_twin; (repeat' split) <;> first | rfl | (exfalso; omega)) rfl
  refine V_pV (as := [_]) dX3_twin_2 c_RX3_93 rfl (by decide) rfl (Nat.le_of_ble_eq_true rfl) hM.kx (T_X3_questionOf g hM a (by omega) hI (by omega)) ?_
  refine V_astore_n (lc' := [_, _, _, _, _]) dX3_twin_5 (by decide) rfl ?_
  refine V_aload_n dX3_twin_6 rfl ?_
  refine V_iload_n dX3_twin_7 rfl ?_
  rcases (Classical.em (0 ≤ b ∧ b < D 70 45)).symm with w8 | w8
  · refine V_cV (as := [_]) dX3_twin_8 c_RX3_93 rfl (by decide) rfl (Nat.le_of_ble_eq_true rfl) hM.kx (X_X3_questionOf g hM b (by omega) hI w8) (fun E9 h9 z9 => ?_) (fun v9 h9 z9 => nomatch z9.1)
    obtain ⟨z8, n9, n9a, n9b, rfl⟩ := z9
    cases z8
    exact qthr hM hF hN hU n9a n9b (by unfold d_twin; (repeat' split) <;> first | rfl | (exfalso; omega)) rfl
  refine V_pV (as := [_]) dX3_twin_8 c_RX3_93 rfl (by decide) rfl (Nat.le_of_ble_eq_true rfl) hM.kx (T_X3_questionOf g hM b (by omega) hI (by omega)) ?_
  refine V_astore (lc' := [_, _, _, _, _]) dX3_twin_11 (by decide) rfl ?_
  refine V_aload_n dX3_twin_13 rfl ?_
  refine V_aload dX3_twin_14 rfl ?_
  refine V_acmp_ne (tgt := 29) dX3_twin_16 (by decide) (Or.inr ⟨(Or.inr (Or.inl (hM.ge (vAq (by decide) (by omega))).1)), (Or.inr (Or.inl (hM.ge (vAq (by decide) (by omega))).1))⟩) (fun q16 => ?_) (fun q16 => ?_)
  · have e16 : a ≠ b := fun w => q16 (by rw [w])
    refine V_aload_n dX3_twin_29 rfl ?_
    refine V_aload_n dX3_twin_30 rfl ?_
    refine V_dg (f := 0) (F := 26) (i := a) (t := a) (w := D 26 a) dX3_twin_31 fg_RX3_99 rfl rfl rfl rfl hM (vFq (by decide) (by omega)) rfl (fun r31 => ?_)
    have b31 := hI.a26 a
    refine V_aload dX3_twin_34 rfl ?_
    refine V_dg (f := 0) (F := 26) (i := b) (t := b) (w := D 26 b) dX3_twin_36 fg_RX3_99 rfl rfl rfl rfl hM (vFq (by decide) (by omega)) rfl (fun r36 => ?_)
    have b36 := hI.a26 b
    refine V_dC (as := [_, _]) dX3_twin_39 c_RX3_102 rfl (by decide) rfl (Nat.le_of_ble_eq_true rfl) hM.kx hM hF (T_X3_joinFamilies g A N U D (D 26 a) (D 26 b) (by omega) (by omega) hI (hI.a26 a)) (fun h hM hF => ?_)
    obtain ⟨N39, eN39⟩ : ∃ X, X = dJf D (D 26 a) (D 26 b) (D 90 0).toNat := ⟨_, rfl⟩
    rw [← eN39] at hM
    obtain ⟨oN39, hIN39⟩ := dJf_o (D := D) (D 26 a) (D 26 b) hI (hI.a26 a)
    rw [← eN39] at oN39 hIN39
    obtain ⟨e90_39, e91_39, e92_39, -⟩ : dST D N39 := (dST.rf.tr (dST.of oN39 (by decide)))
    have n39 := hIN39.n
    refine V_aload_n dX3_twin_42 rfl ?_
    refine V_dC (as := []) dX3_twin_43 c_RX3_90 rfl (by decide) rfl (Nat.le_of_ble_eq_true rfl) hM.kx hM hF (T_X3_settlePlans g A N U N39  hIN39) (fun h hM hF => ?_)
    obtain ⟨N43, eN43⟩ : ∃ X, X = dSet N39 := ⟨_, rfl⟩
    rw [← eN43] at hM
    obtain ⟨oN43, hIN43⟩ := dSet_o (D := N39)  hIN39
    rw [← eN43] at oN43 hIN43
    obtain ⟨e90_43, e91_43, e92_43, -⟩ : dST D N43 := ((dST.rf.tr (dST.of oN39 (by decide))).tr (dST.of oN43 (by decide)))
    have n43 := hIN43.n
    refine V_aload_n dX3_twin_46 rfl ?_
    refine V_aload_n dX3_twin_47 rfl ?_
    refine V_pV (as := [_]) dX3_twin_48 c_RX3_106 rfl (by decide) rfl (Nat.le_of_ble_eq_true rfl) hM.kx (T_X3_countTwins g hM a hIN43 (by omega)) ?_
    refine V_iret dX3_twin_51 rfl ?_
    exact qret hM hF hN hU (by unfold d_twin; rw [if_neg (by omega), if_neg (by omega), if_neg (by omega), ← eN39, ← eN43, e90_43]) rfl
  · have e16 := (hM.inj (vAq (by decide) (by omega)) (vAq (by decide) (by omega)) q16).2
    refine V_throw dX3_twin_19 dX3_twin_22 dX3_twin_23 dX3_twin_25 dX3_twin_28 t_RX3_46_97 rfl (by decide) (by have := hM.room; omega) (by have := hM.room; omega) (fun n9 n9a n9b => ?_)
    exact qthr hM hF hN hU n9a n9b (by unfold d_twin; (repeat' split) <;> first | rfl | (exfalso; omega)) rfl
theorem T_X3_drop (g : GP) (N U : Nat) (D : MS) (p : Int) (r_p : -2147483648 ≤ p ∧ p ≤ 2147483647) (hI : ID D) (hN : N + 200 ≤ z_CC) (hU : U + 5000 ≤ z_CS) : TX g m_X3_drop 11 [xR 8, xI p] N U D (d_drop D p) := by
  refine TX.of (by decide) rfl (fun v hv => ?_) (Nat.le_of_ble_eq_true rfl) ?_
  · simp only [List.mem_cons, List.not_mem_nil, or_false] at hv
    rcases hv with rfl | rfl <;> first | exact Or.inl ⟨_, rfl⟩ | exact Or.inr ⟨_, rfl⟩
  intro A h0 h hM hF
  obtain ⟨i90, i91, i92⟩ := hI.n
  obtain ⟨c90, c91, c92⟩ := hI.c
  obtain ⟨⟨z90, -⟩, ⟨z91, -⟩, z92, -⟩ := hM.b.2.2.1
  change V g m_X3_drop 11 _ h 0 [xR 8, xI p, xU, xU] []
  refine V_aload_n dX3_drop_0 rfl ?_
  refine V_iload_n dX3_drop_1 rfl ?_
  rcases (Classical.em (0 ≤ p ∧ p < D 70 46)).symm with w2 | w2
  · refine V_cV (as := [_]) dX3_drop_2 c_RX3_173 rfl (by decide) rfl (Nat.le_of_ble_eq_true rfl) hM.kx (X_X3_planOf g hM p (by omega) hI w2) (fun E9 h9 z9 => ?_) (fun v9 h9 z9 => nomatch z9.1)
    obtain ⟨z8, n9, n9a, n9b, rfl⟩ := z9
    cases z8
    exact qthr hM hF hN hU n9a n9b (by unfold d_drop; (repeat' split) <;> first | rfl | (exfalso; omega)) rfl
  refine V_pV (as := [_]) dX3_drop_2 c_RX3_173 rfl (by decide) rfl (Nat.le_of_ble_eq_true rfl) hM.kx (T_X3_planOf g hM p (by omega) hI (by omega)) ?_
  refine V_astore_n (lc' := [_, _, _, _]) dX3_drop_5 (by decide) rfl ?_
  refine V_aload_n dX3_drop_6 rfl ?_
  refine V_dg (f := 3) (F := 54) (i := p) (t := p) (w := D 54 p) dX3_drop_7 fg_RX3_177 rfl rfl rfl rfl hM (vFp (by decide) (by omega)) rfl (fun r7 => ?_)
  have b7 := hI.a54 p
  refine V_if_eq (tgt := 23) dX3_drop_10 (by decide) (by omega) (fun q10 => ?_) (fun q10 => ?_)
  · refine V_aload_n dX3_drop_23 rfl ?_
    refine V_dgr (f := 3) (i := p) (b := (A 6 (3 + p))) dX3_drop_24 fg_RX3_183 rfl rfl rfl hM (vAp (by omega)) (hM.s.2.2.2.1 p (by omega)) ?_
    refine V_dSz (l := (3 + p)) (w := D 70 (3 + p)) dX3_drop_27 c_RX3_69 rfl (by decide) (Nat.le_of_ble_eq_true rfl) rfl hM (vLp (by omega)) rfl (fun r27 => ?_)
    refine V_istore_n (lc' := [_, _, _, _]) dX3_drop_30 (by decide) rfl ?_
    refine V_aload_n dX3_drop_31 rfl ?_
    refine V_dS (as := [_]) dX3_drop_32 c_RX3_186 rfl (by decide) rfl (Nat.le_of_ble_eq_true rfl) hM hF (T_X3_close g A N U D p hI (by omega)) (fun h hM hF => ?_)
    obtain ⟨N32, eN32⟩ : ∃ X, X = dCls D p := ⟨_, rfl⟩
    rw [← eN32] at hM
    obtain ⟨oN32, hIN32⟩ := dCls_o (D := D) p hI (by omega)
    rw [← eN32] at oN32 hIN32
    obtain ⟨e90_32, e91_32, e92_32, -⟩ : dST D N32 := (dST.rf.tr (dST.of oN32 (by decide)))
    have n32 := hIN32.n
    refine V_aload_n dX3_drop_35 rfl ?_
    refine V_dC (as := []) dX3_drop_36 c_RX3_90 rfl (by decide) rfl (Nat.le_of_ble_eq_true rfl) hM.kx hM hF (T_X3_settlePlans g A N U N32  hIN32) (fun h hM hF => ?_)
    obtain ⟨N36, eN36⟩ : ∃ X, X = dSet N32 := ⟨_, rfl⟩
    rw [← eN36] at hM
    obtain ⟨oN36, hIN36⟩ := dSet_o (D := N32)  hIN32
    rw [← eN36] at oN36 hIN36
    obtain ⟨e90_36, e91_36, e92_36, -⟩ : dST D N36 := ((dST.rf.tr (dST.of oN32 (by decide))).tr (dST.of oN36 (by decide)))
    have n36 := hIN36.n
    refine V_iload_n dX3_drop_39 rfl ?_
    refine V_iret dX3_drop_40 rfl ?_
    exact qret hM hF hN hU (by unfold d_drop; (repeat' split) <;> first | rfl | (exfalso; omega) | (rw [eN36, eN32]; done) | (rw [eN36, eN32]; rfl)) rfl
  · refine V_throw dX3_drop_13 dX3_drop_16 dX3_drop_17 dX3_drop_19 dX3_drop_22 t_RX3_64_181 rfl (by decide) (by have := hM.room; omega) (by have := hM.room; omega) (fun n9 n9a n9b => ?_)
    exact qthr hM hF hN hU n9a n9b (by unfold d_drop; (repeat' split) <;> first | rfl | (exfalso; omega)) rfl
theorem T_X3_print (g : GP) (N U : Nat) (D : MS)   (hI : ID D) (hN : N + 200 ≤ z_CC) (hU : U + 5000 ≤ z_CS) : TX g m_X3_print 11 [xR 8] N U D (d_print D) := by
  refine TX.of (by decide) rfl (fun v hv => ?_) (Nat.le_of_ble_eq_true rfl) ?_
  · simp only [List.mem_cons, List.not_mem_nil, or_false] at hv
    subst hv; first | exact Or.inl ⟨_, rfl⟩ | exact Or.inr ⟨_, rfl⟩
  intro A h0 h hM hF
  obtain ⟨i90, i91, i92⟩ := hI.n
  obtain ⟨c90, c91, c92⟩ := hI.c
  obtain ⟨⟨z90, -⟩, ⟨z91, -⟩, z92, -⟩ := hM.b.2.2.1
  change V g m_X3_print 11 _ h 0 [xR 8, xU, xU, xU, xU] []
  have bF := dFw_r hI
  have b70 := hI.a70 (15 + dFw D)
  refine V_aload_n dX3_print_0 rfl ?_
  refine V_dg (f := 8) (F := 7) (i := 0) (t := 0) (w := D 7 0) dX3_print_1 fg_RX3_244 rfl rfl rfl hM.fx.1 hM (vFx (by decide)) rfl (fun r1 => ?_)
  have b1 := hI.a7
  refine V_if_eq (tgt := 17) dX3_print_4 (by decide) (by omega) (fun q4 => ?_) (fun q4 => ?_)
  · refine V_aload_n dX3_print_17 rfl ?_
    refine V_pV (as := []) dX3_print_18 c_RX3_249 rfl (by decide) rfl (Nat.le_of_ble_eq_true rfl) hM.kx (T_X3_firstWaiting g hM  hI) ?_
    refine V_istore_n (lc' := [_, _, _, _, _]) dX3_print_21 (by decide) rfl ?_
    refine V_iload_n dX3_print_22 rfl ?_
    refine V_if_lt (tgt := 37) dX3_print_23 (by decide) (by omega) (fun q23 => ?_) (fun q23 => ?_)
    · refine V_throwN dX3_print_37 dX3_print_40 dX3_print_41 dX3_print_43 dX3_print_46 t_RX3_113_252 rfl (by decide) (by have := hM.room; omega) (by have := hM.room; omega) (fun n9 n9a n9b => ?_)
      exact qthr hM hF hN hU n9a n9b (by unfold d_print; (repeat' split) <;> first | rfl | (exfalso; omega)) rfl
    · refine V_iload_n dX3_print_26 rfl ?_
      refine V_aload_n dX3_print_27 rfl ?_
      refine V_dgr (f := 8) (i := 0) (b := 13) dX3_print_28 fg_RX3_26 rfl rfl hM.fx.1 hM (vAx (by decide)) hM.s.1.2.2.2.2.1 ?_
      refine V_dSz (l := 47) (w := D 70 47) dX3_print_31 c_RX3_69 rfl (by decide) (Nat.le_of_ble_eq_true rfl) hM.fx.2.2.2.2.2.2.1 hM (vL4 (by decide)) rfl (fun r31 => ?_)
      refine V_icmp_lt (tgt := 47) dX3_print_34 (by decide) (by omega) (by omega) (fun q34 => ?_) (fun q34 => ?_)
      · refine V_aload_n dX3_print_47 rfl ?_
        refine V_dgr (f := 8) (i := 0) (b := 13) dX3_print_48 fg_RX3_26 rfl rfl hM.fx.1 hM (vAx (by decide)) hM.s.1.2.2.2.2.1 ?_
        refine V_iload_n dX3_print_51 rfl ?_
        refine V_dG47 dX3_print_52 c_RX3_132 rfl (by decide) (Nat.le_of_ble_eq_true rfl) hM (by omega) (rfl.trans (hI.s (by omega))) ?_
        refine V_ckc dX3_print_55 k_RX3_217 (hM.kd (f := 4) (vAs (by decide) (by omega))) ?_
        refine V_astore_n (lc' := [_, _, _, _, _]) dX3_print_58 (by decide) rfl ?_
        refine V_aload_n dX3_print_59 rfl ?_
        refine V_bipush dX3_print_60 (by decide) ?_
        refine V_dpc (f := 4) (F := 60) (i := (dFw D)) (t := (dFw D)) dX3_print_62 f_RX3_240 rfl rfl rfl rfl hM hF (vFs (by omega)) (by decide) (fun h hM hF => ?_)
        refine V_iconst dX3_print_65 ?_
        refine V_istore_n (lc' := [_, _, _, _, _]) dX3_print_66 (by decide) rfl ?_
        have lp67 : ∀ k67 : Int, ∀ M67 : MS, (0 ≤ k67 ∧ k67 ≤ D 70 (15 + dFw D) ∧ M67 = dPrN (mset D 60 (dFw D) 112) (dFw D) k67.toNat) → ∀ h, DR h A M67 N U → FD h0 h → V g m_X3_print 11 (Qp h0 N U (d_print D)) h 67 [xR 8, xI (dFw D), xR (A 4 (dFw D)), xI k67, xU] [] := by
          refine lp_up (D 70 (15 + dFw D)) (fun k67 ih67 => ?_)
          intro M67 hk h hM hF
          obtain ⟨k67l, k67u, k67e⟩ := hk
          have oI67 := dPrN_o (s := dFw D) (ID.s60 (k := dFw D) (z := 112) hI (by decide)) k67.toNat
          rw [← k67e] at oI67
          obtain ⟨o67, hI67⟩ := oI67
          have o67 : OnlyF [28, 30, 60] D M67 := (OnlyF.rf.st (by decide)).tr (o67.w (by decide))
          obtain ⟨e90_67, e91_67, e92_67, -⟩ : dST D M67 := (dST.rf.tr (dST.of o67 (by decide)))
          have n67 := hI67.n
          refine V_iload_n dX3_print_67 rfl ?_
          refine V_aload_n dX3_print_68 rfl ?_
          refine V_dgr (f := 4) (i := (dFw D)) (b := (A 6 (15 + (dFw D)))) dX3_print_69 fg_RX3_239 rfl rfl rfl hM ((dST.rf.tr (dST.of o67 (by decide))).A.mpr (vAs (by decide) (by omega))) (hM.s.2.2.2.2 (dFw D) (by rw [((dST.rf.tr (dST.of o67 (by decide))) : dST D M67).2.2.1]; omega)).1 ?_
          refine V_dSz (l := (15 + (dFw D))) (w := D 70 (15 + (dFw D))) dX3_print_72 c_RX3_69 rfl (by decide) (Nat.le_of_ble_eq_true rfl) rfl hM ((dST.rf.tr (dST.of o67 (by decide))).L.mpr (vLs (by omega))) ((o67 70 _ (by decide)).trans rfl) (fun r72 => ?_)
          refine V_icmp_ge (tgt := 112) dX3_print_75 (by decide) (by omega) (by omega) (fun q75 => ?_) (fun q75 => ?_)
          · refine V_aload_n dX3_print_112 rfl ?_
            refine V_dC (as := []) dX3_print_113 c_RX3_90 rfl (by decide) rfl (Nat.le_of_ble_eq_true rfl) hM.kx hM hF (T_X3_settlePlans g A N U M67  hI67) (fun h hM hF => ?_)
            obtain ⟨N113, eN113⟩ : ∃ X, X = dSet M67 := ⟨_, rfl⟩
            rw [← eN113] at hM
            obtain ⟨oN113, hIN113⟩ := dSet_o (D := M67)  hI67
            rw [← eN113] at oN113 hIN113
            obtain ⟨e90_113, e91_113, e92_113, -⟩ : dST D N113 := ((dST.rf.tr (dST.of o67 (by decide))).tr (dST.of oN113 (by decide)))
            have n113 := hIN113.n
            refine V_iload_n dX3_print_116 rfl ?_
            refine V_iret dX3_print_117 rfl ?_
            exact qret hM hF hN hU (by unfold d_print; (repeat' split) <;> first | rfl | (exfalso; omega) | (rw [eN113, k67e, show k67 = D 70 (15 + dFw D) by omega]; done) | (rw [eN113, k67e, show k67 = D 70 (15 + dFw D) by omega]; rfl)) rfl
          · refine V_aload_n dX3_print_78 rfl ?_
            refine V_dgr (f := 4) (i := (dFw D)) (b := (A 6 (15 + (dFw D)))) dX3_print_79 fg_RX3_239 rfl rfl rfl hM ((dST.rf.tr (dST.of o67 (by decide))).A.mpr (vAs (by decide) (by omega))) (hM.s.2.2.2.2 (dFw D) (by rw [((dST.rf.tr (dST.of o67 (by decide))) : dST D M67).2.2.1]; omega)).1 ?_
            refine V_iload_n dX3_print_82 rfl ?_
            refine V_dGq (l := (15 + (dFw D))) dX3_print_83 c_RX3_132 rfl (by decide) (Nat.le_of_ble_eq_true rfl) rfl hM ((dST.rf.tr (dST.of o67 (by decide))).L.mpr (vLs (by omega))) (by rw [show M67 70 (15 + (dFw D)) = D 70 (15 + (dFw D)) from ((o67 70 _ (by decide)).trans rfl)]; omega) (by omega) (fun g83 => ?_)
            rw [((dST.rf.tr (dST.of o67 (by decide))) : dST D M67).1] at g83
            rw [show M67 71 (40 * (15 + (dFw D)) + k67) = D 71 (40 * (15 + (dFw D)) + k67) from ((o67 71 _ (by decide)).trans rfl)] at g83 ⊢
            refine V_ckc dX3_print_86 k_RX3_75 (hM.kd (f := 0) ((dST.rf.tr (dST.of o67 (by decide))).A.mpr (vAq (by decide) (by omega)))) ?_
            refine V_astore (lc' := [_, _, _, _, _]) dX3_print_89 (by decide) rfl ?_
            refine V_aload dX3_print_91 rfl ?_
            refine V_iconst dX3_print_93 ?_
            refine V_dpz (f := 0) (F := 28) (i := D 71 (40 * (15 + (dFw D)) + k67)) (t := D 71 (40 * (15 + (dFw D)) + k67)) dX3_print_94 f_RX3_254 rfl rfl rfl rfl hM hF ((dST.rf.tr (dST.of o67 (by decide))).F.mpr (vFq (by decide) (by omega))) (by decide) (fun h hM hF => ?_)
            refine V_aload dX3_print_97 rfl ?_
            refine V_aload_n dX3_print_99 rfl ?_
            refine V_dg (f := 8) (F := 6) (i := 0) (t := 0) (w := D 6 0) dX3_print_100 fg_RX3_155 rfl rfl rfl hM.fx.1 hM (((dST.rf.tr (dST.of o67 (by decide))).st (by decide)).F.mpr (vFx (by decide))) ((by simp [sT, mset] : (mset M67 28 (D 71 (40 * (15 + (dFw D)) + k67)) 0) 6 0 = M67 6 0).trans ((o67 6 _ (by decide)).trans rfl)) (fun r100 => ?_)
            have b100 := hI.a6
            refine V_dp (f := 0) (F := 30) (i := D 71 (40 * (15 + (dFw D)) + k67)) (t := D 71 (40 * (15 + (dFw D)) + k67)) dX3_print_103 f_RX3_257 rfl rfl rfl rfl hM hF (((dST.rf.tr (dST.of o67 (by decide))).st (by decide)).F.mpr (vFq (by decide) (by omega))) (by omega) (fun h hM hF => ?_)
            refine V_iinc (lc' := [_, _, _, _, _]) dX3_print_106 rfl (by decide) rfl ?_
            refine V_goto (tgt := 67) dX3_print_109 (by decide) ?_
            refine V_wk (lc' := [_, _, _, _, xU]) ⟨Or.inr rfl, Or.inr rfl, Or.inr rfl, Or.inr rfl, Or.inl rfl, trivial⟩ ?_
            exact ih67 (by omega) (mset (mset M67 28 (D 71 (40 * (15 + (dFw D)) + k67)) 0) 30 (D 71 (40 * (15 + (dFw D)) + k67)) (D 6 0)) ⟨by omega, by omega, by rw [dPrN_s k67l, ← k67e]; rfl⟩ h hM hF
        exact lp67 0 (mset D 60 (dFw D) 112) ⟨by omega, by omega, rfl⟩ h hM hF
      · refine V_throwN dX3_print_37 dX3_print_40 dX3_print_41 dX3_print_43 dX3_print_46 t_RX3_113_252 rfl (by decide) (by have := hM.room; omega) (by have := hM.room; omega) (fun n9 n9a n9b => ?_)
        exact qthr hM hF hN hU n9a n9b (by unfold d_print; (repeat' split) <;> first | rfl | (exfalso; omega)) rfl
  · refine V_throw dX3_print_7 dX3_print_10 dX3_print_11 dX3_print_13 dX3_print_16 t_RX3_57_247 rfl (by decide) (by have := hM.room; omega) (by have := hM.room; omega) (fun n9 n9a n9b => ?_)
    exact qthr hM hF hN hU n9a n9b (by unfold d_print; (repeat' split) <;> first | rfl | (exfalso; omega)) rfl
theorem T_X3_cancel (g : GP) (N U : Nat) (D : MS) (s : Int) (r_s : -2147483648 ≤ s ∧ s ≤ 2147483647) (hI : ID D) (hN : N + 200 ≤ z_CC) (hU : U + 5000 ≤ z_CS) : TX g m_X3_cancel 11 [xR 8, xI s] N U D (d_cancel D s) := by
  refine TX.of (by decide) rfl (fun v hv => ?_) (Nat.le_of_ble_eq_true rfl) ?_
  · simp only [List.mem_cons, List.not_mem_nil, or_false] at hv
    rcases hv with rfl | rfl <;> first | exact Or.inl ⟨_, rfl⟩ | exact Or.inr ⟨_, rfl⟩
  intro A h0 h hM hF
  obtain ⟨i90, i91, i92⟩ := hI.n
  obtain ⟨c90, c91, c92⟩ := hI.c
  obtain ⟨⟨z90, -⟩, ⟨z91, -⟩, z92, -⟩ := hM.b.2.2.1
  change V g m_X3_cancel 11 _ h 0 [xR 8, xI s, xU, xU] []
  have b70 := hI.a70 (15 + s)
  refine V_aload_n dX3_cancel_0 rfl ?_
  refine V_iload_n dX3_cancel_1 rfl ?_
  rcases (Classical.em (0 ≤ s ∧ s < D 70 47)).symm with w2 | w2
  · refine V_cV (as := [_]) dX3_cancel_2 c_RX3_235 rfl (by decide) rfl (Nat.le_of_ble_eq_true rfl) hM.kx (X_X3_sheetOf g hM s (by omega) hI w2) (fun E9 h9 z9 => ?_) (fun v9 h9 z9 => nomatch z9.1)
    obtain ⟨z8, n9, n9a, n9b, rfl⟩ := z9
    cases z8
    exact qthr hM hF hN hU n9a n9b (by unfold d_cancel; (repeat' split) <;> first | rfl | (exfalso; omega)) rfl
  refine V_pV (as := [_]) dX3_cancel_2 c_RX3_235 rfl (by decide) rfl (Nat.le_of_ble_eq_true rfl) hM.kx (T_X3_sheetOf g hM s (by omega) hI (by omega)) ?_
  refine V_astore_n (lc' := [_, _, _, _]) dX3_cancel_5 (by decide) rfl ?_
  refine V_aload_n dX3_cancel_6 rfl ?_
  refine V_dg (f := 4) (F := 60) (i := s) (t := s) (w := D 60 s) dX3_cancel_7 fg_RX3_240 rfl rfl rfl rfl hM (vFs (by omega)) rfl (fun r7 => ?_)
  have b7 := hI.a60 s
  refine V_bipush dX3_cancel_10 (by decide) ?_
  refine V_icmp_eq (tgt := 26) dX3_cancel_12 (by decide) (by omega) (by omega) (fun q12 => ?_) (fun q12 => ?_)
  · refine V_aload_n dX3_cancel_26 rfl ?_
    refine V_bipush dX3_cancel_27 (by decide) ?_
    refine V_dpc (f := 4) (F := 60) (i := s) (t := s) dX3_cancel_29 f_RX3_240 rfl rfl rfl rfl hM hF (vFs (by omega)) (by decide) (fun h hM hF => ?_)
    refine V_iconst dX3_cancel_32 ?_
    refine V_istore_n (lc' := [_, _, _, _]) dX3_cancel_33 (by decide) rfl ?_
    have lp34 : ∀ k34 : Int, ∀ M34 : MS, (0 ≤ k34 ∧ k34 ≤ D 70 (15 + s) ∧ M34 = dHoN (mset D 60 s 99) (15 + s) 0 k34.toNat) → ∀ h, DR h A M34 N U → FD h0 h → V g m_X3_cancel 11 (Qp h0 N U (d_cancel D s)) h 34 [xR 8, xI s, xR (A 4 s), xI k34] [] := by
      refine lp_up (D 70 (15 + s)) (fun k34 ih34 => ?_)
      intro M34 hk h hM hF
      obtain ⟨k34l, k34u, k34e⟩ := hk
      have oI34 := dHoN_o (l := 15 + s) (v := 0) (ID.s60 (k := s) (z := 99) hI (by decide)) (Or.inl rfl) k34.toNat
      rw [← k34e] at oI34
      obtain ⟨o34, hI34⟩ := oI34
      have o34 : OnlyF [28, 60] D M34 := (OnlyF.rf.st (by decide)).tr (o34.w (by decide))
      obtain ⟨e90_34, e91_34, e92_34, -⟩ : dST D M34 := (dST.rf.tr (dST.of o34 (by decide)))
      have n34 := hI34.n
      refine V_iload_n dX3_cancel_34 rfl ?_
      refine V_aload_n dX3_cancel_35 rfl ?_
      refine V_dgr (f := 4) (i := s) (b := (A 6 (15 + s))) dX3_cancel_36 fg_RX3_239 rfl rfl rfl hM ((dST.rf.tr (dST.of o34 (by decide))).A.mpr (vAs (by decide) (by omega))) (hM.s.2.2.2.2 s (by rw [((dST.rf.tr (dST.of o34 (by decide))) : dST D M34).2.2.1]; omega)).1 ?_
      refine V_dSz (l := (15 + s)) (w := D 70 (15 + s)) dX3_cancel_39 c_RX3_69 rfl (by decide) (Nat.le_of_ble_eq_true rfl) rfl hM ((dST.rf.tr (dST.of o34 (by decide))).L.mpr (vLs (by omega))) ((o34 70 _ (by decide)).trans rfl) (fun r39 => ?_)
      refine V_icmp_ge (tgt := 66) dX3_cancel_42 (by decide) (by omega) (by omega) (fun q42 => ?_) (fun q42 => ?_)
      · refine V_aload_n dX3_cancel_66 rfl ?_
        refine V_dC (as := []) dX3_cancel_67 c_RX3_90 rfl (by decide) rfl (Nat.le_of_ble_eq_true rfl) hM.kx hM hF (T_X3_settlePlans g A N U M34  hI34) (fun h hM hF => ?_)
        obtain ⟨N67, eN67⟩ : ∃ X, X = dSet M34 := ⟨_, rfl⟩
        rw [← eN67] at hM
        obtain ⟨oN67, hIN67⟩ := dSet_o (D := M34)  hI34
        rw [← eN67] at oN67 hIN67
        obtain ⟨e90_67, e91_67, e92_67, -⟩ : dST D N67 := ((dST.rf.tr (dST.of o34 (by decide))).tr (dST.of oN67 (by decide)))
        have n67 := hIN67.n
        refine V_aload_n dX3_cancel_70 rfl ?_
        refine V_dgr (f := 4) (i := s) (b := (A 6 (15 + s))) dX3_cancel_71 fg_RX3_239 rfl rfl rfl hM (((dST.rf.tr (dST.of o34 (by decide))).tr (dST.of oN67 (by decide))).A.mpr (vAs (by decide) (by omega))) (hM.s.2.2.2.2 s (by rw [(((dST.rf.tr (dST.of o34 (by decide))).tr (dST.of oN67 (by decide))) : dST D N67).2.2.1]; omega)).1 ?_
        refine V_dSz (l := (15 + s)) (w := N67 70 (15 + s)) dX3_cancel_74 c_RX3_69 rfl (by decide) (Nat.le_of_ble_eq_true rfl) rfl hM (((dST.rf.tr (dST.of o34 (by decide))).tr (dST.of oN67 (by decide))).L.mpr (vLs (by omega))) rfl (fun r74 => ?_)
        refine V_iret dX3_cancel_77 rfl ?_
        have e15 : N67 70 (15 + s) = D 70 (15 + s) := by rw [eN67, dSet_S hI34 70 _ (by decide) (by omega) (by omega)]; exact o34 70 _ (by decide)
        exact qret hM hF hN hU (by unfold d_cancel; rw [if_neg (by omega), if_neg (by omega), e15, eN67, k34e, show k34 = D 70 (15 + s) by omega]) rfl
      · refine V_aload_n dX3_cancel_45 rfl ?_
        refine V_dgr (f := 4) (i := s) (b := (A 6 (15 + s))) dX3_cancel_46 fg_RX3_239 rfl rfl rfl hM ((dST.rf.tr (dST.of o34 (by decide))).A.mpr (vAs (by decide) (by omega))) (hM.s.2.2.2.2 s (by rw [((dST.rf.tr (dST.of o34 (by decide))) : dST D M34).2.2.1]; omega)).1 ?_
        refine V_iload_n dX3_cancel_49 rfl ?_
        refine V_dGq (l := (15 + s)) dX3_cancel_50 c_RX3_132 rfl (by decide) (Nat.le_of_ble_eq_true rfl) rfl hM ((dST.rf.tr (dST.of o34 (by decide))).L.mpr (vLs (by omega))) (by rw [show M34 70 (15 + s) = D 70 (15 + s) from ((o34 70 _ (by decide)).trans rfl)]; omega) (by omega) (fun g50 => ?_)
        rw [((dST.rf.tr (dST.of o34 (by decide))) : dST D M34).1] at g50
        rw [show M34 71 (40 * (15 + s) + k34) = D 71 (40 * (15 + s) + k34) from ((o34 71 _ (by decide)).trans rfl)] at g50 ⊢
        refine V_ckc dX3_cancel_53 k_RX3_75 (hM.kd (f := 0) ((dST.rf.tr (dST.of o34 (by decide))).A.mpr (vAq (by decide) (by omega)))) ?_
        refine V_iconst dX3_cancel_56 ?_
        refine V_dpz (f := 0) (F := 28) (i := D 71 (40 * (15 + s) + k34)) (t := D 71 (40 * (15 + s) + k34)) dX3_cancel_57 f_RX3_254 rfl rfl rfl rfl hM hF ((dST.rf.tr (dST.of o34 (by decide))).F.mpr (vFq (by decide) (by omega))) (by decide) (fun h hM hF => ?_)
        refine V_iinc (lc' := [_, _, _, _]) dX3_cancel_60 rfl (by decide) rfl ?_
        refine V_goto (tgt := 34) dX3_cancel_63 (by decide) ?_
        exact ih34 (by omega) (mset M34 28 (D 71 (40 * (15 + s) + k34)) 0) ⟨by omega, by omega, by rw [dHoN_s k34l, ← k34e]; rfl⟩ h hM hF
    exact lp34 0 (mset D 60 s 99) ⟨by omega, by omega, rfl⟩ h hM hF
  · refine V_throwW dX3_cancel_15 dX3_cancel_18 dX3_cancel_19 dX3_cancel_22 dX3_cancel_25 t_RX3_64_260 rfl (by decide) (by have := hM.room; omega) (by have := hM.room; omega) (fun n9 n9a n9b => ?_)
    exact qthr hM hF hN hU n9a n9b (by unfold d_cancel; (repeat' split) <;> first | rfl | (exfalso; omega)) rfl
theorem T_X3_answer (g : GP) (N U : Nat) (D : MS) (s : Int) (i : Int) (z : Int) (r_s : -2147483648 ≤ s ∧ s ≤ 2147483647) (r_i : -2147483648 ≤ i ∧ i ≤ 2147483647) (r_z : -2147483648 ≤ z ∧ z ≤ 2147483647) (hI : ID D) (hz : z = 0 ∨ z = 1) (h8 : D 8 0 ≤ 999999) (h9 : D 9 0 ≤ 999999) (hN : N + 200 ≤ z_CC) (hU : U + 5000 ≤ z_CS) : TX g m_X3_answer 11 [xR 8, xI s, xI i, xI z] N U D (d_answer D s i z) := by
  refine TX.of (by decide) rfl (fun v hv => ?_) (Nat.le_of_ble_eq_true rfl) ?_
  · simp only [List.mem_cons, List.not_mem_nil, or_false] at hv
    rcases hv with rfl | rfl | rfl | rfl <;> first | exact Or.inl ⟨_, rfl⟩ | exact Or.inr ⟨_, rfl⟩
  intro A h0 h hM hF
  obtain ⟨i90, i91, i92⟩ := hI.n
  obtain ⟨c90, c91, c92⟩ := hI.c
  obtain ⟨⟨z90, -⟩, ⟨z91, -⟩, z92, -⟩ := hM.b.2.2.1
  change V g m_X3_answer 11 _ h 0 [xR 8, xI s, xI i, xI z, xU, xU] []
  refine V_aload_n dX3_answer_0 rfl ?_
  refine V_iload_n dX3_answer_1 rfl ?_
  rcases (Classical.em (0 ≤ s ∧ s < D 70 47)).symm with w2 | w2
  · refine V_cV (as := [_]) dX3_answer_2 c_RX3_235 rfl (by decide) rfl (Nat.le_of_ble_eq_true rfl) hM.kx (X_X3_sheetOf g hM s (by omega) hI w2) (fun E9 h9 z9 => ?_) (fun v9 h9 z9 => nomatch z9.1)
    obtain ⟨z8, n9, n9a, n9b, rfl⟩ := z9
    cases z8
    exact qthr hM hF hN hU n9a n9b (by unfold d_answer; (repeat' split) <;> first | rfl | (exfalso; omega)) rfl
  refine V_pV (as := [_]) dX3_answer_2 c_RX3_235 rfl (by decide) rfl (Nat.le_of_ble_eq_true rfl) hM.kx (T_X3_sheetOf g hM s (by omega) hI (by omega)) ?_
  refine V_astore (lc' := [_, _, _, _, _, _]) dX3_answer_5 (by decide) rfl ?_
  refine V_aload dX3_answer_7 rfl ?_
  refine V_dg (f := 4) (F := 60) (i := s) (t := s) (w := D 60 s) dX3_answer_9 fg_RX3_240 rfl rfl rfl rfl hM (vFs (by omega)) rfl (fun r9 => ?_)
  have b9 := hI.a60 s
  refine V_bipush dX3_answer_12 (by decide) ?_
  refine V_icmp_eq (tgt := 28) dX3_answer_14 (by decide) (by omega) (by omega) (fun q14 => ?_) (fun q14 => ?_)
  · refine V_aload dX3_answer_28 rfl ?_
    refine V_dgr (f := 4) (i := s) (b := (A 6 (15 + s))) dX3_answer_30 fg_RX3_239 rfl rfl rfl hM (vAs (by decide) (by omega)) (hM.s.2.2.2.2 s (by omega)).1 ?_
    refine V_iload_n dX3_answer_33 rfl ?_
    rcases (Classical.em (0 ≤ i ∧ i < D 70 (15 + s))).symm with w34 | w34
    · refine V_cS (as := [_, _]) dX3_answer_34 c_RX3_190 rfl (by decide) rfl (Nat.le_of_ble_eq_true rfl) (X_X3_elementOf g hM (15 + s) i (by omega) (vLs (by omega)) (by omega) w34) (fun E9 h9 z9 => ?_) (fun v9 h9 z9 => nomatch z9.1)
      obtain ⟨z8, n9, n9a, n9b, rfl⟩ := z9
      cases z8
      exact qthr hM hF hN hU n9a n9b (by unfold d_answer; (repeat' split) <;> first | rfl | (exfalso; omega)) rfl
    refine V_pS (as := [_, _]) dX3_answer_34 c_RX3_190 rfl (by decide) rfl (Nat.le_of_ble_eq_true rfl) (T_X3_elementOf g hM (15 + s) i (by omega) (vLs (by omega)) (by omega) (by omega)) ?_
    have g34 := hM.le2 (l := (15 + s)) (by omega) (vLs (by omega)) (z := i) (by omega)
    refine V_astore (lc' := [_, _, _, _, _, _]) dX3_answer_37 (by decide) rfl ?_
    refine V_aload dX3_answer_39 rfl ?_
    refine V_iload_n dX3_answer_41 rfl ?_
    refine V_dC (as := [_]) dX3_answer_42 c_RX3_264 rfl (by decide) rfl (Nat.le_of_ble_eq_true rfl) (hM.kd (f := 4) (vAs (by decide) (by omega))) hM hF (T_X2_markAnswered g A N U D s i (by omega) hI (by omega)) (fun h hM hF => ?_)
    obtain ⟨N42, eN42⟩ : ∃ X, X = dMk D s i := ⟨_, rfl⟩
    rw [← eN42] at hM
    obtain ⟨oN42, hIN42⟩ := dMk_o (D := D) s i hI (by omega)
    rw [← eN42] at oN42 hIN42
    obtain ⟨e90_42, e91_42, e92_42, -⟩ : dST D N42 := (dST.rf.tr (dST.of oN42 (by decide)))
    have n42 := hIN42.n
    refine V_ifb_ne (tgt := 59) dX3_answer_45 (by decide) (fun q45 => ?_) (fun q45 => ?_)
    · refine V_aload dX3_answer_59 rfl ?_
      refine V_iload_n dX3_answer_61 rfl ?_
      refine V_dC (as := [_]) dX3_answer_62 c_RX3_270 rfl (by decide) rfl (Nat.le_of_ble_eq_true rfl) (hM.kd (f := 0) ((dST.rf.tr (dST.of oN42 (by decide))).A.mpr (vAq (by decide) (by omega)))) hM hF (T_X1_takeAnswer g A N U N42 (D 71 (40 * (15 + s) + i)) z (by omega) hIN42 (by omega) (by omega)) (fun h hM hF => ?_)
      obtain ⟨N62, eN62⟩ : ∃ X, X = dTk N42 (D 71 (40 * (15 + s) + i)) z := ⟨_, rfl⟩
      rw [← eN62] at hM
      obtain ⟨oN62, hIN62⟩ := dTk_o (D := N42) (D 71 (40 * (15 + s) + i)) z hIN42 (by omega) (by omega)
      rw [← eN62] at oN62 hIN62
      obtain ⟨e90_62, e91_62, e92_62, -⟩ : dST D N62 := ((dST.rf.tr (dST.of oN42 (by decide))).tr (dST.of oN62 (by decide)))
      have n62 := hIN62.n
      refine V_aload_n dX3_answer_65 rfl ?_
      refine V_dup dX3_answer_66 cat_R ?_
      refine V_dg (f := 8) (F := 8) (i := 0) (t := 0) (w := D 8 0) dX3_answer_67 fg_RX3_274 rfl rfl rfl hM.fx.1 hM (((dST.rf.tr (dST.of oN42 (by decide))).tr (dST.of oN62 (by decide))).F.mpr (vFx (by decide))) ((oN62 8 _ (by decide)).trans ((oN42 8 _ (by decide)).trans rfl)) (fun r67 => ?_)
      have b67 := hI.a8
      refine V_iconst dX3_answer_70 ?_
      refine V_iadd dX3_answer_71 ?_
      refine V_dp (f := 8) (F := 8) (i := 0) (t := 0) dX3_answer_72 f_RX3_274 rfl rfl rfl hM.fx.1 hM hF (((dST.rf.tr (dST.of oN42 (by decide))).tr (dST.of oN62 (by decide))).F.mpr (vFx (by decide))) (by omega) (fun h hM hF => ?_)
      refine V_iload_n dX3_answer_75 rfl ?_
      refine V_if_eq (tgt := 89) dX3_answer_76 (by decide) (by omega) (fun q76 => ?_) (fun q76 => ?_)
      · refine V_aload_n dX3_answer_89 rfl ?_
        have hJ90 : ID (mset N62 8 0 ((D 8 0) + 1)) := hIN62.s8 (by omega)
        refine V_dC (as := []) dX3_answer_90 c_RX3_90 rfl (by decide) rfl (Nat.le_of_ble_eq_true rfl) hM.kx hM hF (T_X3_settlePlans g A N U (mset N62 8 0 ((D 8 0) + 1))  hJ90) (fun h hM hF => ?_)
        obtain ⟨N90, eN90⟩ : ∃ X, X = dSet (mset N62 8 0 ((D 8 0) + 1)) := ⟨_, rfl⟩
        rw [← eN90] at hM
        obtain ⟨oN90, hIN90⟩ := dSet_o (D := (mset N62 8 0 ((D 8 0) + 1)))  hJ90
        rw [← eN90] at oN90 hIN90
        obtain ⟨e90_90, e91_90, e92_90, -⟩ : dST D N90 := ((((dST.rf.tr (dST.of oN42 (by decide))).tr (dST.of oN62 (by decide))).st (by decide)).tr (dST.of oN90 (by decide)))
        have n90 := hIN90.n
        refine V_aload dX3_answer_93 rfl ?_
        refine V_dg (f := 0) (F := 23) (i := (D 71 (40 * (15 + s) + i))) (t := (D 71 (40 * (15 + s) + i))) (w := N62 23 (D 71 (40 * (15 + s) + i))) dX3_answer_95 fg_RX3_116 rfl rfl rfl rfl hM (((((dST.rf.tr (dST.of oN42 (by decide))).tr (dST.of oN62 (by decide))).st (by decide)).tr (dST.of oN90 (by decide))).F.mpr (vFq (by decide) (by omega))) ((oN90 23 _ (by decide)).trans (by simp [sT, mset])) (fun r95 => ?_)
        have b95 := hIN62.a23 (D 71 (40 * (15 + s) + i))
        refine V_iret dX3_answer_98 rfl ?_
        exact qret hM hF hN hU (by unfold d_answer; rw [if_neg (by omega), if_neg (by omega), if_neg (by omega), if_neg (fun w => w q45), eN90]; unfold dAns; first | (rw [if_pos (by omega), eN62, eN42, show dMk D s i = mset D 61 (27 * s + i) 1 from if_pos q45]; rfl) | (rw [if_neg (by omega), eN62, eN42, show dMk D s i = mset D 61 (27 * s + i) 1 from if_pos q45]; rfl)) rfl
      · refine V_aload_n dX3_answer_79 rfl ?_
        refine V_dup dX3_answer_80 cat_R ?_
        refine V_dg (f := 8) (F := 9) (i := 0) (t := 0) (w := D 9 0) dX3_answer_81 fg_RX3_277 rfl rfl rfl hM.fx.1 hM ((((dST.rf.tr (dST.of oN42 (by decide))).tr (dST.of oN62 (by decide))).st (by decide)).F.mpr (vFx (by decide))) ((by simp [sT, mset] : (mset N62 8 0 ((D 8 0) + 1)) 9 0 = N62 9 0).trans ((oN62 9 _ (by decide)).trans ((oN42 9 _ (by decide)).trans rfl))) (fun r81 => ?_)
        have b81 := hI.a9
        refine V_iconst dX3_answer_84 ?_
        refine V_iadd dX3_answer_85 ?_
        refine V_dp (f := 8) (F := 9) (i := 0) (t := 0) dX3_answer_86 f_RX3_277 rfl rfl rfl hM.fx.1 hM hF ((((dST.rf.tr (dST.of oN42 (by decide))).tr (dST.of oN62 (by decide))).st (by decide)).F.mpr (vFx (by decide))) (by omega) (fun h hM hF => ?_)
        refine V_aload_n dX3_answer_89 rfl ?_
        have hJ90 : ID (mset (mset N62 8 0 ((D 8 0) + 1)) 9 0 ((D 9 0) + 1)) := (hIN62.s8 (by omega)).s9 (by omega)
        refine V_dC (as := []) dX3_answer_90 c_RX3_90 rfl (by decide) rfl (Nat.le_of_ble_eq_true rfl) hM.kx hM hF (T_X3_settlePlans g A N U (mset (mset N62 8 0 ((D 8 0) + 1)) 9 0 ((D 9 0) + 1))  hJ90) (fun h hM hF => ?_)
        obtain ⟨N90, eN90⟩ : ∃ X, X = dSet (mset (mset N62 8 0 ((D 8 0) + 1)) 9 0 ((D 9 0) + 1)) := ⟨_, rfl⟩
        rw [← eN90] at hM
        obtain ⟨oN90, hIN90⟩ := dSet_o (D := (mset (mset N62 8 0 ((D 8 0) + 1)) 9 0 ((D 9 0) + 1)))  hJ90
        rw [← eN90] at oN90 hIN90
        obtain ⟨e90_90, e91_90, e92_90, -⟩ : dST D N90 := (((((dST.rf.tr (dST.of oN42 (by decide))).tr (dST.of oN62 (by decide))).st (by decide)).st (by decide)).tr (dST.of oN90 (by decide)))
        have n90 := hIN90.n
        refine V_aload dX3_answer_93 rfl ?_
        refine V_dg (f := 0) (F := 23) (i := (D 71 (40 * (15 + s) + i))) (t := (D 71 (40 * (15 + s) + i))) (w := N62 23 (D 71 (40 * (15 + s) + i))) dX3_answer_95 fg_RX3_116 rfl rfl rfl rfl hM ((((((dST.rf.tr (dST.of oN42 (by decide))).tr (dST.of oN62 (by decide))).st (by decide)).st (by decide)).tr (dST.of oN90 (by decide))).F.mpr (vFq (by decide) (by omega))) ((oN90 23 _ (by decide)).trans (by simp [sT, mset])) (fun r95 => ?_)
        have b95 := hIN62.a23 (D 71 (40 * (15 + s) + i))
        refine V_iret dX3_answer_98 rfl ?_
        exact qret hM hF hN hU (by unfold d_answer; rw [if_neg (by omega), if_neg (by omega), if_neg (by omega), if_neg (fun w => w q45), eN90]; unfold dAns; first | (rw [if_pos (by omega), eN62, eN42, show dMk D s i = mset D 61 (27 * s + i) 1 from if_pos q45]; rfl) | (rw [if_neg (by omega), eN62, eN42, show dMk D s i = mset D 61 (27 * s + i) 1 from if_pos q45]; rfl)) rfl
    · refine V_throwNW dX3_answer_48 dX3_answer_51 dX3_answer_52 dX3_answer_55 dX3_answer_58 t_RX3_113_268 rfl (by decide) (by have := hM.room; omega) (by have := hM.room; omega) (fun n9 n9a n9b => ?_)
      exact qthr (D0 := D) hM hF hN hU n9a n9b (by unfold d_answer; rw [if_neg (by omega), if_neg (by omega), if_neg (by omega), if_pos q45]; rfl) (by rw [eN42]; exact (if_neg q45).symm)
  · refine V_throwW dX3_answer_17 dX3_answer_20 dX3_answer_21 dX3_answer_24 dX3_answer_27 t_RX3_64_262 rfl (by decide) (by have := hM.room; omega) (by have := hM.room; omega) (fun n9 n9a n9b => ?_)
    exact qthr hM hF hN hU n9a n9b (by unfold d_answer; (repeat' split) <;> first | rfl | (exfalso; omega)) rfl

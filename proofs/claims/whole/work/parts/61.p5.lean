theorem dBw_i {D : MS} (hI : ID D) : -2147483648 ≤ ((dBw D (D 1 0).toNat : Nat) : Int) ∧ ((dBw D (D 1 0).toNat : Nat) : Int) ≤ 2147483647 := by
  have h := dBw_r hI (D 1 0).toNat
  have e : (2 : Nat) ^ 30 = 1073741824 := by decide
  omega
theorem dPl_r {D : MS} {r : Int} (hI : ID D) : 0 ≤ dPl D r ∧ dPl D r ≤ D 70 0 := by
  have h := dFst_r (P := fun j => r ≤ D 27 (D 71 (40 * 0 + j))) (D 70 0).toNat
  have h2 := hI.a70 0
  unfold dPl
  omega
theorem dDr_o {D : MS} (sd ne nm nh : Int) (hI : ID D) (h1 : 0 ≤ sd ∧ sd ≤ 1008) (h2 : 0 ≤ ne ∧ ne ≤ 9) (h3 : 0 ≤ nm ∧ nm ≤ 9) (h4 : 0 ≤ nh ∧ nh ≤ 9) : OnlyF [70, 71] D (dDr D sd ne nm (ne + nm + nh).toNat).1 ∧ ID (dDr D sd ne nm (ne + nm + nh).toNat).1 := by
  obtain ⟨a, b, -⟩ := dDrN_o (e := ne) (m := nm) hI h1 (ne + nm + nh).toNat (by omega)
  exact ⟨a, b⟩
theorem T_X3_search (g : GP) (N U : Nat) (D : MS)   (hI : ID D) (hN : N + 200 ≤ z_CC) (hU : U + 5000 ≤ z_CS) : TX g m_X3_search 8 [xR 8] N U D (d_search D) := by
  refine TX.of (by decide) rfl (fun v hv => ?_) (Nat.le_of_ble_eq_true rfl) ?_
  · simp only [List.mem_cons, List.not_mem_nil, or_false] at hv
    subst hv; first | exact Or.inl ⟨_, rfl⟩ | exact Or.inr ⟨_, rfl⟩
  intro A h0 h hM hF
  obtain ⟨i90, i91, i92⟩ := hI.n
  obtain ⟨c90, c91, c92⟩ := hI.c
  obtain ⟨⟨z90, -⟩, ⟨z91, -⟩, z92, -⟩ := hM.b.2.2.1
  change V g m_X3_search 8 _ h 0 [xR 8, xU, xU, xU] []
  refine V_aload_n dX3_search_0 rfl ?_
  refine V_dg (f := 8) (F := 1) (i := 0) (t := 0) (w := D 1 0) dX3_search_1 fg_RX3_53 rfl rfl rfl hM.fx.1 hM (vFx (by decide)) rfl (fun r1 => ?_)
  have b1 := hI.a1
  refine V_if_ne (tgt := 17) dX3_search_4 (by decide) (by omega) (fun q4 => ?_) (fun q4 => ?_)
  · refine V_aload_n dX3_search_17 rfl ?_
    refine V_pV (as := []) dX3_search_18 c_RX3_126 rfl (by decide) rfl (Nat.le_of_ble_eq_true rfl) hM.kx (T_X3_wordsOfRow g hM  hI) ?_
    refine V_istore_n (lc' := [_, _, _, _]) dX3_search_21 (by decide) rfl ?_
    refine V_aload_n dX3_search_22 rfl ?_
    refine V_dgr (f := 8) (i := 0) (b := (A 6 0)) dX3_search_23 fg_RX3_20 rfl rfl hM.fx.1 hM (vAx (by decide)) (hM.s.1.2.2.1.trans hM.fx.2.2.2.2.1.symm) ?_
    refine V_dCl (l := 0) dX3_search_26 c_RX3_129 rfl (by decide) (Nat.le_of_ble_eq_true rfl) rfl hM hF (vL0 (by decide)) (fun h hM hF => ?_)
    refine V_iconst dX3_search_29 ?_
    refine V_istore_n (lc' := [_, _, _, _]) dX3_search_30 (by decide) rfl ?_
    have lp31 : ∀ k31 : Int, ∀ M31 : MS, (0 ≤ k31 ∧ k31 ≤ D 90 0 ∧ M31 = dSeN D (dBw D (D 1 0).toNat) k31.toNat) → ∀ h, DR h A M31 N U → FD h0 h → V g m_X3_search 8 (Qp h0 N U (d_search D)) h 31 [xR 8, xI ((dBw D (D 1 0).toNat : Nat) : Int), xI k31, xU] [] := by
      refine lp_up (D 90 0) (fun k31 ih31 => ?_)
      intro M31 hk h hM hF
      obtain ⟨k31l, k31u, k31e⟩ := hk
      have oI31 := dSeN_o hI (dBw D (D 1 0).toNat) k31.toNat (by omega)
      rw [← k31e] at oI31
      obtain ⟨o31, hI31, b31⟩ := oI31
      obtain ⟨e90_31, e91_31, e92_31, -⟩ : dST D M31 := (dST.rf.tr (dST.of o31 (by decide)))
      have n31 := hI31.n
      refine V_iload_n dX3_search_31 rfl ?_
      refine V_aload_n dX3_search_32 rfl ?_
      refine V_dgr (f := 8) (i := 0) (b := 10) dX3_search_33 fg_RX3_16 rfl rfl hM.fx.1 hM ((dST.rf.tr (dST.of o31 (by decide))).A.mpr (vAx (by decide))) hM.s.1.2.1 ?_
      refine V_dSz (l := 45) (w := M31 70 45) dX3_search_36 c_RX3_69 rfl (by decide) (Nat.le_of_ble_eq_true rfl) hM.fx.2.2.2.1 hM ((dST.rf.tr (dST.of o31 (by decide))).L.mpr (vL4 (by decide))) rfl (fun r36 => ?_)
      refine V_icmp_ge (tgt := 92) dX3_search_39 (by decide) (by omega) (by omega) (fun q39 => ?_) (fun q39 => ?_)
      · refine V_aload_n dX3_search_92 rfl ?_
        refine V_dgr (f := 8) (i := 0) (b := (A 6 0)) dX3_search_93 fg_RX3_20 rfl rfl hM.fx.1 hM ((dST.rf.tr (dST.of o31 (by decide))).A.mpr (vAx (by decide))) (hM.s.1.2.2.1.trans hM.fx.2.2.2.2.1.symm) ?_
        refine V_dSz (l := 0) (w := M31 70 0) dX3_search_96 c_RX3_69 rfl (by decide) (Nat.le_of_ble_eq_true rfl) rfl hM ((dST.rf.tr (dST.of o31 (by decide))).L.mpr (vL0 (by decide))) rfl (fun r96 => ?_)
        refine V_iret dX3_search_99 rfl ?_
        exact qret hM hF hN hU (by unfold d_search; rw [if_neg (by omega), k31e, show k31 = D 90 0 by omega]) rfl
      · refine V_aload_n dX3_search_42 rfl ?_
        refine V_dgr (f := 8) (i := 0) (b := 10) dX3_search_43 fg_RX3_16 rfl rfl hM.fx.1 hM ((dST.rf.tr (dST.of o31 (by decide))).A.mpr (vAx (by decide))) hM.s.1.2.1 ?_
        refine V_iload_n dX3_search_46 rfl ?_
        refine V_dG45 dX3_search_47 c_RX3_132 rfl (by decide) (Nat.le_of_ble_eq_true rfl) hM (by omega) (rfl.trans (hI31.q (by rw [((dST.rf.tr (dST.of o31 (by decide))) : dST D M31).1]; omega))) ?_
        refine V_ckc dX3_search_50 k_RX3_75 (hM.kd (f := 0) ((dST.rf.tr (dST.of o31 (by decide))).A.mpr (vAq (by decide) (by omega)))) ?_
        refine V_astore_n (lc' := [_, _, _, _]) dX3_search_53 (by decide) rfl ?_
        refine V_aload_n dX3_search_54 rfl ?_
        refine V_aload_n dX3_search_55 rfl ?_
        refine V_iload_n dX3_search_56 rfl ?_
        refine V_pV (as := [_]) dX3_search_57 c_RX3_136 rfl (by decide) rfl (Nat.le_of_ble_eq_true rfl) (hM.kd (f := 0) ((dST.rf.tr (dST.of o31 (by decide))).A.mpr (vAq (by decide) (by omega)))) (T_X1_rankFor g hM k31 ((dBw D (D 1 0).toNat : Nat) : Int) (dBw_i hI) hI31 (by omega) (dBw D (D 1 0).toNat) rfl (dBw_r hI _)) ?_
        have t57 := dRank_r (q := k31) (b := (dBw D (D 1 0).toNat)) hI31
        have e57 : mset M31 27 k31 (dRank M31 k31 (dBw D (D 1 0).toNat)) 70 0 = M31 70 0 := mset_n (by decide)
        refine V_dp (f := 0) (F := 27) (i := k31) (t := k31) dX3_search_60 f_RX3_140 rfl rfl rfl rfl hM hF ((dST.rf.tr (dST.of o31 (by decide))).F.mpr (vFq (by decide) (by omega))) (by omega) (fun h hM hF => ?_)
        refine V_aload_n dX3_search_63 rfl ?_
        refine V_dg (f := 0) (F := 27) (i := k31) (t := k31) (w := (dRank M31 k31 (dBw D (D 1 0).toNat))) dX3_search_64 fg_RX3_140 rfl rfl rfl rfl hM (((dST.rf.tr (dST.of o31 (by decide))).st (by decide)).F.mpr (vFq (by decide) (by omega))) (by simp [sT, mset]) (fun r64 => ?_)
        refine V_if_le (tgt := 86) dX3_search_67 (by decide) (by omega) (fun q67 => ?_) (fun q67 => ?_)
        · refine V_iinc (lc' := [_, _, _, _]) dX3_search_86 rfl (by decide) rfl ?_
          refine V_goto (tgt := 31) dX3_search_89 (by decide) ?_
          refine V_wk (lc' := [_, _, _, xU]) ⟨Or.inr rfl, Or.inr rfl, Or.inr rfl, Or.inl rfl, trivial⟩ ?_
          exact ih31 (by omega) (mset M31 27 k31 (dRank M31 k31 (dBw D (D 1 0).toNat))) ⟨by omega, by omega, by rw [dSeN_s k31l, ← k31e]; unfold dSe1; first | (rw [if_pos (by omega)]; exact eN83) | rw [if_neg (by omega)]⟩ h hM hF
        · refine V_aload_n dX3_search_70 rfl ?_
          refine V_dgr (f := 8) (i := 0) (b := (A 6 0)) dX3_search_71 fg_RX3_20 rfl rfl hM.fx.1 hM (((dST.rf.tr (dST.of o31 (by decide))).st (by decide)).A.mpr (vAx (by decide))) (hM.s.1.2.2.1.trans hM.fx.2.2.2.2.1.symm) ?_
          refine V_aload_n dX3_search_74 rfl ?_
          refine V_aload_n dX3_search_75 rfl ?_
          refine V_dg (f := 0) (F := 27) (i := k31) (t := k31) (w := (dRank M31 k31 (dBw D (D 1 0).toNat))) dX3_search_76 fg_RX3_140 rfl rfl rfl rfl hM (((dST.rf.tr (dST.of o31 (by decide))).st (by decide)).F.mpr (vFq (by decide) (by omega))) (by simp [sT, mset]) (fun r76 => ?_)
          have hJ79 : ID (mset M31 27 k31 (dRank M31 k31 (dBw D (D 1 0).toNat))) := hI31.s27 (by omega)
          refine V_pV (as := [_]) dX3_search_79 c_RX3_143 rfl (by decide) rfl (Nat.le_of_ble_eq_true rfl) hM.kx (T_X3_placeAmongHits g hM (dRank M31 k31 (dBw D (D 1 0).toNat)) (by omega) hJ79) ?_
          have t79 := dPl_r (r := dRank M31 k31 (dBw D (D 1 0).toNat)) hJ79
          refine V_aload_n dX3_search_82 rfl ?_
          refine V_dIn (l := 0) (i := (dPl (mset M31 27 k31 (dRank M31 k31 (dBw D (D 1 0).toNat))) (dRank M31 k31 (dBw D (D 1 0).toNat)))) (z := k31) dX3_search_83 c_RX3_146 rfl (by decide) (Nat.le_of_ble_eq_true rfl) rfl (eAq (by decide)) hM hF (((dST.rf.tr (dST.of o31 (by decide))).st (by decide)).L.mpr (vL0 (by decide))) (by omega) (by omega) (((dST.rf.tr (dST.of o31 (by decide))).st (by decide)).E.mpr ((vEq (by decide)).mpr (by omega))) (fun h hM hF => ?_)
          obtain ⟨N83, eN83⟩ : ∃ X, X = (dIn (mset M31 27 k31 (dRank M31 k31 (dBw D (D 1 0).toNat))) 0 (dPl (mset M31 27 k31 (dRank M31 k31 (dBw D (D 1 0).toNat))) (dRank M31 k31 (dBw D (D 1 0).toNat))) k31) := ⟨_, rfl⟩
          rw [← eN83] at hM
          have oN83 : OnlyF [70, 71] (mset M31 27 k31 (dRank M31 k31 (dBw D (D 1 0).toNat))) N83 := by rw [eN83]; exact dIn_o
          refine V_iinc (lc' := [_, _, _, _]) dX3_search_86 rfl (by decide) rfl ?_
          refine V_goto (tgt := 31) dX3_search_89 (by decide) ?_
          refine V_wk (lc' := [_, _, _, xU]) ⟨Or.inr rfl, Or.inr rfl, Or.inr rfl, Or.inl rfl, trivial⟩ ?_
          exact ih31 (by omega) N83 ⟨by omega, by omega, by rw [dSeN_s k31l, ← k31e]; unfold dSe1; first | (rw [if_pos (by omega)]; exact eN83) | rw [if_neg (by omega)]⟩ h hM hF
    exact lp31 0 (mset D 70 0 0) ⟨by omega, by omega, rfl⟩ h hM hF
  · refine V_throw dX3_search_7 dX3_search_10 dX3_search_11 dX3_search_13 dX3_search_16 t_RX3_64_66 rfl (by decide) (by have := hM.room; omega) (by have := hM.room; omega) (fun n9 n9a n9b => ?_)
    exact qthr hM hF hN hU n9a n9b (by unfold d_search; (repeat' split) <;> first | rfl | (exfalso; omega)) rfl
theorem T_X3_drawQuestions (g : GP) (A : AD) (N U : Nat) (D : MS) (sd : Int) (ne : Int) (nm : Int) (nh : Int) (r_sd : -2147483648 ≤ sd ∧ sd ≤ 2147483647) (r_ne : -2147483648 ≤ ne ∧ ne ≤ 2147483647) (r_nm : -2147483648 ≤ nm ∧ nm ≤ 2147483647) (r_nh : -2147483648 ≤ nh ∧ nh ≤ 2147483647) (hI : ID D) (h1 : 0 ≤ sd ∧ sd ≤ 1008) (h2 : 0 ≤ ne ∧ ne ≤ 9) (h3 : 0 ≤ nm ∧ nm ≤ 9) (h4 : 0 ≤ nh ∧ nh ≤ 9) : TD g m_X3_drawQuestions 10 [xR 8, xI sd, xI ne, xI nm, xI nh] A N U D (some (xI (pI ((dDr D sd ne nm (ne + nm + nh).toNat).2.2 = 1)))) ((dDr D sd ne nm (ne + nm + nh).toNat).1) := by
  refine TD.of (by decide) rfl (fun v hv => ?_) (Nat.le_of_ble_eq_true rfl) ?_
  · simp only [List.mem_cons, List.not_mem_nil, or_false] at hv
    rcases hv with rfl | rfl | rfl | rfl | rfl <;> first | exact Or.inl ⟨_, rfl⟩ | exact Or.inr ⟨_, rfl⟩
  intro h0 h hM hF
  obtain ⟨i90, i91, i92⟩ := hI.n
  obtain ⟨c90, c91, c92⟩ := hI.c
  obtain ⟨⟨z90, -⟩, ⟨z91, -⟩, z92, -⟩ := hM.b.2.2.1
  change V g m_X3_drawQuestions 10 _ h 0 [xR 8, xI sd, xI ne, xI nm, xI nh, xU, xU, xU] []
  refine V_aload_n dX3_drawQuestions_0 rfl ?_
  refine V_dgr (f := 8) (i := 0) (b := (A 6 1)) dX3_drawQuestions_1 fg_RX3_29 rfl rfl hM.fx.1 hM (vAx (by decide)) (hM.s.1.2.2.2.2.2.1.trans hM.fx.2.2.2.2.2.2.2.1.symm) ?_
  refine V_dCl (l := 1) dX3_drawQuestions_4 c_RX3_129 rfl (by decide) (Nat.le_of_ble_eq_true rfl) rfl hM hF (vL0 (by decide)) (fun h hM hF => ?_)
  refine V_iload_n dX3_drawQuestions_7 rfl ?_
  refine V_istore (lc' := [_, _, _, _, _, _, _, _]) dX3_drawQuestions_8 (by decide) rfl ?_
  refine V_iconst dX3_drawQuestions_10 ?_
  refine V_istore (lc' := [_, _, _, _, _, _, _, _]) dX3_drawQuestions_11 (by decide) rfl ?_
  have lp13 : ∀ k13 : Int, ∀ v13 : Int, ∀ M13 : MS, (0 ≤ k13 ∧ k13 ≤ ne + nm + nh ∧ (M13, v13, (1 : Int)) = dDr D sd ne nm k13.toNat) → ∀ h, DR h A M13 N U → FD h0 h → V g m_X3_drawQuestions 10 (Qd h0 A N U (some (xI (pI ((dDr D sd ne nm (ne + nm + nh).toNat).2.2 = 1)))) ((dDr D sd ne nm (ne + nm + nh).toNat).1)) h 13 [xR 8, xI sd, xI ne, xI nm, xI nh, xI v13, xI k13, xU] [] := by
    refine lp_up (ne + nm + nh) (fun k13 ih13 => ?_)
    intro v13 M13 hk h hM hF
    obtain ⟨k13l, k13u, k13e⟩ := hk
    have oI13 := dDrN_o (e := ne) (m := nm) hI h1 k13.toNat (by omega)
    rw [← k13e] at oI13
    obtain ⟨o13, hI13, w13b, w13d, f13⟩ := oI13
    dsimp only at o13 hI13 w13b w13d f13
    have d13 : M13 70 1 = k13 := by
      rcases w13d with w | w
      · exact absurd w (by decide)
      · have := w.2; omega
    obtain ⟨e90_13, e91_13, e92_13, -⟩ : dST D M13 := (dST.rf.tr (dST.of o13 (by decide)))
    have n13 := hI13.n
    refine V_iload dX3_drawQuestions_13 rfl ?_
    refine V_iload_n dX3_drawQuestions_15 rfl ?_
    refine V_iload_n dX3_drawQuestions_16 rfl ?_
    refine V_iadd dX3_drawQuestions_17 ?_
    refine V_iload dX3_drawQuestions_18 rfl ?_
    refine V_iadd dX3_drawQuestions_20 ?_
    refine V_icmp_ge (tgt := 110) dX3_drawQuestions_21 (by decide) (by omega) (by omega) (fun q21 => ?_) (fun q21 => ?_)
    · refine V_iconst dX3_drawQuestions_110 ?_
      refine V_zret (by first | exact pI_01 _ | omega) dX3_drawQuestions_111 rfl ?_
      have e9 : dDr D sd ne nm (ne + nm + nh).toNat = (M13, v13, 1) := by rw [k13e, show k13 = ne + nm + nh by omega]
      exact dret hM hF (by rw [e9]; exact (pI_t rfl).symm) (by rw [e9])
    · refine V_aload_n dX3_drawQuestions_24 rfl ?_
      refine V_iload dX3_drawQuestions_25 rfl ?_
      refine V_iload_n dX3_drawQuestions_27 rfl ?_
      refine V_icmp_ge (tgt := 36) dX3_drawQuestions_28 (by decide) (by omega) (by omega) (fun q28 => ?_) (fun q28 => ?_)
      · refine V_iload dX3_drawQuestions_36 rfl ?_
        refine V_iload_n dX3_drawQuestions_38 rfl ?_
        refine V_iload_n dX3_drawQuestions_39 rfl ?_
        refine V_iadd dX3_drawQuestions_40 ?_
        refine V_icmp_ge (tgt := 49) dX3_drawQuestions_41 (by decide) (by omega) (by omega) (fun q41 => ?_) (fun q41 => ?_)
        · refine V_bipush dX3_drawQuestions_49 (by decide) ?_
          have ek : sDk ne nm k13 = 104 := by
            unfold sDk
            (repeat' split) <;> omega
          refine V_dC (as := [_]) dX3_drawQuestions_51 c_RX3_351 rfl (by decide) rfl (Nat.le_of_ble_eq_true rfl) hM.kx hM hF (T_X3_gatherCandidates g A N U M13 104 (by omega) hI13) (fun h hM hF => ?_)
          obtain ⟨N51, eN51⟩ : ∃ X, X = dGaN M13 104 (M13 90 0).toNat := ⟨_, rfl⟩
          rw [← eN51] at hM
          obtain ⟨oN51, hIN51⟩ := dGa_o (D := M13) 104 hI13
          rw [← eN51] at oN51 hIN51
          obtain ⟨e90_51, e91_51, e92_51, -⟩ : dST D N51 := ((dST.rf.tr (dST.of o13 (by decide))).tr (dST.of oN51 (by decide)))
          have n51 := hIN51.n
          obtain ⟨-, -, c51, f51⟩ := dGaN_o (kd := 104) hI13 (M13 90 0).toNat (by omega)
          rw [← eN51] at c51 f51
          have e51 := f51 70 1 (by omega) (by omega)
          refine V_aload_n dX3_drawQuestions_54 rfl ?_
          refine V_dgr (f := 8) (i := 0) (b := (A 6 2)) dX3_drawQuestions_55 fg_RX3_32 rfl rfl hM.fx.1 hM (((dST.rf.tr (dST.of o13 (by decide))).tr (dST.of oN51 (by decide))).A.mpr (vAx (by decide))) (hM.s.1.2.2.2.2.2.2.1.trans hM.fx.2.2.2.2.2.2.2.2.symm) ?_
          refine V_dSz (l := 2) (w := N51 70 2) dX3_drawQuestions_58 c_RX3_69 rfl (by decide) (Nat.le_of_ble_eq_true rfl) rfl hM (((dST.rf.tr (dST.of o13 (by decide))).tr (dST.of oN51 (by decide))).L.mpr (vL0 (by decide))) rfl (fun r58 => ?_)
          refine V_istore (lc' := [_, _, _, _, _, _, _, _]) dX3_drawQuestions_61 (by decide) rfl ?_
          refine V_iload dX3_drawQuestions_63 rfl ?_
          refine V_if_ne (tgt := 70) dX3_drawQuestions_65 (by decide) (by omega) (fun q65 => ?_) (fun q65 => ?_)
          · refine V_aload_n dX3_drawQuestions_70 rfl ?_
            refine V_dgr (f := 8) (i := 0) (b := (A 6 1)) dX3_drawQuestions_71 fg_RX3_29 rfl rfl hM.fx.1 hM (((dST.rf.tr (dST.of o13 (by decide))).tr (dST.of oN51 (by decide))).A.mpr (vAx (by decide))) (hM.s.1.2.2.2.2.2.1.trans hM.fx.2.2.2.2.2.2.2.1.symm) ?_
            refine V_aload_n dX3_drawQuestions_74 rfl ?_
            refine V_dgr (f := 8) (i := 0) (b := (A 6 2)) dX3_drawQuestions_75 fg_RX3_32 rfl rfl hM.fx.1 hM (((dST.rf.tr (dST.of o13 (by decide))).tr (dST.of oN51 (by decide))).A.mpr (vAx (by decide))) (hM.s.1.2.2.2.2.2.2.1.trans hM.fx.2.2.2.2.2.2.2.2.symm) ?_
            refine V_iload dX3_drawQuestions_78 rfl ?_
            refine V_iload dX3_drawQuestions_80 rfl ?_
            refine V_pS (as := [_, _]) dX3_drawQuestions_82 c_RX3_355 rfl (by decide) rfl (Nat.le_of_ble_eq_true rfl) (T_J9_floorMod_7cf53 g v13 (N51 70 2) (by omega) (by omega) (by omega) (by omega)) ?_
            have m85 : 0 ≤ v13 % N51 70 2 ∧ v13 % N51 70 2 < N51 70 2 := ⟨Int.emod_nonneg _ (by omega), Int.emod_lt_of_pos _ (by omega)⟩
            refine V_pS (as := [_, _]) dX3_drawQuestions_85 c_RX3_190 rfl (by decide) rfl (Nat.le_of_ble_eq_true rfl) (T_X3_elementOf g hM 2 (v13 % (N51 70 2)) (by omega) (((dST.rf.tr (dST.of o13 (by decide))).tr (dST.of oN51 (by decide))).L.mpr (vL0 (by decide))) (by decide) (by omega)) ?_
            have g85 := hM.le2 (l := 2) (by decide) (((dST.rf.tr (dST.of o13 (by decide))).tr (dST.of oN51 (by decide))).L.mpr (vL0 (by decide))) (z := (v13 % (N51 70 2))) (by omega)
            rw [(((dST.rf.tr (dST.of o13 (by decide))).tr (dST.of oN51 (by decide))) : dST D N51).1] at g85
            refine V_dAd (l := 1) (z := (N51 71 (40 * 2 + (v13 % (N51 70 2))))) dX3_drawQuestions_88 c_RX3_86 rfl (by decide) (Nat.le_of_ble_eq_true rfl) rfl (eAq (by decide)) hM hF (((dST.rf.tr (dST.of o13 (by decide))).tr (dST.of oN51 (by decide))).L.mpr (vL0 (by decide))) (by omega) (((dST.rf.tr (dST.of o13 (by decide))).tr (dST.of oN51 (by decide))).E.mpr ((vEq (by decide)).mpr (by omega))) (fun h hM hF => ?_)
            obtain ⟨N88, eN88⟩ : ∃ X, X = (dAd N51 1 (N51 71 (40 * 2 + (v13 % (N51 70 2))))) := ⟨_, rfl⟩
            rw [← eN88] at hM
            have oN88 : OnlyF [70, 71] N51 N88 := by rw [eN88]; exact dAd_o
            refine V_pop dX3_drawQuestions_91 rfl ?_
            refine V_iload dX3_drawQuestions_92 rfl ?_
            refine V_iconst dX3_drawQuestions_94 ?_
            refine V_imul dX3_drawQuestions_95 ?_
            refine V_iconst dX3_drawQuestions_96 ?_
            refine V_iadd dX3_drawQuestions_97 ?_
            refine V_sipush dX3_drawQuestions_98 (by decide) ?_
            refine V_irem dX3_drawQuestions_101 (by omega) (by omega) ?_
            refine V_istore (lc' := [_, _, _, _, _, _, _, _]) dX3_drawQuestions_102 (by decide) rfl ?_
            refine V_iinc (lc' := [_, _, _, _, _, _, _, _]) dX3_drawQuestions_104 rfl (by decide) rfl ?_
            refine V_goto (tgt := 13) dX3_drawQuestions_107 (by decide) ?_
            refine V_wk (lc' := [_, _, _, _, _, _, _, xU]) ⟨Or.inr rfl, Or.inr rfl, Or.inr rfl, Or.inr rfl, Or.inr rfl, Or.inr rfl, Or.inr rfl, Or.inl rfl, trivial⟩ ?_
            exact ih13 (by omega) (((v13 * 5) + 3) % 1009) N88 ⟨by omega, by omega, by rw [dDr_s k13l, ← k13e]; unfold dDr1; dsimp only; rw [if_neg (by decide), ek, ← eN51, if_neg q65, ← eN88]⟩ h hM hF
          · refine V_iconst dX3_drawQuestions_68 ?_
            refine V_zret (by first | exact pI_01 _ | omega) dX3_drawQuestions_69 rfl ?_
            have e9 : dDr D sd ne nm (ne + nm + nh).toNat = (N51, v13, 0) := dDr_f (n := (k13 + 1).toNat) (by rw [dDr_s k13l, ← k13e]; unfold dDr1; dsimp only; rw [if_neg (by decide), ek, ← eN51, if_pos q65]) rfl _ (by omega)
            exact dret hM hF (by rw [e9]; exact (pI_f (show ¬ (0 : Int) = 1 by decide)).symm) (by rw [e9])
        · refine V_bipush dX3_drawQuestions_44 (by decide) ?_
          refine V_goto (tgt := 51) dX3_drawQuestions_46 (by decide) ?_
          have ek : sDk ne nm k13 = 109 := by
            unfold sDk
            (repeat' split) <;> omega
          refine V_dC (as := [_]) dX3_drawQuestions_51 c_RX3_351 rfl (by decide) rfl (Nat.le_of_ble_eq_true rfl) hM.kx hM hF (T_X3_gatherCandidates g A N U M13 109 (by omega) hI13) (fun h hM hF => ?_)
          obtain ⟨N51, eN51⟩ : ∃ X, X = dGaN M13 109 (M13 90 0).toNat := ⟨_, rfl⟩
          rw [← eN51] at hM
          obtain ⟨oN51, hIN51⟩ := dGa_o (D := M13) 109 hI13
          rw [← eN51] at oN51 hIN51
          obtain ⟨e90_51, e91_51, e92_51, -⟩ : dST D N51 := ((dST.rf.tr (dST.of o13 (by decide))).tr (dST.of oN51 (by decide)))
          have n51 := hIN51.n
          obtain ⟨-, -, c51, f51⟩ := dGaN_o (kd := 109) hI13 (M13 90 0).toNat (by omega)
          rw [← eN51] at c51 f51
          have e51 := f51 70 1 (by omega) (by omega)
          refine V_aload_n dX3_drawQuestions_54 rfl ?_
          refine V_dgr (f := 8) (i := 0) (b := (A 6 2)) dX3_drawQuestions_55 fg_RX3_32 rfl rfl hM.fx.1 hM (((dST.rf.tr (dST.of o13 (by decide))).tr (dST.of oN51 (by decide))).A.mpr (vAx (by decide))) (hM.s.1.2.2.2.2.2.2.1.trans hM.fx.2.2.2.2.2.2.2.2.symm) ?_
          refine V_dSz (l := 2) (w := N51 70 2) dX3_drawQuestions_58 c_RX3_69 rfl (by decide) (Nat.le_of_ble_eq_true rfl) rfl hM (((dST.rf.tr (dST.of o13 (by decide))).tr (dST.of oN51 (by decide))).L.mpr (vL0 (by decide))) rfl (fun r58 => ?_)
          refine V_istore (lc' := [_, _, _, _, _, _, _, _]) dX3_drawQuestions_61 (by decide) rfl ?_
          refine V_iload dX3_drawQuestions_63 rfl ?_
          refine V_if_ne (tgt := 70) dX3_drawQuestions_65 (by decide) (by omega) (fun q65 => ?_) (fun q65 => ?_)
          · refine V_aload_n dX3_drawQuestions_70 rfl ?_
            refine V_dgr (f := 8) (i := 0) (b := (A 6 1)) dX3_drawQuestions_71 fg_RX3_29 rfl rfl hM.fx.1 hM (((dST.rf.tr (dST.of o13 (by decide))).tr (dST.of oN51 (by decide))).A.mpr (vAx (by decide))) (hM.s.1.2.2.2.2.2.1.trans hM.fx.2.2.2.2.2.2.2.1.symm) ?_
            refine V_aload_n dX3_drawQuestions_74 rfl ?_
            refine V_dgr (f := 8) (i := 0) (b := (A 6 2)) dX3_drawQuestions_75 fg_RX3_32 rfl rfl hM.fx.1 hM (((dST.rf.tr (dST.of o13 (by decide))).tr (dST.of oN51 (by decide))).A.mpr (vAx (by decide))) (hM.s.1.2.2.2.2.2.2.1.trans hM.fx.2.2.2.2.2.2.2.2.symm) ?_
            refine V_iload dX3_drawQuestions_78 rfl ?_
            refine V_iload dX3_drawQuestions_80 rfl ?_
            refine V_pS (as := [_, _]) dX3_drawQuestions_82 c_RX3_355 rfl (by decide) rfl (Nat.le_of_ble_eq_true rfl) (T_J9_floorMod_7cf53 g v13 (N51 70 2) (by omega) (by omega) (by omega) (by omega)) ?_
            have m85 : 0 ≤ v13 % N51 70 2 ∧ v13 % N51 70 2 < N51 70 2 := ⟨Int.emod_nonneg _ (by omega), Int.emod_lt_of_pos _ (by omega)⟩
            refine V_pS (as := [_, _]) dX3_drawQuestions_85 c_RX3_190 rfl (by decide) rfl (Nat.le_of_ble_eq_true rfl) (T_X3_elementOf g hM 2 (v13 % (N51 70 2)) (by omega) (((dST.rf.tr (dST.of o13 (by decide))).tr (dST.of oN51 (by decide))).L.mpr (vL0 (by decide))) (by decide) (by omega)) ?_
            have g85 := hM.le2 (l := 2) (by decide) (((dST.rf.tr (dST.of o13 (by decide))).tr (dST.of oN51 (by decide))).L.mpr (vL0 (by decide))) (z := (v13 % (N51 70 2))) (by omega)
            rw [(((dST.rf.tr (dST.of o13 (by decide))).tr (dST.of oN51 (by decide))) : dST D N51).1] at g85
            refine V_dAd (l := 1) (z := (N51 71 (40 * 2 + (v13 % (N51 70 2))))) dX3_drawQuestions_88 c_RX3_86 rfl (by decide) (Nat.le_of_ble_eq_true rfl) rfl (eAq (by decide)) hM hF (((dST.rf.tr (dST.of o13 (by decide))).tr (dST.of oN51 (by decide))).L.mpr (vL0 (by decide))) (by omega) (((dST.rf.tr (dST.of o13 (by decide))).tr (dST.of oN51 (by decide))).E.mpr ((vEq (by decide)).mpr (by omega))) (fun h hM hF => ?_)
            obtain ⟨N88, eN88⟩ : ∃ X, X = (dAd N51 1 (N51 71 (40 * 2 + (v13 % (N51 70 2))))) := ⟨_, rfl⟩
            rw [← eN88] at hM
            have oN88 : OnlyF [70, 71] N51 N88 := by rw [eN88]; exact dAd_o
            refine V_pop dX3_drawQuestions_91 rfl ?_
            refine V_iload dX3_drawQuestions_92 rfl ?_
            refine V_iconst dX3_drawQuestions_94 ?_
            refine V_imul dX3_drawQuestions_95 ?_
            refine V_iconst dX3_drawQuestions_96 ?_
            refine V_iadd dX3_drawQuestions_97 ?_
            refine V_sipush dX3_drawQuestions_98 (by decide) ?_
            refine V_irem dX3_drawQuestions_101 (by omega) (by omega) ?_
            refine V_istore (lc' := [_, _, _, _, _, _, _, _]) dX3_drawQuestions_102 (by decide) rfl ?_
            refine V_iinc (lc' := [_, _, _, _, _, _, _, _]) dX3_drawQuestions_104 rfl (by decide) rfl ?_
            refine V_goto (tgt := 13) dX3_drawQuestions_107 (by decide) ?_
            refine V_wk (lc' := [_, _, _, _, _, _, _, xU]) ⟨Or.inr rfl, Or.inr rfl, Or.inr rfl, Or.inr rfl, Or.inr rfl, Or.inr rfl, Or.inr rfl, Or.inl rfl, trivial⟩ ?_
            exact ih13 (by omega) (((v13 * 5) + 3) % 1009) N88 ⟨by omega, by omega, by rw [dDr_s k13l, ← k13e]; unfold dDr1; dsimp only; rw [if_neg (by decide), ek, ← eN51, if_neg q65, ← eN88]⟩ h hM hF
          · refine V_iconst dX3_drawQuestions_68 ?_
            refine V_zret (by first | exact pI_01 _ | omega) dX3_drawQuestions_69 rfl ?_
            have e9 : dDr D sd ne nm (ne + nm + nh).toNat = (N51, v13, 0) := dDr_f (n := (k13 + 1).toNat) (by rw [dDr_s k13l, ← k13e]; unfold dDr1; dsimp only; rw [if_neg (by decide), ek, ← eN51, if_pos q65]) rfl _ (by omega)
            exact dret hM hF (by rw [e9]; exact (pI_f (show ¬ (0 : Int) = 1 by decide)).symm) (by rw [e9])
      · refine V_bipush dX3_drawQuestions_31 (by decide) ?_
        refine V_goto (tgt := 51) dX3_drawQuestions_33 (by decide) ?_
        have ek : sDk ne nm k13 = 101 := by
          unfold sDk
          (repeat' split) <;> omega
        refine V_dC (as := [_]) dX3_drawQuestions_51 c_RX3_351 rfl (by decide) rfl (Nat.le_of_ble_eq_true rfl) hM.kx hM hF (T_X3_gatherCandidates g A N U M13 101 (by omega) hI13) (fun h hM hF => ?_)
        obtain ⟨N51, eN51⟩ : ∃ X, X = dGaN M13 101 (M13 90 0).toNat := ⟨_, rfl⟩
        rw [← eN51] at hM
        obtain ⟨oN51, hIN51⟩ := dGa_o (D := M13) 101 hI13
        rw [← eN51] at oN51 hIN51
        obtain ⟨e90_51, e91_51, e92_51, -⟩ : dST D N51 := ((dST.rf.tr (dST.of o13 (by decide))).tr (dST.of oN51 (by decide)))
        have n51 := hIN51.n
        obtain ⟨-, -, c51, f51⟩ := dGaN_o (kd := 101) hI13 (M13 90 0).toNat (by omega)
        rw [← eN51] at c51 f51
        have e51 := f51 70 1 (by omega) (by omega)
        refine V_aload_n dX3_drawQuestions_54 rfl ?_
        refine V_dgr (f := 8) (i := 0) (b := (A 6 2)) dX3_drawQuestions_55 fg_RX3_32 rfl rfl hM.fx.1 hM (((dST.rf.tr (dST.of o13 (by decide))).tr (dST.of oN51 (by decide))).A.mpr (vAx (by decide))) (hM.s.1.2.2.2.2.2.2.1.trans hM.fx.2.2.2.2.2.2.2.2.symm) ?_
        refine V_dSz (l := 2) (w := N51 70 2) dX3_drawQuestions_58 c_RX3_69 rfl (by decide) (Nat.le_of_ble_eq_true rfl) rfl hM (((dST.rf.tr (dST.of o13 (by decide))).tr (dST.of oN51 (by decide))).L.mpr (vL0 (by decide))) rfl (fun r58 => ?_)
        refine V_istore (lc' := [_, _, _, _, _, _, _, _]) dX3_drawQuestions_61 (by decide) rfl ?_
        refine V_iload dX3_drawQuestions_63 rfl ?_
        refine V_if_ne (tgt := 70) dX3_drawQuestions_65 (by decide) (by omega) (fun q65 => ?_) (fun q65 => ?_)
        · refine V_aload_n dX3_drawQuestions_70 rfl ?_
          refine V_dgr (f := 8) (i := 0) (b := (A 6 1)) dX3_drawQuestions_71 fg_RX3_29 rfl rfl hM.fx.1 hM (((dST.rf.tr (dST.of o13 (by decide))).tr (dST.of oN51 (by decide))).A.mpr (vAx (by decide))) (hM.s.1.2.2.2.2.2.1.trans hM.fx.2.2.2.2.2.2.2.1.symm) ?_
          refine V_aload_n dX3_drawQuestions_74 rfl ?_
          refine V_dgr (f := 8) (i := 0) (b := (A 6 2)) dX3_drawQuestions_75 fg_RX3_32 rfl rfl hM.fx.1 hM (((dST.rf.tr (dST.of o13 (by decide))).tr (dST.of oN51 (by decide))).A.mpr (vAx (by decide))) (hM.s.1.2.2.2.2.2.2.1.trans hM.fx.2.2.2.2.2.2.2.2.symm) ?_
          refine V_iload dX3_drawQuestions_78 rfl ?_
          refine V_iload dX3_drawQuestions_80 rfl ?_
          refine V_pS (as := [_, _]) dX3_drawQuestions_82 c_RX3_355 rfl (by decide) rfl (Nat.le_of_ble_eq_true rfl) (T_J9_floorMod_7cf53 g v13 (N51 70 2) (by omega) (by omega) (by omega) (by omega)) ?_
          have m85 : 0 ≤ v13 % N51 70 2 ∧ v13 % N51 70 2 < N51 70 2 := ⟨Int.emod_nonneg _ (by omega), Int.emod_lt_of_pos _ (by omega)⟩
          refine V_pS (as := [_, _]) dX3_drawQuestions_85 c_RX3_190 rfl (by decide) rfl (Nat.le_of_ble_eq_true rfl) (T_X3_elementOf g hM 2 (v13 % (N51 70 2)) (by omega) (((dST.rf.tr (dST.of o13 (by decide))).tr (dST.of oN51 (by decide))).L.mpr (vL0 (by decide))) (by decide) (by omega)) ?_
          have g85 := hM.le2 (l := 2) (by decide) (((dST.rf.tr (dST.of o13 (by decide))).tr (dST.of oN51 (by decide))).L.mpr (vL0 (by decide))) (z := (v13 % (N51 70 2))) (by omega)
          rw [(((dST.rf.tr (dST.of o13 (by decide))).tr (dST.of oN51 (by decide))) : dST D N51).1] at g85
          refine V_dAd (l := 1) (z := (N51 71 (40 * 2 + (v13 % (N51 70 2))))) dX3_drawQuestions_88 c_RX3_86 rfl (by decide) (Nat.le_of_ble_eq_true rfl) rfl (eAq (by decide)) hM hF (((dST.rf.tr (dST.of o13 (by decide))).tr (dST.of oN51 (by decide))).L.mpr (vL0 (by decide))) (by omega) (((dST.rf.tr (dST.of o13 (by decide))).tr (dST.of oN51 (by decide))).E.mpr ((vEq (by decide)).mpr (by omega))) (fun h hM hF => ?_)
          obtain ⟨N88, eN88⟩ : ∃ X, X = (dAd N51 1 (N51 71 (40 * 2 + (v13 % (N51 70 2))))) := ⟨_, rfl⟩
          rw [← eN88] at hM
          have oN88 : OnlyF [70, 71] N51 N88 := by rw [eN88]; exact dAd_o
          refine V_pop dX3_drawQuestions_91 rfl ?_
          refine V_iload dX3_drawQuestions_92 rfl ?_
          refine V_iconst dX3_drawQuestions_94 ?_
          refine V_imul dX3_drawQuestions_95 ?_
          refine V_iconst dX3_drawQuestions_96 ?_
          refine V_iadd dX3_drawQuestions_97 ?_
          refine V_sipush dX3_drawQuestions_98 (by decide) ?_
          refine V_irem dX3_drawQuestions_101 (by omega) (by omega) ?_
          refine V_istore (lc' := [_, _, _, _, _, _, _, _]) dX3_drawQuestions_102 (by decide) rfl ?_
          refine V_iinc (lc' := [_, _, _, _, _, _, _, _]) dX3_drawQuestions_104 rfl (by decide) rfl ?_
          refine V_goto (tgt := 13) dX3_drawQuestions_107 (by decide) ?_
          refine V_wk (lc' := [_, _, _, _, _, _, _, xU]) ⟨Or.inr rfl, Or.inr rfl, Or.inr rfl, Or.inr rfl, Or.inr rfl, Or.inr rfl, Or.inr rfl, Or.inl rfl, trivial⟩ ?_
          exact ih13 (by omega) (((v13 * 5) + 3) % 1009) N88 ⟨by omega, by omega, by rw [dDr_s k13l, ← k13e]; unfold dDr1; dsimp only; rw [if_neg (by decide), ek, ← eN51, if_neg q65, ← eN88]⟩ h hM hF
        · refine V_iconst dX3_drawQuestions_68 ?_
          refine V_zret (by first | exact pI_01 _ | omega) dX3_drawQuestions_69 rfl ?_
          have e9 : dDr D sd ne nm (ne + nm + nh).toNat = (N51, v13, 0) := dDr_f (n := (k13 + 1).toNat) (by rw [dDr_s k13l, ← k13e]; unfold dDr1; dsimp only; rw [if_neg (by decide), ek, ← eN51, if_pos q65]) rfl _ (by omega)
          exact dret hM hF (by rw [e9]; exact (pI_f (show ¬ (0 : Int) = 1 by decide)).symm) (by rw [e9])
  exact lp13 0 sd (mset D 70 1 0) ⟨by omega, by omega, rfl⟩ h hM hF

theorem dTx_o2 {D : MS} (n s : Int) (hI : ID D) (h1 : 0 ≤ s ∧ s < D 92 0) (_ : n = s) : OnlyF [80, 81] D (dTx D s) ∧ ID (dTx D s) := dTx_o s hI h1
theorem T_X3_writeText (g : GP) (A : AD) (N U : Nat) (D : MS) (n : Int) (s : Int) (r_n : -2147483648 ≤ n ∧ n ≤ 2147483647) (hI : ID D) (h1 : 0 ≤ s ∧ s < D 92 0) (h2 : n = s) : TD g m_X3_writeText 7 [xR 8, xI n, xR (A 4 s)] A N U D none (dTx D s) := by
  refine TD.of (by decide) rfl (fun v hv => ?_) (Nat.le_of_ble_eq_true rfl) ?_
  · simp only [List.mem_cons, List.not_mem_nil, or_false] at hv
    rcases hv with rfl | rfl | rfl <;> first | exact Or.inl ⟨_, rfl⟩ | exact Or.inr ⟨_, rfl⟩
  intro h0 h hM hF
  obtain ⟨i90, i91, i92⟩ := hI.n
  obtain ⟨c90, c91, c92⟩ := hI.c
  obtain ⟨⟨z90, -⟩, ⟨z91, -⟩, z92, -⟩ := hM.b.2.2.1
  change V g m_X3_writeText 7 _ h 0 [xR 8, xI n, xR (A 4 s), xU] []
  have b27 := hI.l27 (p := s) (by omega)
  have b70 := hI.a70 (15 + s)
  have z80 : mset D 80 0 0 80 0 = 0 := mset_s
  have hI8 : ID (mset D 80 0 0) := hI.s80 (by omega)
  refine V_aload_n dX3_writeText_0 rfl ?_
  refine V_dgr (f := 8) (i := 0) (b := 16) dX3_writeText_1 fg_RX3_38 rfl rfl hM.fx.1 hM (vAx (by decide)) hM.s.1.2.2.2.2.2.2.2 ?_
  refine V_iconst dX3_writeText_4 ?_
  refine V_dT0 dX3_writeText_5 c_RX3_361 rfl (by decide) (Nat.le_of_ble_eq_true rfl) hM hF (fun h hM hF => ?_)
  refine V_aload_n dX3_writeText_8 rfl ?_
  refine V_dgr (f := 8) (i := 0) (b := 16) dX3_writeText_9 fg_RX3_38 rfl rfl hM.fx.1 hM ((dST.rf.st (by decide)).A.mpr (vAx (by decide))) hM.s.1.2.2.2.2.2.2.2 ?_
  refine V_iload_n dX3_writeText_12 rfl ?_
  refine V_dTi dX3_writeText_13 c_RX3_365 rfl (by decide) (Nat.le_of_ble_eq_true rfl) hM hF (by omega) (by omega) (fun h hM hF => ?_)
  obtain ⟨N13, eN13⟩ : ∃ X, X = dPn (mset D 80 0 0) n := ⟨_, rfl⟩
  rw [← eN13] at hM
  obtain ⟨oN13, hIN13, bN13⟩ := dPn_o (D := (mset D 80 0 0)) hI8 (x := n) (by omega)
  rw [← eN13] at oN13 hIN13 bN13
  refine V_bipush dX3_writeText_16 (by decide) ?_
  refine V_dTc dX3_writeText_18 c_RX3_369 rfl (by decide) (Nat.le_of_ble_eq_true rfl) hM hF (by omega) (by omega) (fun h hM hF => ?_)
  obtain ⟨N18, eN18⟩ : ∃ X, X = dPc N13 58 := ⟨_, rfl⟩
  rw [← eN18] at hM
  obtain ⟨oN18, hIN18, bN18⟩ := dPc_o (D := N13) hIN13 (c := 58) (by omega)
  rw [← eN18] at oN18 hIN18 bN18
  refine V_pop dX3_writeText_21 cat_R ?_
  refine V_iconst dX3_writeText_22 ?_
  refine V_istore_n (lc' := [_, _, _, _]) dX3_writeText_23 (by decide) rfl ?_
  have lp24 : ∀ k24 : Int, ∀ M24 : MS, (0 ≤ k24 ∧ k24 ≤ D 70 (15 + s) ∧ M24 = dTxN N18 s k24.toNat) → ∀ h, DR h A M24 N U → FD h0 h → V g m_X3_writeText 7 (Qd h0 A N U none (dTx D s)) h 24 [xR 8, xI n, xR (A 4 s), xI k24] [] := by
    refine lp_up (D 70 (15 + s)) (fun k24 ih24 => ?_)
    intro M24 hk h hM hF
    obtain ⟨k24l, k24u, k24e⟩ := hk
    have oI24 := dTxN_o hIN18 (s := s) (by omega) k24.toNat (by omega)
    rw [← k24e] at oI24
    obtain ⟨o24, hI24, b24⟩ := oI24
    obtain ⟨e90_24, e91_24, e92_24, -⟩ : dST D M24 := ((((dST.rf.st (by decide)).tr (dST.of oN13 (by decide))).tr (dST.of oN18 (by decide))).tr (dST.of o24 (by decide)))
    have n24 := hI24.n
    refine V_iload_n dX3_writeText_24 rfl ?_
    refine V_aload_n dX3_writeText_25 rfl ?_
    refine V_dgr (f := 4) (i := s) (b := (A 6 (15 + s))) dX3_writeText_26 fg_RX3_239 rfl rfl rfl hM (((((dST.rf.st (by decide)).tr (dST.of oN13 (by decide))).tr (dST.of oN18 (by decide))).tr (dST.of o24 (by decide))).A.mpr (vAs (by decide) (by omega))) (hM.s.2.2.2.2 s (by rw [(((((dST.rf.st (by decide)).tr (dST.of oN13 (by decide))).tr (dST.of oN18 (by decide))).tr (dST.of o24 (by decide))) : dST D M24).2.2.1]; omega)).1 ?_
    refine V_dSz (l := (15 + s)) (w := D 70 (15 + s)) dX3_writeText_29 c_RX3_69 rfl (by decide) (Nat.le_of_ble_eq_true rfl) rfl hM (((((dST.rf.st (by decide)).tr (dST.of oN13 (by decide))).tr (dST.of oN18 (by decide))).tr (dST.of o24 (by decide))).L.mpr (vLs (by omega))) ((o24 70 _ (by decide)).trans ((oN18 70 _ (by decide)).trans ((oN13 70 _ (by decide)).trans (by simp [sT, mset])))) (fun r29 => ?_)
    refine V_icmp_ge (tgt := 77) dX3_writeText_32 (by decide) (by omega) (by omega) (fun q32 => ?_) (fun q32 => ?_)
    · refine V_vret dX3_writeText_77 rfl ?_
      exact dretV hM hF (by rw [k24e, show k24 = D 70 (15 + s) by omega, eN18, eN13, h2]; rfl)
    · refine V_iload_n dX3_writeText_35 rfl ?_
      refine V_if_le (tgt := 49) dX3_writeText_36 (by decide) (by omega) (fun q36 => ?_) (fun q36 => ?_)
      · refine V_aload_n dX3_writeText_49 rfl ?_
        refine V_dgr (f := 8) (i := 0) (b := 16) dX3_writeText_50 fg_RX3_38 rfl rfl hM.fx.1 hM (((((dST.rf.st (by decide)).tr (dST.of oN13 (by decide))).tr (dST.of oN18 (by decide))).tr (dST.of o24 (by decide))).A.mpr (vAx (by decide))) hM.s.1.2.2.2.2.2.2.2 ?_
        refine V_aload_n dX3_writeText_53 rfl ?_
        refine V_dgr (f := 4) (i := s) (b := (A 6 (15 + s))) dX3_writeText_54 fg_RX3_239 rfl rfl rfl hM (((((dST.rf.st (by decide)).tr (dST.of oN13 (by decide))).tr (dST.of oN18 (by decide))).tr (dST.of o24 (by decide))).A.mpr (vAs (by decide) (by omega))) (hM.s.2.2.2.2 s (by rw [(((((dST.rf.st (by decide)).tr (dST.of oN13 (by decide))).tr (dST.of oN18 (by decide))).tr (dST.of o24 (by decide))) : dST D M24).2.2.1]; omega)).1 ?_
        refine V_iload_n dX3_writeText_57 rfl ?_
        refine V_dGq (l := (15 + s)) dX3_writeText_58 c_RX3_132 rfl (by decide) (Nat.le_of_ble_eq_true rfl) rfl hM (((((dST.rf.st (by decide)).tr (dST.of oN13 (by decide))).tr (dST.of oN18 (by decide))).tr (dST.of o24 (by decide))).L.mpr (vLs (by omega))) (by rw [show M24 70 (15 + s) = D 70 (15 + s) from ((o24 70 _ (by decide)).trans ((oN18 70 _ (by decide)).trans ((oN13 70 _ (by decide)).trans (by simp [sT, mset]))))]; omega) (by omega) (fun g58 => ?_)
        rw [(((((dST.rf.st (by decide)).tr (dST.of oN13 (by decide))).tr (dST.of oN18 (by decide))).tr (dST.of o24 (by decide))) : dST D M24).1] at g58
        rw [show M24 71 (40 * (15 + s) + k24) = D 71 (40 * (15 + s) + k24) from ((o24 71 _ (by decide)).trans ((oN18 71 _ (by decide)).trans ((oN13 71 _ (by decide)).trans (by simp [sT, mset]))))] at g58 ⊢
        have t58 : N18 71 (40 * (15 + s) + k24) = D 71 (40 * (15 + s) + k24) := (oN18 71 _ (by decide)).trans ((oN13 71 _ (by decide)).trans (mset_n (by decide)))
        refine V_ckc dX3_writeText_61 k_RX3_75 (hM.kd (f := 0) (((((dST.rf.st (by decide)).tr (dST.of oN13 (by decide))).tr (dST.of oN18 (by decide))).tr (dST.of o24 (by decide))).A.mpr (vAq (by decide) (by omega)))) ?_
        refine V_dg (f := 0) (F := 20) (i := D 71 (40 * (15 + s) + k24)) (t := D 71 (40 * (15 + s) + k24)) (w := D 71 (40 * (15 + s) + k24)) dX3_writeText_64 fg_RX3_152 rfl rfl rfl rfl hM (((((dST.rf.st (by decide)).tr (dST.of oN13 (by decide))).tr (dST.of oN18 (by decide))).tr (dST.of o24 (by decide))).F.mpr (vFq (by decide) (by omega))) (((o24 20 _ (by decide)).trans ((oN18 20 _ (by decide)).trans ((oN13 20 _ (by decide)).trans (by simp [sT, mset])))).trans (hI.a20 (by omega))) (fun r64 => ?_)
        refine V_dTi dX3_writeText_67 c_RX3_365 rfl (by decide) (Nat.le_of_ble_eq_true rfl) hM hF (by omega) (by omega) (fun h hM hF => ?_)
        obtain ⟨N67, eN67⟩ : ∃ X, X = dPn M24 (D 71 (40 * (15 + s) + k24)) := ⟨_, rfl⟩
        rw [← eN67] at hM
        obtain ⟨oN67, hIN67, bN67⟩ := dPn_o (D := M24) hI24 (x := (D 71 (40 * (15 + s) + k24))) (by omega)
        rw [← eN67] at oN67 hIN67 bN67
        refine V_pop dX3_writeText_70 cat_R ?_
        refine V_iinc (lc' := [_, _, _, _]) dX3_writeText_71 rfl (by decide) rfl ?_
        refine V_goto (tgt := 24) dX3_writeText_74 (by decide) ?_
        exact ih24 (by omega) N67 ⟨by omega, by omega, by rw [dTxN_s k24l, ← k24e]; first | (rw [if_neg (by omega), eN67]; rw [t58]) | (rw [if_pos (by omega), eN67, eN45]; rw [t58])⟩ h hM hF
      · refine V_aload_n dX3_writeText_39 rfl ?_
        refine V_dgr (f := 8) (i := 0) (b := 16) dX3_writeText_40 fg_RX3_38 rfl rfl hM.fx.1 hM (((((dST.rf.st (by decide)).tr (dST.of oN13 (by decide))).tr (dST.of oN18 (by decide))).tr (dST.of o24 (by decide))).A.mpr (vAx (by decide))) hM.s.1.2.2.2.2.2.2.2 ?_
        refine V_bipush dX3_writeText_43 (by decide) ?_
        refine V_dTc dX3_writeText_45 c_RX3_369 rfl (by decide) (Nat.le_of_ble_eq_true rfl) hM hF (by omega) (by omega) (fun h hM hF => ?_)
        obtain ⟨N45, eN45⟩ : ∃ X, X = dPc M24 44 := ⟨_, rfl⟩
        rw [← eN45] at hM
        obtain ⟨oN45, hIN45, bN45⟩ := dPc_o (D := M24) hI24 (c := 44) (by omega)
        rw [← eN45] at oN45 hIN45 bN45
        refine V_pop dX3_writeText_48 cat_R ?_
        refine V_aload_n dX3_writeText_49 rfl ?_
        refine V_dgr (f := 8) (i := 0) (b := 16) dX3_writeText_50 fg_RX3_38 rfl rfl hM.fx.1 hM ((((((dST.rf.st (by decide)).tr (dST.of oN13 (by decide))).tr (dST.of oN18 (by decide))).tr (dST.of o24 (by decide))).tr (dST.of oN45 (by decide))).A.mpr (vAx (by decide))) hM.s.1.2.2.2.2.2.2.2 ?_
        refine V_aload_n dX3_writeText_53 rfl ?_
        refine V_dgr (f := 4) (i := s) (b := (A 6 (15 + s))) dX3_writeText_54 fg_RX3_239 rfl rfl rfl hM ((((((dST.rf.st (by decide)).tr (dST.of oN13 (by decide))).tr (dST.of oN18 (by decide))).tr (dST.of o24 (by decide))).tr (dST.of oN45 (by decide))).A.mpr (vAs (by decide) (by omega))) (hM.s.2.2.2.2 s (by rw [((((((dST.rf.st (by decide)).tr (dST.of oN13 (by decide))).tr (dST.of oN18 (by decide))).tr (dST.of o24 (by decide))).tr (dST.of oN45 (by decide))) : dST D N45).2.2.1]; omega)).1 ?_
        refine V_iload_n dX3_writeText_57 rfl ?_
        refine V_dGq (l := (15 + s)) dX3_writeText_58 c_RX3_132 rfl (by decide) (Nat.le_of_ble_eq_true rfl) rfl hM ((((((dST.rf.st (by decide)).tr (dST.of oN13 (by decide))).tr (dST.of oN18 (by decide))).tr (dST.of o24 (by decide))).tr (dST.of oN45 (by decide))).L.mpr (vLs (by omega))) (by rw [show N45 70 (15 + s) = D 70 (15 + s) from ((oN45 70 _ (by decide)).trans ((o24 70 _ (by decide)).trans ((oN18 70 _ (by decide)).trans ((oN13 70 _ (by decide)).trans (by simp [sT, mset])))))]; omega) (by omega) (fun g58 => ?_)
        rw [((((((dST.rf.st (by decide)).tr (dST.of oN13 (by decide))).tr (dST.of oN18 (by decide))).tr (dST.of o24 (by decide))).tr (dST.of oN45 (by decide))) : dST D N45).1] at g58
        rw [show N45 71 (40 * (15 + s) + k24) = D 71 (40 * (15 + s) + k24) from ((oN45 71 _ (by decide)).trans ((o24 71 _ (by decide)).trans ((oN18 71 _ (by decide)).trans ((oN13 71 _ (by decide)).trans (by simp [sT, mset])))))] at g58 ⊢
        have t58 : N18 71 (40 * (15 + s) + k24) = D 71 (40 * (15 + s) + k24) := (oN18 71 _ (by decide)).trans ((oN13 71 _ (by decide)).trans (mset_n (by decide)))
        refine V_ckc dX3_writeText_61 k_RX3_75 (hM.kd (f := 0) ((((((dST.rf.st (by decide)).tr (dST.of oN13 (by decide))).tr (dST.of oN18 (by decide))).tr (dST.of o24 (by decide))).tr (dST.of oN45 (by decide))).A.mpr (vAq (by decide) (by omega)))) ?_
        refine V_dg (f := 0) (F := 20) (i := D 71 (40 * (15 + s) + k24)) (t := D 71 (40 * (15 + s) + k24)) (w := D 71 (40 * (15 + s) + k24)) dX3_writeText_64 fg_RX3_152 rfl rfl rfl rfl hM ((((((dST.rf.st (by decide)).tr (dST.of oN13 (by decide))).tr (dST.of oN18 (by decide))).tr (dST.of o24 (by decide))).tr (dST.of oN45 (by decide))).F.mpr (vFq (by decide) (by omega))) (((oN45 20 _ (by decide)).trans ((o24 20 _ (by decide)).trans ((oN18 20 _ (by decide)).trans ((oN13 20 _ (by decide)).trans (by simp [sT, mset]))))).trans (hI.a20 (by omega))) (fun r64 => ?_)
        refine V_dTi dX3_writeText_67 c_RX3_365 rfl (by decide) (Nat.le_of_ble_eq_true rfl) hM hF (by omega) (by omega) (fun h hM hF => ?_)
        obtain ⟨N67, eN67⟩ : ∃ X, X = dPn N45 (D 71 (40 * (15 + s) + k24)) := ⟨_, rfl⟩
        rw [← eN67] at hM
        obtain ⟨oN67, hIN67, bN67⟩ := dPn_o (D := N45) hIN45 (x := (D 71 (40 * (15 + s) + k24))) (by omega)
        rw [← eN67] at oN67 hIN67 bN67
        refine V_pop dX3_writeText_70 cat_R ?_
        refine V_iinc (lc' := [_, _, _, _]) dX3_writeText_71 rfl (by decide) rfl ?_
        refine V_goto (tgt := 24) dX3_writeText_74 (by decide) ?_
        exact ih24 (by omega) N67 ⟨by omega, by omega, by rw [dTxN_s k24l, ← k24e]; first | (rw [if_neg (by omega), eN67]; rw [t58]) | (rw [if_pos (by omega), eN67, eN45]; rw [t58])⟩ h hM hF
  exact lp24 0 N18 ⟨by omega, by omega, rfl⟩ h hM hF
theorem T_X3_textOf (g : GP) (N U : Nat) (D : MS) (s : Int) (i : Int) (r_s : -2147483648 ≤ s ∧ s ≤ 2147483647) (r_i : -2147483648 ≤ i ∧ i ≤ 2147483647) (hI : ID D) (hN : N + 200 ≤ z_CC) (hU : U + 5000 ≤ z_CS) : TX g m_X3_textOf 9 [xR 8, xI s, xI i] N U D (d_textOf D s i) := by
  refine TX.of (by decide) rfl (fun v hv => ?_) (Nat.le_of_ble_eq_true rfl) ?_
  · simp only [List.mem_cons, List.not_mem_nil, or_false] at hv
    rcases hv with rfl | rfl | rfl <;> first | exact Or.inl ⟨_, rfl⟩ | exact Or.inr ⟨_, rfl⟩
  intro A h0 h hM hF
  obtain ⟨i90, i91, i92⟩ := hI.n
  obtain ⟨c90, c91, c92⟩ := hI.c
  obtain ⟨⟨z90, -⟩, ⟨z91, -⟩, z92, -⟩ := hM.b.2.2.1
  change V g m_X3_textOf 9 _ h 0 [xR 8, xI s, xI i] []
  refine V_aload_n dX3_textOf_0 rfl ?_
  refine V_iload_n dX3_textOf_1 rfl ?_
  refine V_aload_n dX3_textOf_2 rfl ?_
  refine V_iload_n dX3_textOf_3 rfl ?_
  rcases (Classical.em (0 ≤ s ∧ s < D 70 47)).symm with w4 | w4
  · refine V_cV (as := [_]) dX3_textOf_4 c_RX3_235 rfl (by decide) rfl (Nat.le_of_ble_eq_true rfl) hM.kx (X_X3_sheetOf g hM s (by omega) hI w4) (fun E9 h9 z9 => ?_) (fun v9 h9 z9 => nomatch z9.1)
    obtain ⟨z8, n9, n9a, n9b, rfl⟩ := z9
    cases z8
    exact qthr hM hF hN hU n9a n9b (by unfold d_textOf; (repeat' split) <;> first | rfl | (exfalso; omega)) rfl
  refine V_pV (as := [_]) dX3_textOf_4 c_RX3_235 rfl (by decide) rfl (Nat.le_of_ble_eq_true rfl) hM.kx (T_X3_sheetOf g hM s (by omega) hI (by omega)) ?_
  refine V_dC (as := [_, _]) dX3_textOf_7 c_RX3_280 rfl (by decide) rfl (Nat.le_of_ble_eq_true rfl) hM.kx hM hF (T_X3_writeText g A N U D s s (by omega) hI (by omega) (by omega)) (fun h hM hF => ?_)
  obtain ⟨N7, eN7⟩ : ∃ X, X = dTx D s := ⟨_, rfl⟩
  rw [← eN7] at hM
  obtain ⟨oN7, hIN7⟩ := dTx_o2 (D := D) s s hI (by omega) (by omega)
  rw [← eN7] at oN7 hIN7
  obtain ⟨e90_7, e91_7, e92_7, -⟩ : dST D N7 := (dST.rf.tr (dST.of oN7 (by decide)))
  have n7 := hIN7.n
  have b80 := hIN7.a80
  refine V_iload_n dX3_textOf_10 rfl ?_
  refine V_if_lt (tgt := 25) dX3_textOf_11 (by decide) (by omega) (fun q11 => ?_) (fun q11 => ?_)
  · refine V_throwNW dX3_textOf_25 dX3_textOf_28 dX3_textOf_29 dX3_textOf_32 dX3_textOf_35 t_RX3_113_287 rfl (by decide) (by have := hM.room; omega) (by have := hM.room; omega) (fun n9 n9a n9b => ?_)
    exact qthr hM hF hN hU n9a n9b (by unfold d_textOf; rw [← eN7, if_neg (by omega), if_pos (by omega)]; rfl) rfl
  · refine V_iload_n dX3_textOf_14 rfl ?_
    refine V_aload_n dX3_textOf_15 rfl ?_
    refine V_dgr (f := 8) (i := 0) (b := 16) dX3_textOf_16 fg_RX3_38 rfl rfl hM.fx.1 hM ((dST.rf.tr (dST.of oN7 (by decide))).A.mpr (vAx (by decide))) hM.s.1.2.2.2.2.2.2.2 ?_
    refine V_dTl dX3_textOf_19 c_RX3_284 rfl (by decide) (Nat.le_of_ble_eq_true rfl) hM ?_
    refine V_icmp_lt (tgt := 36) dX3_textOf_22 (by decide) (by omega) (by omega) (fun q22 => ?_) (fun q22 => ?_)
    · refine V_aload_n dX3_textOf_36 rfl ?_
      refine V_dgr (f := 8) (i := 0) (b := 16) dX3_textOf_37 fg_RX3_38 rfl rfl hM.fx.1 hM ((dST.rf.tr (dST.of oN7 (by decide))).A.mpr (vAx (by decide))) hM.s.1.2.2.2.2.2.2.2 ?_
      refine V_iload_n dX3_textOf_40 rfl ?_
      refine V_dTa dX3_textOf_41 c_RX3_289 rfl (by decide) (Nat.le_of_ble_eq_true rfl) hM (by omega) (fun r41 => ?_)
      refine V_cret (by omega) dX3_textOf_44 rfl ?_
      exact qret hM hF hN hU (by unfold d_textOf; rw [← eN7, if_neg (by omega), if_neg (by omega)]) rfl
    · refine V_throwNW dX3_textOf_25 dX3_textOf_28 dX3_textOf_29 dX3_textOf_32 dX3_textOf_35 t_RX3_113_287 rfl (by decide) (by have := hM.room; omega) (by have := hM.room; omega) (fun n9 n9a n9b => ?_)
      exact qthr hM hF hN hU n9a n9b (by unfold d_textOf; rw [← eN7, if_neg (by omega), if_pos (by omega)]; rfl) rfl

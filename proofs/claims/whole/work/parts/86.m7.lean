noncomputable def s_rightShare (M : MS) : UInt32 × MS := if M 25 0 = 0 then (0, mset M 27 0 1) else (fSh (M 26 0) (M 25 0), mset M 27 0 0)
noncomputable def s_meanLevel (M : MS) : UInt64 × MS := if M 20 0 = 0 then (0, mset M 27 0 1) else (dMn (sSumN M (M 20 0).toNat) (M 20 0), mset M 27 0 0)
abbrev eAE : String := "java/lang/ArithmeticException"
noncomputable def d_rightShare (D : MS) : Res × MS := if D 8 0 = 0 then (.inr eAE, D) else (.inl (some (xV (.float (fSh (D 9 0) (D 8 0))))), D)
noncomputable def d_meanLevel (D : MS) : Res × MS := if D 90 0 = 0 then (.inr eAE, D) else (.inl (some (xV (.double (dMn (dSumN D (D 90 0).toNat) (D 90 0))))), D)
theorem dSumN_r {D : MS} (h : ID D) : ∀ n : Nat, 0 ≤ dSumN D n ∧ dSumN D n ≤ 100 * n := by
  intro n
  induction n with
  | zero => exact ⟨Int.le_refl _, Int.le_refl _⟩
  | succ n ih =>
    have := h.a23 n
    show 0 ≤ dSumN D n + D 23 n ∧ dSumN D n + D 23 n ≤ _
    omega
theorem T_X4_rightShare (g : GP) (M : MS)   (hI : IM M) (h6 : M 25 0 ≤ 600) (h7 : M 26 0 ≤ 600) : TM g m_X4_rightShare 1 [] M (some (xV (.float (s_rightShare M).1))) ((s_rightShare M).2) := by
  refine TM.of (by decide) rfl (fun v hv => ?_) (Nat.le_of_ble_eq_true rfl) ?_
  · cases hv
  intro h0 h hM hF
  change V g m_X4_rightShare 1 _ h 0 [xR 18] []
  obtain ⟨⟨i19, i20, i21, i22, i23, i24, i25, i26, i29⟩, iA⟩ := id hI
  refine V_aload_n dX4_rightShare_0 rfl ?_
  refine V_aload_n dX4_rightShare_1 rfl ?_
  refine V_mg (f := 25) (z := M 25 0) dX4_rightShare_2 fg_RX4_186 rfl (by decide) hM rfl (fun r2 => ?_)
  refine V_if_ne (tgt := 12) dX4_rightShare_5 (by decide) (by omega) (fun q5 => ?_) (fun q5 => ?_)
  · refine V_iconst dX4_rightShare_12 ?_
    refine V_mp (f := 27) dX4_rightShare_13 f_RX4_72 rfl (by decide) hM hF (by omega) (fun h hM hF => ?_)
    refine V_aload_n dX4_rightShare_16 rfl ?_
    refine V_mg (f := 27) (z := 0) dX4_rightShare_17 fg_RX4_72 rfl (by decide) hM (by simp [sT, mset]) (fun r17 => ?_)
    refine V_if_le (tgt := 27) dX4_rightShare_20 (by decide) (by decide) (fun _ => ?_) (fun q20 => absurd q20 (by decide))
    refine V_aload_n dX4_rightShare_27 rfl ?_
    refine V_mg (f := 26) (z := M 26 0) dX4_rightShare_28 fg_RX4_189 rfl (by decide) hM (by simp [sT, mset]) (fun r28 => ?_)
    refine V_i2f dX4_rightShare_31 ?_
    refine V_aload_n dX4_rightShare_32 rfl ?_
    refine V_mg (f := 25) (z := M 25 0) dX4_rightShare_33 fg_RX4_186 rfl (by decide) hM (by simp [sT, mset]) (fun r33 => ?_)
    refine V_i2f dX4_rightShare_36 ?_
    refine V_fdiv dX4_rightShare_37 (fSh_ok (by omega) (by omega)) ?_
    refine V_fret dX4_rightShare_38 rfl ?_
    refine ⟨?_, ?_, hF⟩ <;> (unfold s_rightShare; (repeat' split) <;> first | rfl | exact hM | (exfalso; omega))
  · refine V_iconst dX4_rightShare_8 ?_
    refine V_goto (tgt := 13) dX4_rightShare_9 (by decide) ?_
    refine V_mp (f := 27) dX4_rightShare_13 f_RX4_72 rfl (by decide) hM hF (by omega) (fun h hM hF => ?_)
    refine V_aload_n dX4_rightShare_16 rfl ?_
    refine V_mg (f := 27) (z := 1) dX4_rightShare_17 fg_RX4_72 rfl (by decide) hM (by simp [sT, mset]) (fun r17 => ?_)
    refine V_if_le (tgt := 27) dX4_rightShare_20 (by decide) (by decide) (fun q20 => absurd q20 (by decide)) (fun _ => ?_)
    refine V_fconst0 dX4_rightShare_23 ?_
    refine V_goto (tgt := 38) dX4_rightShare_24 (by decide) ?_
    refine V_fret dX4_rightShare_38 rfl ?_
    refine ⟨?_, ?_, hF⟩ <;> (unfold s_rightShare; (repeat' split) <;> first | rfl | exact hM | (exfalso; omega))
theorem T_X4_meanLevel (g : GP) (M : MS)   (hI : IM M) : TM g m_X4_meanLevel 1 [] M (some (xV (.double (s_meanLevel M).1))) ((s_meanLevel M).2) := by
  refine TM.of (by decide) rfl (fun v hv => ?_) (Nat.le_of_ble_eq_true rfl) ?_
  · cases hv
  intro h0 h hM hF
  change V g m_X4_meanLevel 1 _ h 0 [xR 18, xU, xU] []
  obtain ⟨⟨i19, i20, i21, i22, i23, i24, i25, i26, i29⟩, iA⟩ := id hI
  refine V_aload_n dX4_meanLevel_0 rfl ?_
  refine V_aload_n dX4_meanLevel_1 rfl ?_
  refine V_mg (f := 20) (z := M 20 0) dX4_meanLevel_2 fg_RX4_76 rfl (by decide) hM rfl (fun r2 => ?_)
  refine V_if_ne (tgt := 12) dX4_meanLevel_5 (by decide) (by omega) (fun q5 => ?_) (fun q5 => ?_)
  · refine V_iconst dX4_meanLevel_12 ?_
    refine V_mp (f := 27) dX4_meanLevel_13 f_RX4_72 rfl (by decide) hM hF (by omega) (fun h hM hF => ?_)
    refine V_aload_n dX4_meanLevel_16 rfl ?_
    refine V_mg (f := 27) (z := 0) dX4_meanLevel_17 fg_RX4_72 rfl (by decide) hM (by simp [sT, mset]) (fun r17 => ?_)
    refine V_if_le (tgt := 25) dX4_meanLevel_20 (by decide) (by decide) (fun _ => ?_) (fun q20 => absurd q20 (by decide))
    refine V_iconst dX4_meanLevel_25 ?_
    refine V_istore_n (lc' := [_, _, _]) dX4_meanLevel_26 (by decide) rfl ?_
    refine V_iconst dX4_meanLevel_27 ?_
    refine V_istore_n (lc' := [_, _, _]) dX4_meanLevel_28 (by decide) rfl ?_
    have lp29 : ∀ k29 : Int, ∀ n29 : Int, (0 ≤ k29 ∧ k29 ≤ M 20 0 ∧ n29 = sSumN M k29.toNat) → ∀ h, MR h (mset M 27 0 0) → FR h0 h → V g m_X4_meanLevel 1 (Qm h0 (some (xV (.double (s_meanLevel M).1))) ((s_meanLevel M).2)) h 29 [xR 18, xI n29, xI k29] [] := by
      refine lp_up (M 20 0) (fun k29 ih29 => ?_)
      intro n29 hk h hM hF
      obtain ⟨k29l, k29u, k29e⟩ := hk
      refine V_iload_n dX4_meanLevel_29 rfl ?_
      refine V_aload_n dX4_meanLevel_30 rfl ?_
      refine V_mg (f := 20) (z := M 20 0) dX4_meanLevel_31 fg_RX4_76 rfl (by decide) hM (by simp [sT, mset]) (fun r31 => ?_)
      refine V_icmp_ge (tgt := 52) dX4_meanLevel_34 (by decide) (by omega) (by omega) (fun q34 => ?_) (fun q34 => ?_)
      · refine V_iload_n dX4_meanLevel_52 rfl ?_
        refine V_i2d dX4_meanLevel_53 ?_
        refine V_aload_n dX4_meanLevel_54 rfl ?_
        refine V_mg (f := 20) (z := M 20 0) dX4_meanLevel_55 fg_RX4_76 rfl (by decide) hM (by simp [sT, mset]) (fun r55 => ?_)
        refine V_i2d dX4_meanLevel_58 ?_
        refine V_ddiv dX4_meanLevel_59 (dMn_ok (by rw [k29e]; have := sSumN_r hI k29.toNat; omega) (by omega)) ?_
        refine V_dret dX4_meanLevel_60 rfl ?_
        refine ⟨?_, ?_, hF⟩ <;> (unfold s_meanLevel; (repeat' split) <;> first | rfl | exact hM | (exfalso; omega) | (rw [k29e, show k29 = M 20 0 by omega]))
      · refine V_iload_n dX4_meanLevel_37 rfl ?_
        refine V_aload_n dX4_meanLevel_38 rfl ?_
        refine V_mgA (f := 3) (a := 22) dX4_meanLevel_39 fg_RX4_19 rfl (by decide) hM rfl ?_
        refine V_iload_n dX4_meanLevel_42 rfl ?_
        refine V_mi (f := 3) (n := 40) (w := M 3 k29) dX4_meanLevel_43 rfl rfl (by decide) rfl rfl hM (by omega) (by simp [sT, mset]) (fun r43 => ?_)
        have b43 := hI.a3 k29
        refine V_iadd dX4_meanLevel_44 ?_
        refine V_istore_n (lc' := [_, _, _]) dX4_meanLevel_45 (by decide) rfl ?_
        refine V_iinc (lc' := [_, _, _]) dX4_meanLevel_46 rfl (by decide) rfl ?_
        refine V_goto (tgt := 29) dX4_meanLevel_49 (by decide) ?_
        exact ih29 (by omega) (n29 + (M 3 k29)) ⟨by omega, by omega, by rw [sSumN_s k29l, ← k29e]⟩ h hM hF
    exact lp29 0 0 ⟨by omega, by omega, rfl⟩ h hM hF
  · refine V_iconst dX4_meanLevel_8 ?_
    refine V_goto (tgt := 13) dX4_meanLevel_9 (by decide) ?_
    refine V_mp (f := 27) dX4_meanLevel_13 f_RX4_72 rfl (by decide) hM hF (by omega) (fun h hM hF => ?_)
    refine V_aload_n dX4_meanLevel_16 rfl ?_
    refine V_mg (f := 27) (z := 1) dX4_meanLevel_17 fg_RX4_72 rfl (by decide) hM (by simp [sT, mset]) (fun r17 => ?_)
    refine V_if_le (tgt := 25) dX4_meanLevel_20 (by decide) (by decide) (fun q20 => absurd q20 (by decide)) (fun _ => ?_)
    refine V_dconst0 dX4_meanLevel_23 ?_
    refine V_dret dX4_meanLevel_24 rfl ?_
    refine ⟨?_, ?_, hF⟩ <;> (unfold s_meanLevel; (repeat' split) <;> first | rfl | exact hM | (exfalso; omega) | (rw [k29e, show k29 = M 20 0 by omega]))
theorem T_X3_rightShare (g : GP) (N U : Nat) (D : MS)   (hI : ID D) (h8 : D 8 0 ≤ 600) (h9 : D 9 0 ≤ 600) (hN : N + 200 ≤ z_CC) (hU : U + 5000 ≤ z_CS) : TX g m_X3_rightShare 8 [xR 8] N U D (d_rightShare D) := by
  refine TX.of (by decide) rfl (fun v hv => ?_) (Nat.le_of_ble_eq_true rfl) ?_
  · simp only [List.mem_cons, List.not_mem_nil, or_false] at hv
    subst hv; first | exact Or.inl ⟨_, rfl⟩ | exact Or.inr ⟨_, rfl⟩
  intro A h0 h hM hF
  obtain ⟨i90, i91, i92⟩ := hI.n
  obtain ⟨c90, c91, c92⟩ := hI.c
  obtain ⟨⟨z90, -⟩, ⟨z91, -⟩, z92, -⟩ := hM.b.2.2.1
  change V g m_X3_rightShare 8 _ h 0 [xR 8] []
  have b8 := hI.a8
  have b9 := hI.a9
  refine V_aload_n dX3_rightShare_0 rfl ?_
  refine V_dg (f := 8) (F := 8) (i := 0) (t := 0) (w := D 8 0) dX3_rightShare_1 fg_RX3_274 rfl rfl rfl hM.fx.1 hM (vFx (by decide)) rfl (fun r1 => ?_)
  have b1 := hI.a8
  refine V_if_ne (tgt := 18) dX3_rightShare_4 (by decide) (by omega) (fun q4 => ?_) (fun q4 => ?_)
  · refine V_aload_n dX3_rightShare_18 rfl ?_
    refine V_dg (f := 8) (F := 9) (i := 0) (t := 0) (w := D 9 0) dX3_rightShare_19 fg_RX3_277 rfl rfl rfl hM.fx.1 hM (vFx (by decide)) rfl (fun r19 => ?_)
    have b19 := hI.a9
    refine V_i2f dX3_rightShare_22 ?_
    refine V_aload_n dX3_rightShare_23 rfl ?_
    refine V_dg (f := 8) (F := 8) (i := 0) (t := 0) (w := D 8 0) dX3_rightShare_24 fg_RX3_274 rfl rfl rfl hM.fx.1 hM (vFx (by decide)) rfl (fun r24 => ?_)
    have b24 := hI.a8
    refine V_i2f dX3_rightShare_27 ?_
    refine V_fdiv dX3_rightShare_28 (fSh_ok (by omega) (by omega)) ?_
    refine V_fret dX3_rightShare_29 rfl ?_
    exact qret hM hF hN hU (by unfold d_rightShare; (repeat' split) <;> first | rfl | (exfalso; omega)) rfl
  · refine V_throwW dX3_rightShare_7 dX3_rightShare_10 dX3_rightShare_11 dX3_rightShare_14 dX3_rightShare_17 t_RX3_293_295 rfl (by decide) (by have := hM.room; omega) (by have := hM.room; omega) (fun n9 n9a n9b => ?_)
    exact qthr hM hF hN hU n9a n9b (by unfold d_rightShare; (repeat' split) <;> first | rfl | (exfalso; omega)) rfl
theorem T_X3_meanLevel (g : GP) (N U : Nat) (D : MS)   (hI : ID D) (hN : N + 200 ≤ z_CC) (hU : U + 5000 ≤ z_CS) : TX g m_X3_meanLevel 8 [xR 8] N U D (d_meanLevel D) := by
  refine TX.of (by decide) rfl (fun v hv => ?_) (Nat.le_of_ble_eq_true rfl) ?_
  · simp only [List.mem_cons, List.not_mem_nil, or_false] at hv
    subst hv; first | exact Or.inl ⟨_, rfl⟩ | exact Or.inr ⟨_, rfl⟩
  intro A h0 h hM hF
  obtain ⟨i90, i91, i92⟩ := hI.n
  obtain ⟨c90, c91, c92⟩ := hI.c
  obtain ⟨⟨z90, -⟩, ⟨z91, -⟩, z92, -⟩ := hM.b.2.2.1
  change V g m_X3_meanLevel 8 _ h 0 [xR 8] []
  have b45 := hI.a70 45
  have bS := dSumN_r hI (D 90 0).toNat
  refine V_aload_n dX3_meanLevel_0 rfl ?_
  refine V_dgr (f := 8) (i := 0) (b := 10) dX3_meanLevel_1 fg_RX3_16 rfl rfl hM.fx.1 hM (vAx (by decide)) hM.s.1.2.1 ?_
  refine V_dEm (l := 45) dX3_meanLevel_4 c_RX3_229 rfl (by decide) (Nat.le_of_ble_eq_true rfl) hM.fx.2.2.2.1 hM (vL4 (by decide)) ?_
  refine V_ifb_eq (tgt := 21) dX3_meanLevel_7 (by decide) (fun q7 => ?_) (fun q7 => ?_)
  · refine V_aload_n dX3_meanLevel_21 rfl ?_
    refine V_pV (as := []) dX3_meanLevel_22 c_RX3_300 rfl (by decide) rfl (Nat.le_of_ble_eq_true rfl) hM.kx (T_X3_allLevels g hM  hI) ?_
    refine V_l2d dX3_meanLevel_25 ?_
    refine V_aload_n dX3_meanLevel_26 rfl ?_
    refine V_dgr (f := 8) (i := 0) (b := 10) dX3_meanLevel_27 fg_RX3_16 rfl rfl hM.fx.1 hM (vAx (by decide)) hM.s.1.2.1 ?_
    refine V_dSz (l := 45) (w := D 70 45) dX3_meanLevel_30 c_RX3_69 rfl (by decide) (Nat.le_of_ble_eq_true rfl) hM.fx.2.2.2.1 hM (vL4 (by decide)) rfl (fun r30 => ?_)
    refine V_i2d dX3_meanLevel_33 ?_
    refine V_ddiv dX3_meanLevel_34 (by rw [l2d_i (by omega)]; exact dMn_ok (by omega) (by omega)) ?_
    refine V_dret dX3_meanLevel_35 rfl ?_
    exact qret hM hF hN hU (by unfold d_meanLevel; rw [if_neg (by omega), l2d_i (by omega), show D 70 45 = D 90 0 by omega]) rfl
  · refine V_throwW dX3_meanLevel_10 dX3_meanLevel_13 dX3_meanLevel_14 dX3_meanLevel_17 dX3_meanLevel_20 t_RX3_293_298 rfl (by decide) (by have := hM.room; omega) (by have := hM.room; omega) (fun n9 n9a n9b => ?_)
    exact qthr hM hF hN hU n9a n9b (by unfold d_meanLevel; (repeat' split) <;> first | rfl | (exfalso; omega)) rfl

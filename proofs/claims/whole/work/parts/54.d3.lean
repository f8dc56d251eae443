theorem dLu_st {p k : Int} {D M M3 T : MS} (e9 : M3 = dLu1 p M k) (hI : ID M) (o : OnlyF [28, 70, 71] D M) (h1 : 0 ≤ p ∧ p < 12) (hk : 0 ≤ k ∧ k + 1 ≤ M 70 (3 + p)) (e : dLu p (k + 1).toNat M = T) : -1 ≤ k + (-1) ∧ k + (-1) + 1 ≤ M3 70 (3 + p) ∧ OnlyF [28, 70, 71] D M3 ∧ ID M3 ∧ dLu p (k + (-1) + 1).toNat M3 = T := by
  obtain ⟨a, b, c⟩ := dLu1_o hI h1 (k := k) (by omega)
  rw [e9]
  refine ⟨by omega, by omega, o.tr a, b, ?_⟩
  rw [show k + (-1) + 1 = k by omega, ← dLu_s hk.1]
  exact e
theorem dCh_o2 {D : MS} (l : Int) (hI : ID D) (_ : vL D l) (_ : l ≠ 46 ∧ l ≠ 47) (c : Int) (hc : ∀ k, 0 ≤ D 29 k ∧ D 29 k ≤ c) (_ : c ≤ 1000000) : OnlyF [29] D (dCh D l (D 70 l).toNat) ∧ ID (dCh D l (D 70 l).toNat) := dCh_o l c hI hc
theorem T_X3_letGoAll (g : GP) (A : AD) (N U : Nat) (D : MS) (p : Int)  (hI : ID D) (h1 : 0 ≤ p ∧ p < D 91 0) : TD g m_X3_letGoAll 4 [xR (A 3 p)] A N U D none (dLa D p) := by
  refine TD.of (by decide) rfl (fun v hv => ?_) (Nat.le_of_ble_eq_true rfl) ?_
  · simp only [List.mem_cons, List.not_mem_nil, or_false] at hv
    subst hv; first | exact Or.inl ⟨_, rfl⟩ | exact Or.inr ⟨_, rfl⟩
  intro h0 h hM hF
  obtain ⟨i90, i91, i92⟩ := hI.n
  obtain ⟨c90, c91, c92⟩ := hI.c
  obtain ⟨⟨z90, -⟩, ⟨z91, -⟩, z92, -⟩ := hM.b.2.2.1
  change V g m_X3_letGoAll 4 _ h 0 [xR (A 3 p), xU] []
  have b70 := hI.a70 (3 + p)
  refine V_iconst dX3_letGoAll_0 ?_
  refine V_istore_n (lc' := [_, _]) dX3_letGoAll_1 (by decide) rfl ?_
  have lp2 : ∀ k2 : Int, ∀ M2 : MS, (0 ≤ k2 ∧ k2 ≤ D 70 (3 + p) ∧ M2 = dHoN D (3 + p) 0 k2.toNat) → ∀ h, DR h A M2 N U → FD h0 h → V g m_X3_letGoAll 4 (Qd h0 A N U none (dLa D p)) h 2 [xR (A 3 p), xI k2] [] := by
    refine lp_up (D 70 (3 + p)) (fun k2 ih2 => ?_)
    intro M2 hk h hM hF
    obtain ⟨k2l, k2u, k2e⟩ := hk
    have oI2 := dHoN_o hI (l := 3 + p) (v := 0) (Or.inl rfl) k2.toNat
    rw [← k2e] at oI2
    obtain ⟨o2, hI2⟩ := oI2
    obtain ⟨e90_2, e91_2, e92_2, -⟩ : dST D M2 := (dST.rf.tr (dST.of o2 (by decide)))
    have n2 := hI2.n
    refine V_iload_n dX3_letGoAll_2 rfl ?_
    refine V_aload_n dX3_letGoAll_3 rfl ?_
    refine V_dgr (f := 3) (i := p) (b := (A 6 (3 + p))) dX3_letGoAll_4 fg_RX3_183 rfl rfl rfl hM ((dST.rf.tr (dST.of o2 (by decide))).A.mpr (vAp (by omega))) (hM.s.2.2.2.1 p (by rw [((dST.rf.tr (dST.of o2 (by decide))) : dST D M2).2.1]; omega)) ?_
    refine V_dSz (l := (3 + p)) (w := D 70 (3 + p)) dX3_letGoAll_7 c_RX3_69 rfl (by decide) (Nat.le_of_ble_eq_true rfl) rfl hM ((dST.rf.tr (dST.of o2 (by decide))).L.mpr (vLp (by omega))) ((o2 70 _ (by decide)).trans rfl) (fun r7 => ?_)
    refine V_icmp_ge (tgt := 34) dX3_letGoAll_10 (by decide) (by omega) (by omega) (fun q10 => ?_) (fun q10 => ?_)
    · refine V_aload_n dX3_letGoAll_34 rfl ?_
      refine V_dgr (f := 3) (i := p) (b := (A 6 (3 + p))) dX3_letGoAll_35 fg_RX3_183 rfl rfl rfl hM ((dST.rf.tr (dST.of o2 (by decide))).A.mpr (vAp (by omega))) (hM.s.2.2.2.1 p (by rw [((dST.rf.tr (dST.of o2 (by decide))) : dST D M2).2.1]; omega)) ?_
      refine V_dCl (l := (3 + p)) dX3_letGoAll_38 c_RX3_129 rfl (by decide) (Nat.le_of_ble_eq_true rfl) rfl hM hF ((dST.rf.tr (dST.of o2 (by decide))).L.mpr (vLp (by omega))) (fun h hM hF => ?_)
      refine V_vret dX3_letGoAll_41 rfl ?_
      exact dretV hM hF (by rw [k2e, show k2 = D 70 (3 + p) by omega]; rfl)
    · refine V_aload_n dX3_letGoAll_13 rfl ?_
      refine V_dgr (f := 3) (i := p) (b := (A 6 (3 + p))) dX3_letGoAll_14 fg_RX3_183 rfl rfl rfl hM ((dST.rf.tr (dST.of o2 (by decide))).A.mpr (vAp (by omega))) (hM.s.2.2.2.1 p (by rw [((dST.rf.tr (dST.of o2 (by decide))) : dST D M2).2.1]; omega)) ?_
      refine V_iload_n dX3_letGoAll_17 rfl ?_
      refine V_dGq (l := (3 + p)) dX3_letGoAll_18 c_RX3_132 rfl (by decide) (Nat.le_of_ble_eq_true rfl) rfl hM ((dST.rf.tr (dST.of o2 (by decide))).L.mpr (vLp (by omega))) (by rw [show M2 70 (3 + p) = D 70 (3 + p) from ((o2 70 _ (by decide)).trans rfl)]; omega) (by omega) (fun g18 => ?_)
      rw [((dST.rf.tr (dST.of o2 (by decide))) : dST D M2).1] at g18
      rw [show M2 71 (40 * (3 + p) + k2) = D 71 (40 * (3 + p) + k2) from ((o2 71 _ (by decide)).trans rfl)] at g18 ⊢
      refine V_ckc dX3_letGoAll_21 k_RX3_75 (hM.kd (f := 0) ((dST.rf.tr (dST.of o2 (by decide))).A.mpr (vAq (by decide) (by omega)))) ?_
      refine V_iconst dX3_letGoAll_24 ?_
      refine V_dpz (f := 0) (F := 28) (i := D 71 (40 * (3 + p) + k2)) (t := D 71 (40 * (3 + p) + k2)) dX3_letGoAll_25 f_RX3_254 rfl rfl rfl rfl hM hF ((dST.rf.tr (dST.of o2 (by decide))).F.mpr (vFq (by decide) (by omega))) (by decide) (fun h hM hF => ?_)
      refine V_iinc (lc' := [_, _]) dX3_letGoAll_28 rfl (by decide) rfl ?_
      refine V_goto (tgt := 2) dX3_letGoAll_31 (by decide) ?_
      exact ih2 (by omega) (mset M2 28 (D 71 (40 * (3 + p) + k2)) 0) ⟨by omega, by omega, by rw [dHoN_s k2l, ← k2e]⟩ h hM hF
  exact lp2 0 D ⟨by omega, by omega, rfl⟩ h hM hF
theorem T_X3_close (g : GP) (A : AD) (N U : Nat) (D : MS) (p : Int)  (hI : ID D) (h1 : 0 ≤ p ∧ p < D 91 0) : TD g m_X3_close 5 [xR (A 3 p)] A N U D none (dCls D p) := by
  refine TD.of (by decide) rfl (fun v hv => ?_) (Nat.le_of_ble_eq_true rfl) ?_
  · simp only [List.mem_cons, List.not_mem_nil, or_false] at hv
    subst hv; first | exact Or.inl ⟨_, rfl⟩ | exact Or.inr ⟨_, rfl⟩
  intro h0 h hM hF
  obtain ⟨i90, i91, i92⟩ := hI.n
  obtain ⟨c90, c91, c92⟩ := hI.c
  obtain ⟨⟨z90, -⟩, ⟨z91, -⟩, z92, -⟩ := hM.b.2.2.1
  change V g m_X3_close 5 _ h 0 [xR (A 3 p)] []
  refine V_aload_n dX3_close_0 rfl ?_
  refine V_dS (as := [_]) dX3_close_1 c_RX3_327 rfl (by decide) rfl (Nat.le_of_ble_eq_true rfl) hM hF (T_X3_letGoAll g A N U D p hI (by omega)) (fun h hM hF => ?_)
  obtain ⟨N1, eN1⟩ : ∃ X, X = dLa D p := ⟨_, rfl⟩
  rw [← eN1] at hM
  obtain ⟨oN1, hIN1⟩ := dLa_o (D := D) p hI (by omega)
  rw [← eN1] at oN1 hIN1
  obtain ⟨e90_1, e91_1, e92_1, -⟩ : dST D N1 := (dST.rf.tr (dST.of oN1 (by decide)))
  have n1 := hIN1.n
  refine V_aload_n dX3_close_4 rfl ?_
  refine V_iconst dX3_close_5 ?_
  refine V_dpz (f := 3) (F := 54) (i := p) (t := p) dX3_close_6 f_RX3_177 rfl rfl rfl rfl hM hF ((dST.rf.tr (dST.of oN1 (by decide))).F.mpr (vFp (by decide) (by omega))) (by decide) (fun h hM hF => ?_)
  refine V_vret dX3_close_9 rfl ?_
  exact dretV hM hF (by rw [eN1]; rfl)
theorem T_X3_letGoUnfit (g : GP) (A : AD) (N U : Nat) (D : MS) (p : Int)  (hI : ID D) (h1 : 0 ≤ p ∧ p < D 91 0) : TD g m_X3_letGoUnfit 6 [xR (A 3 p)] A N U D none (dLu p (D 70 (3 + p)).toNat D) := by
  refine TD.of (by decide) rfl (fun v hv => ?_) (Nat.le_of_ble_eq_true rfl) ?_
  · simp only [List.mem_cons, List.not_mem_nil, or_false] at hv
    subst hv; first | exact Or.inl ⟨_, rfl⟩ | exact Or.inr ⟨_, rfl⟩
  intro h0 h hM hF
  obtain ⟨i90, i91, i92⟩ := hI.n
  obtain ⟨c90, c91, c92⟩ := hI.c
  obtain ⟨⟨z90, -⟩, ⟨z91, -⟩, z92, -⟩ := hM.b.2.2.1
  change V g m_X3_letGoUnfit 6 _ h 0 [xR (A 3 p), xU] []
  have b70 := hI.a70 (3 + p)
  refine V_aload_n dX3_letGoUnfit_0 rfl ?_
  refine V_dgr (f := 3) (i := p) (b := (A 6 (3 + p))) dX3_letGoUnfit_1 fg_RX3_183 rfl rfl rfl hM (vAp (by omega)) (hM.s.2.2.2.1 p (by omega)) ?_
  refine V_dSz (l := (3 + p)) (w := D 70 (3 + p)) dX3_letGoUnfit_4 c_RX3_69 rfl (by decide) (Nat.le_of_ble_eq_true rfl) rfl hM (vLp (by omega)) rfl (fun r4 => ?_)
  refine V_iconst dX3_letGoUnfit_7 ?_
  refine V_isub dX3_letGoUnfit_8 ?_
  refine V_istore_n (lc' := [_, _]) dX3_letGoUnfit_9 (by decide) rfl ?_
  have lp10 : ∀ k10 : Int, ∀ M10 : MS, (-1 ≤ k10 ∧ k10 + 1 ≤ M10 70 (3 + p) ∧ OnlyF [28, 70, 71] D M10 ∧ ID M10 ∧ dLu p (k10 + 1).toNat M10 = dLu p (D 70 (3 + p)).toNat D) → ∀ h, DR h A M10 N U → FD h0 h → V g m_X3_letGoUnfit 6 (Qd h0 A N U none (dLu p (D 70 (3 + p)).toNat D)) h 10 [xR (A 3 p), xI k10] [] := by
    refine lp_dn (-1) (fun k10 ih10 => ?_)
    intro M10 hk h hM hF
    obtain ⟨k10l, k10u, o10, hI10, k10e⟩ := hk
    have c70 := hI10.a70 (3 + p)
    obtain ⟨e90_10, e91_10, e92_10, -⟩ : dST D M10 := (dST.rf.tr (dST.of o10 (by decide)))
    have n10 := hI10.n
    refine V_iload_n dX3_letGoUnfit_10 rfl ?_
    refine V_if_lt (tgt := 43) dX3_letGoUnfit_11 (by decide) (by omega) (fun q11 => ?_) (fun q11 => ?_)
    · refine V_vret dX3_letGoUnfit_43 rfl ?_
      exact dretV hM hF (by rw [← k10e, show (k10 + 1).toNat = 0 by omega]; rfl)
    · refine V_aload_n dX3_letGoUnfit_14 rfl ?_
      refine V_iload_n dX3_letGoUnfit_15 rfl ?_
      refine V_pS (as := [_, _]) dX3_letGoUnfit_16 c_RX3_333 rfl (by decide) rfl (Nat.le_of_ble_eq_true rfl) (T_X3_isFit g hM p k10 (by omega) hI10 (by omega) (by omega)) ?_
      refine V_ifb_ne (tgt := 37) dX3_letGoUnfit_19 (by decide) (fun q19 => ?_) (fun q19 => ?_)
      · refine V_iinc (lc' := [_, _]) dX3_letGoUnfit_37 rfl (by decide) rfl ?_
        refine V_goto (tgt := 10) dX3_letGoUnfit_40 (by decide) ?_
        exact ih10 (by omega) M10 (dLu_st ((if_pos q19).symm : M10 = dLu1 p M10 k10) hI10 o10 (by omega) (by omega) k10e) h hM hF
      · refine V_aload_n dX3_letGoUnfit_22 rfl ?_
        refine V_dgr (f := 3) (i := p) (b := (A 6 (3 + p))) dX3_letGoUnfit_23 fg_RX3_183 rfl rfl rfl hM ((dST.rf.tr (dST.of o10 (by decide))).A.mpr (vAp (by omega))) (hM.s.2.2.2.1 p (by rw [((dST.rf.tr (dST.of o10 (by decide))) : dST D M10).2.1]; omega)) ?_
        refine V_iload_n dX3_letGoUnfit_26 rfl ?_
        refine V_dRm (l := (3 + p)) dX3_letGoUnfit_27 c_RX3_337 rfl (by decide) (Nat.le_of_ble_eq_true rfl) rfl hM hF ((dST.rf.tr (dST.of o10 (by decide))).L.mpr (vLp (by omega))) (by omega) (eAq (by omega)) (fun g27 h hM hF => ?_)
        have g27 := (vEq (by omega)).mp g27
        rw [((dST.rf.tr (dST.of o10 (by decide))) : dST D M10).1] at g27
        obtain ⟨N27, eN27⟩ : ∃ X, X = (dRm M10 (3 + p) k10) := ⟨_, rfl⟩
        rw [← eN27] at hM
        have oN27 : OnlyF [70, 71] M10 N27 := by rw [eN27]; exact dRm_o
        refine V_ckc dX3_letGoUnfit_30 k_RX3_75 (hM.kd (f := 0) (((dST.rf.tr (dST.of o10 (by decide))).tr (dST.of oN27 (by decide))).A.mpr (vAq (by decide) (by omega)))) ?_
        refine V_iconst dX3_letGoUnfit_33 ?_
        refine V_dpz (f := 0) (F := 28) (i := M10 71 (40 * (3 + p) + k10)) (t := M10 71 (40 * (3 + p) + k10)) dX3_letGoUnfit_34 f_RX3_254 rfl rfl rfl rfl hM hF (((dST.rf.tr (dST.of o10 (by decide))).tr (dST.of oN27 (by decide))).F.mpr (vFq (by decide) (by omega))) (by decide) (fun h hM hF => ?_)
        refine V_iinc (lc' := [_, _]) dX3_letGoUnfit_37 rfl (by decide) rfl ?_
        refine V_goto (tgt := 10) dX3_letGoUnfit_40 (by decide) ?_
        exact ih10 (by omega) (mset N27 28 (M10 71 (40 * (3 + p) + k10)) 0) (dLu_st ((by rw [eN27]; exact (if_neg q19).symm) : (mset N27 28 (M10 71 (40 * (3 + p) + k10)) 0) = dLu1 p M10 k10) hI10 o10 (by omega) (by omega) k10e) h hM hF
  exact lp10 ((D 70 (3 + p)) - 1) D ⟨by omega, by omega, OnlyF.rf, hI, by rw [show D 70 (3 + p) - 1 + 1 = D 70 (3 + p) by omega]⟩ h hM hF
theorem T_X3_fill (g : GP) (A : AD) (N U : Nat) (D : MS) (p : Int)  (hI : ID D) (h1 : 0 ≤ p ∧ p < D 91 0) : TD g m_X3_fill 9 [xR 8, xR (A 3 p)] A N U D none (dFiN p D (D 90 0).toNat) := by
  refine TD.of (by decide) rfl (fun v hv => ?_) (Nat.le_of_ble_eq_true rfl) ?_
  · simp only [List.mem_cons, List.not_mem_nil, or_false] at hv
    rcases hv with rfl | rfl <;> first | exact Or.inl ⟨_, rfl⟩ | exact Or.inr ⟨_, rfl⟩
  intro h0 h hM hF
  obtain ⟨i90, i91, i92⟩ := hI.n
  obtain ⟨c90, c91, c92⟩ := hI.c
  obtain ⟨⟨z90, -⟩, ⟨z91, -⟩, z92, -⟩ := hM.b.2.2.1
  change V g m_X3_fill 9 _ h 0 [xR 8, xR (A 3 p), xU, xU] []
  refine V_iconst dX3_fill_0 ?_
  refine V_istore_n (lc' := [_, _, _, _]) dX3_fill_1 (by decide) rfl ?_
  have lp2 : ∀ k2 : Int, ∀ M2 : MS, (0 ≤ k2 ∧ k2 ≤ D 90 0 ∧ M2 = dFiN p D k2.toNat) → ∀ h, DR h A M2 N U → FD h0 h → V g m_X3_fill 9 (Qd h0 A N U none (dFiN p D (D 90 0).toNat)) h 2 [xR 8, xR (A 3 p), xI k2, xU] [] := by
    refine lp_up (D 90 0) (fun k2 ih2 => ?_)
    intro M2 hk h hM hF
    obtain ⟨k2l, k2u, k2e⟩ := hk
    have oI2 := dFiN_o hI (p := p) (by omega) k2.toNat
    rw [← k2e] at oI2
    obtain ⟨o2, hI2⟩ := oI2
    obtain ⟨e90_2, e91_2, e92_2, -⟩ : dST D M2 := (dST.rf.tr (dST.of o2 (by decide)))
    have n2 := hI2.n
    refine V_iload_n dX3_fill_2 rfl ?_
    refine V_aload_n dX3_fill_3 rfl ?_
    refine V_dgr (f := 8) (i := 0) (b := 10) dX3_fill_4 fg_RX3_16 rfl rfl hM.fx.1 hM ((dST.rf.tr (dST.of o2 (by decide))).A.mpr (vAx (by decide))) hM.s.1.2.1 ?_
    refine V_dSz (l := 45) (w := M2 70 45) dX3_fill_7 c_RX3_69 rfl (by decide) (Nat.le_of_ble_eq_true rfl) hM.fx.2.2.2.1 hM ((dST.rf.tr (dST.of o2 (by decide))).L.mpr (vL4 (by decide))) rfl (fun r7 => ?_)
    refine V_icmp_ge (tgt := 68) dX3_fill_10 (by decide) (by omega) (by omega) (fun q10 => ?_) (fun q10 => ?_)
    · refine V_vret dX3_fill_68 rfl ?_
      exact dretV hM hF (by first | (rw [k2e, show k2 = D 90 0 by omega]; done) | exact (dFiN_e k2l k2e (by omega) (D 90 0) (by omega)).symm)
    · have b52 := hI2.a52 p
      have b70 := hI2.a70 (3 + p)
      refine V_aload_n dX3_fill_13 rfl ?_
      refine V_pV (as := []) dX3_fill_14 c_RX3_198 rfl (by decide) rfl (Nat.le_of_ble_eq_true rfl) (hM.kd (f := 3) ((dST.rf.tr (dST.of o2 (by decide))).A.mpr (vAp (by omega)))) (T_X0_missing g hM p hI2 (by omega)) ?_
      refine V_if_le (tgt := 68) dX3_fill_17 (by decide) (by omega) (fun q17 => ?_) (fun q17 => ?_)
      · refine V_vret dX3_fill_68 rfl ?_
        exact dretV hM hF (by first | (rw [k2e, show k2 = D 90 0 by omega]; done) | exact (dFiN_e k2l k2e (by omega) (D 90 0) (by omega)).symm)
      · refine V_aload_n dX3_fill_20 rfl ?_
        refine V_dgr (f := 8) (i := 0) (b := 10) dX3_fill_21 fg_RX3_16 rfl rfl hM.fx.1 hM ((dST.rf.tr (dST.of o2 (by decide))).A.mpr (vAx (by decide))) hM.s.1.2.1 ?_
        refine V_iload_n dX3_fill_24 rfl ?_
        refine V_dG45 dX3_fill_25 c_RX3_132 rfl (by decide) (Nat.le_of_ble_eq_true rfl) hM (by omega) (rfl.trans (hI2.q (by rw [((dST.rf.tr (dST.of o2 (by decide))) : dST D M2).1]; omega))) ?_
        refine V_ckc dX3_fill_28 k_RX3_75 (hM.kd (f := 0) ((dST.rf.tr (dST.of o2 (by decide))).A.mpr (vAq (by decide) (by omega)))) ?_
        refine V_astore_n (lc' := [_, _, _, _]) dX3_fill_31 (by decide) rfl ?_
        refine V_aload_n dX3_fill_32 rfl ?_
        refine V_aload_n dX3_fill_33 rfl ?_
        refine V_aload_n dX3_fill_34 rfl ?_
        refine V_dg (f := 3) (F := 51) (i := p) (t := p) (w := (M2 51 p)) dX3_fill_35 fg_RX3_340 rfl rfl rfl rfl hM ((dST.rf.tr (dST.of o2 (by decide))).F.mpr (vFp (by decide) (by omega))) rfl (fun r35 => ?_)
        have b35 := hI2.a51 p
        have b51 := hI2.a51 p
        refine V_aload_n dX3_fill_38 rfl ?_
        refine V_dgr (f := 3) (i := p) (b := (A 6 (3 + p))) dX3_fill_39 fg_RX3_183 rfl rfl rfl hM ((dST.rf.tr (dST.of o2 (by decide))).A.mpr (vAp (by omega))) (hM.s.2.2.2.1 p (by rw [((dST.rf.tr (dST.of o2 (by decide))) : dST D M2).2.1]; omega)) ?_
        refine V_pV (as := [_, _, _]) dX3_fill_42 c_RX3_347 rfl (by decide) rfl (Nat.le_of_ble_eq_true rfl) hM.kx (T_X3_isCandidate g hM k2 (M2 51 p) (3 + p) (by omega) hI2 ((dST.rf.tr (dST.of o2 (by decide))).L.mpr (vLp (by omega))) (by omega) (by omega)) ?_
        refine V_ifb_eq (tgt := 62) dX3_fill_45 (by decide) (fun q45 => ?_) (fun q45 => ?_)
        · refine V_iinc (lc' := [_, _, _, _]) dX3_fill_62 rfl (by decide) rfl ?_
          refine V_goto (tgt := 2) dX3_fill_65 (by decide) ?_
          refine V_wk (lc' := [_, _, _, xU]) ⟨Or.inr rfl, Or.inr rfl, Or.inr rfl, Or.inl rfl, trivial⟩ ?_
          exact ih2 (by omega) M2 ⟨by omega, by omega, by rw [dFiN_s k2l, ← k2e]; first | (rw [eN53]; exact (if_pos ⟨by omega, q45⟩).symm) | exact (if_neg (fun w => q45 w.2)).symm⟩ h hM hF
        · refine V_aload_n dX3_fill_48 rfl ?_
          refine V_dgr (f := 3) (i := p) (b := (A 6 (3 + p))) dX3_fill_49 fg_RX3_183 rfl rfl rfl hM ((dST.rf.tr (dST.of o2 (by decide))).A.mpr (vAp (by omega))) (hM.s.2.2.2.1 p (by rw [((dST.rf.tr (dST.of o2 (by decide))) : dST D M2).2.1]; omega)) ?_
          refine V_aload_n dX3_fill_52 rfl ?_
          refine V_dAd (l := (3 + p)) (z := k2) dX3_fill_53 c_RX3_86 rfl (by decide) (Nat.le_of_ble_eq_true rfl) rfl (eAq (by omega)) hM hF ((dST.rf.tr (dST.of o2 (by decide))).L.mpr (vLp (by omega))) (by omega) ((dST.rf.tr (dST.of o2 (by decide))).E.mpr ((vEq (by omega)).mpr (by omega))) (fun h hM hF => ?_)
          obtain ⟨N53, eN53⟩ : ∃ X, X = (dAd M2 (3 + p) k2) := ⟨_, rfl⟩
          rw [← eN53] at hM
          have oN53 : OnlyF [70, 71] M2 N53 := by rw [eN53]; exact dAd_o
          refine V_pop dX3_fill_56 rfl ?_
          refine V_aload_n dX3_fill_57 rfl ?_
          refine V_iconst dX3_fill_58 ?_
          refine V_dpz (f := 0) (F := 28) (i := k2) (t := k2) dX3_fill_59 f_RX3_254 rfl rfl rfl rfl hM hF (((dST.rf.tr (dST.of o2 (by decide))).tr (dST.of oN53 (by decide))).F.mpr (vFq (by decide) (by omega))) (by decide) (fun h hM hF => ?_)
          refine V_iinc (lc' := [_, _, _, _]) dX3_fill_62 rfl (by decide) rfl ?_
          refine V_goto (tgt := 2) dX3_fill_65 (by decide) ?_
          refine V_wk (lc' := [_, _, _, xU]) ⟨Or.inr rfl, Or.inr rfl, Or.inr rfl, Or.inl rfl, trivial⟩ ?_
          exact ih2 (by omega) (mset N53 28 k2 1) ⟨by omega, by omega, by rw [dFiN_s k2l, ← k2e]; first | (rw [eN53]; exact (if_pos ⟨by omega, q45⟩).symm) | exact (if_neg (fun w => q45 w.2)).symm⟩ h hM hF
  exact lp2 0 D ⟨by omega, by omega, rfl⟩ h hM hF
theorem T_X3_settlePlans (g : GP) (A : AD) (N U : Nat) (D : MS)   (hI : ID D) : TD g m_X3_settlePlans 10 [xR 8] A N U D none (dSet D) := by
  refine TD.of (by decide) rfl (fun v hv => ?_) (Nat.le_of_ble_eq_true rfl) ?_
  · simp only [List.mem_cons, List.not_mem_nil, or_false] at hv
    subst hv; first | exact Or.inl ⟨_, rfl⟩ | exact Or.inr ⟨_, rfl⟩
  intro h0 h hM hF
  obtain ⟨i90, i91, i92⟩ := hI.n
  obtain ⟨c90, c91, c92⟩ := hI.c
  obtain ⟨⟨z90, -⟩, ⟨z91, -⟩, z92, -⟩ := hM.b.2.2.1
  change V g m_X3_settlePlans 10 _ h 0 [xR 8, xU] []
  refine V_iconst dX3_settlePlans_0 ?_
  refine V_istore_n (lc' := [_, _]) dX3_settlePlans_1 (by decide) rfl ?_
  have lp2 : ∀ k2 : Int, ∀ M2 : MS, (0 ≤ k2 ∧ k2 ≤ D 91 0 ∧ M2 = dS1 D k2.toNat) → ∀ h, DR h A M2 N U → FD h0 h → V g m_X3_settlePlans 10 (Qd h0 A N U none (dSet D)) h 2 [xR 8, xI k2] [] := by
    refine lp_up (D 91 0) (fun k2 ih2 => ?_)
    intro M2 hk h hM hF
    obtain ⟨k2l, k2u, k2e⟩ := hk
    have oI2 := dS1_o hI k2.toNat (by omega)
    rw [← k2e] at oI2
    obtain ⟨o2, hI2⟩ := oI2
    obtain ⟨e90_2, e91_2, e92_2, -⟩ : dST D M2 := (dST.rf.tr (dST.of o2 (by decide)))
    have n2 := hI2.n
    refine V_iload_n dX3_settlePlans_2 rfl ?_
    refine V_aload_n dX3_settlePlans_3 rfl ?_
    refine V_dgr (f := 8) (i := 0) (b := 12) dX3_settlePlans_4 fg_RX3_23 rfl rfl hM.fx.1 hM ((dST.rf.tr (dST.of o2 (by decide))).A.mpr (vAx (by decide))) hM.s.1.2.2.2.1 ?_
    refine V_dSz (l := 46) (w := M2 70 46) dX3_settlePlans_7 c_RX3_69 rfl (by decide) (Nat.le_of_ble_eq_true rfl) hM.fx.2.2.2.2.2.1 hM ((dST.rf.tr (dST.of o2 (by decide))).L.mpr (vL4 (by decide))) rfl (fun r7 => ?_)
    refine V_icmp_ge (tgt := 68) dX3_settlePlans_10 (by decide) (by omega) (by omega) (fun q10 => ?_) (fun q10 => ?_)
    · refine V_iconst dX3_settlePlans_68 ?_
      refine V_istore_n (lc' := [_, _]) dX3_settlePlans_69 (by decide) rfl ?_
      have lp70 : ∀ k70 : Int, ∀ M70 : MS, (0 ≤ k70 ∧ k70 ≤ D 91 0 ∧ M70 = dS2 M2 k70.toNat) → ∀ h, DR h A M70 N U → FD h0 h → V g m_X3_settlePlans 10 (Qd h0 A N U none (dSet D)) h 70 [xR 8, xI k70] [] := by
        refine lp_up (D 91 0) (fun k70 ih70 => ?_)
        intro M70 hk h hM hF
        obtain ⟨k70l, k70u, k70e⟩ := hk
        have oI70 := dS2_o hI2 k70.toNat (by omega)
        rw [← k70e] at oI70
        obtain ⟨o70, hI70⟩ := oI70
        obtain ⟨e90_70, e91_70, e92_70, -⟩ : dST D M70 := ((dST.rf.tr (dST.of o2 (by decide))).tr (dST.of o70 (by decide)))
        have n70 := hI70.n
        refine V_iload_n dX3_settlePlans_70 rfl ?_
        refine V_aload_n dX3_settlePlans_71 rfl ?_
        refine V_dgr (f := 8) (i := 0) (b := 12) dX3_settlePlans_72 fg_RX3_23 rfl rfl hM.fx.1 hM (((dST.rf.tr (dST.of o2 (by decide))).tr (dST.of o70 (by decide))).A.mpr (vAx (by decide))) hM.s.1.2.2.2.1 ?_
        refine V_dSz (l := 46) (w := M70 70 46) dX3_settlePlans_75 c_RX3_69 rfl (by decide) (Nat.le_of_ble_eq_true rfl) hM.fx.2.2.2.2.2.1 hM (((dST.rf.tr (dST.of o2 (by decide))).tr (dST.of o70 (by decide))).L.mpr (vL4 (by decide))) rfl (fun r75 => ?_)
        refine V_icmp_ge (tgt := 120) dX3_settlePlans_78 (by decide) (by omega) (by omega) (fun q78 => ?_) (fun q78 => ?_)
        · refine V_vret dX3_settlePlans_120 rfl ?_
          exact dretV hM hF (by rw [k70e, k2e, show k70 = D 91 0 by omega, show k2 = D 91 0 by omega]; rfl)
        · refine V_aload_n dX3_settlePlans_81 rfl ?_
          refine V_aload_n dX3_settlePlans_82 rfl ?_
          refine V_dgr (f := 8) (i := 0) (b := 12) dX3_settlePlans_83 fg_RX3_23 rfl rfl hM.fx.1 hM (((dST.rf.tr (dST.of o2 (by decide))).tr (dST.of o70 (by decide))).A.mpr (vAx (by decide))) hM.s.1.2.2.2.1 ?_
          refine V_iload_n dX3_settlePlans_86 rfl ?_
          refine V_dG46 dX3_settlePlans_87 c_RX3_132 rfl (by decide) (Nat.le_of_ble_eq_true rfl) hM (by omega) (rfl.trans (hI70.p (by rw [(((dST.rf.tr (dST.of o2 (by decide))).tr (dST.of o70 (by decide))) : dST D M70).2.1]; omega))) ?_
          refine V_ckc dX3_settlePlans_90 k_RX3_168 (hM.kd (f := 3) (((dST.rf.tr (dST.of o2 (by decide))).tr (dST.of o70 (by decide))).A.mpr (vAp (by omega)))) ?_
          refine V_pV (as := [_]) dX3_settlePlans_93 c_RX3_194 rfl (by decide) rfl (Nat.le_of_ble_eq_true rfl) hM.kx (T_X3_isOpen g hM k70 hI70 (by omega)) ?_
          refine V_ifb_eq (tgt := 114) dX3_settlePlans_96 (by decide) (fun q96 => ?_) (fun q96 => ?_)
          · refine V_iinc (lc' := [_, _]) dX3_settlePlans_114 rfl (by decide) rfl ?_
            refine V_goto (tgt := 70) dX3_settlePlans_117 (by decide) ?_
            exact ih70 (by omega) M70 ⟨by omega, by omega, by rw [dS2_s k70l, ← k70e]; unfold dFl; first | (rw [if_pos q96]; exact eN111) | (rw [if_neg q96])⟩ h hM hF
          · refine V_aload_n dX3_settlePlans_99 rfl ?_
            refine V_aload_n dX3_settlePlans_100 rfl ?_
            refine V_dgr (f := 8) (i := 0) (b := 12) dX3_settlePlans_101 fg_RX3_23 rfl rfl hM.fx.1 hM (((dST.rf.tr (dST.of o2 (by decide))).tr (dST.of o70 (by decide))).A.mpr (vAx (by decide))) hM.s.1.2.2.2.1 ?_
            refine V_iload_n dX3_settlePlans_104 rfl ?_
            refine V_dG46 dX3_settlePlans_105 c_RX3_132 rfl (by decide) (Nat.le_of_ble_eq_true rfl) hM (by omega) (rfl.trans (hI70.p (by rw [(((dST.rf.tr (dST.of o2 (by decide))).tr (dST.of o70 (by decide))) : dST D M70).2.1]; omega))) ?_
            refine V_ckc dX3_settlePlans_108 k_RX3_168 (hM.kd (f := 3) (((dST.rf.tr (dST.of o2 (by decide))).tr (dST.of o70 (by decide))).A.mpr (vAp (by omega)))) ?_
            refine V_dC (as := [_]) dX3_settlePlans_111 c_RX3_330 rfl (by decide) rfl (Nat.le_of_ble_eq_true rfl) hM.kx hM hF (T_X3_fill g A N U M70 k70 hI70 (by omega)) (fun h hM hF => ?_)
            obtain ⟨N111, eN111⟩ : ∃ X, X = dFiN k70 M70 (M70 90 0).toNat := ⟨_, rfl⟩
            rw [← eN111] at hM
            obtain ⟨oN111, hIN111⟩ := dFiF_o (D := M70) k70 hI70 (by omega)
            rw [← eN111] at oN111 hIN111
            obtain ⟨e90_111, e91_111, e92_111, -⟩ : dST D N111 := (((dST.rf.tr (dST.of o2 (by decide))).tr (dST.of o70 (by decide))).tr (dST.of oN111 (by decide)))
            have n111 := hIN111.n
            refine V_iinc (lc' := [_, _]) dX3_settlePlans_114 rfl (by decide) rfl ?_
            refine V_goto (tgt := 70) dX3_settlePlans_117 (by decide) ?_
            exact ih70 (by omega) N111 ⟨by omega, by omega, by rw [dS2_s k70l, ← k70e]; unfold dFl; first | (rw [if_pos q96]; exact eN111) | (rw [if_neg q96])⟩ h hM hF
      exact lp70 0 M2 ⟨by omega, by omega, rfl⟩ h hM hF
    · refine V_aload_n dX3_settlePlans_13 rfl ?_
      refine V_aload_n dX3_settlePlans_14 rfl ?_
      refine V_dgr (f := 8) (i := 0) (b := 12) dX3_settlePlans_15 fg_RX3_23 rfl rfl hM.fx.1 hM ((dST.rf.tr (dST.of o2 (by decide))).A.mpr (vAx (by decide))) hM.s.1.2.2.2.1 ?_
      refine V_iload_n dX3_settlePlans_18 rfl ?_
      refine V_dG46 dX3_settlePlans_19 c_RX3_132 rfl (by decide) (Nat.le_of_ble_eq_true rfl) hM (by omega) (rfl.trans (hI2.p (by rw [((dST.rf.tr (dST.of o2 (by decide))) : dST D M2).2.1]; omega))) ?_
      refine V_ckc dX3_settlePlans_22 k_RX3_168 (hM.kd (f := 3) ((dST.rf.tr (dST.of o2 (by decide))).A.mpr (vAp (by omega)))) ?_
      refine V_pV (as := [_]) dX3_settlePlans_25 c_RX3_194 rfl (by decide) rfl (Nat.le_of_ble_eq_true rfl) hM.kx (T_X3_isOpen g hM k2 hI2 (by omega)) ?_
      refine V_ifb_eq (tgt := 48) dX3_settlePlans_28 (by decide) (fun q28 => ?_) (fun q28 => ?_)
      · refine V_aload_n dX3_settlePlans_48 rfl ?_
        refine V_dgr (f := 8) (i := 0) (b := 12) dX3_settlePlans_49 fg_RX3_23 rfl rfl hM.fx.1 hM ((dST.rf.tr (dST.of o2 (by decide))).A.mpr (vAx (by decide))) hM.s.1.2.2.2.1 ?_
        refine V_iload_n dX3_settlePlans_52 rfl ?_
        refine V_dG46 dX3_settlePlans_53 c_RX3_132 rfl (by decide) (Nat.le_of_ble_eq_true rfl) hM (by omega) (rfl.trans (hI2.p (by rw [((dST.rf.tr (dST.of o2 (by decide))) : dST D M2).2.1]; omega))) ?_
        refine V_ckc dX3_settlePlans_56 k_RX3_168 (hM.kd (f := 3) ((dST.rf.tr (dST.of o2 (by decide))).A.mpr (vAp (by omega)))) ?_
        refine V_dS (as := [_]) dX3_settlePlans_59 c_RX3_327 rfl (by decide) rfl (Nat.le_of_ble_eq_true rfl) hM hF (T_X3_letGoAll g A N U M2 k2 hI2 (by omega)) (fun h hM hF => ?_)
        obtain ⟨N59, eN59⟩ : ∃ X, X = dLa M2 k2 := ⟨_, rfl⟩
        rw [← eN59] at hM
        obtain ⟨oN59, hIN59⟩ := dLa_o (D := M2) k2 hI2 (by omega)
        rw [← eN59] at oN59 hIN59
        obtain ⟨e90_59, e91_59, e92_59, -⟩ : dST D N59 := ((dST.rf.tr (dST.of o2 (by decide))).tr (dST.of oN59 (by decide)))
        have n59 := hIN59.n
        refine V_iinc (lc' := [_, _]) dX3_settlePlans_62 rfl (by decide) rfl ?_
        refine V_goto (tgt := 2) dX3_settlePlans_65 (by decide) ?_
        exact ih2 (by omega) N59 ⟨by omega, by omega, by rw [dS1_s k2l, ← k2e]; unfold dLg; first | (rw [if_pos q28]; exact eN42) | (rw [if_neg q28]; exact eN59)⟩ h hM hF
      · refine V_aload_n dX3_settlePlans_31 rfl ?_
        refine V_dgr (f := 8) (i := 0) (b := 12) dX3_settlePlans_32 fg_RX3_23 rfl rfl hM.fx.1 hM ((dST.rf.tr (dST.of o2 (by decide))).A.mpr (vAx (by decide))) hM.s.1.2.2.2.1 ?_
        refine V_iload_n dX3_settlePlans_35 rfl ?_
        refine V_dG46 dX3_settlePlans_36 c_RX3_132 rfl (by decide) (Nat.le_of_ble_eq_true rfl) hM (by omega) (rfl.trans (hI2.p (by rw [((dST.rf.tr (dST.of o2 (by decide))) : dST D M2).2.1]; omega))) ?_
        refine V_ckc dX3_settlePlans_39 k_RX3_168 (hM.kd (f := 3) ((dST.rf.tr (dST.of o2 (by decide))).A.mpr (vAp (by omega)))) ?_
        refine V_dS (as := [_]) dX3_settlePlans_42 c_RX3_324 rfl (by decide) rfl (Nat.le_of_ble_eq_true rfl) hM hF (T_X3_letGoUnfit g A N U M2 k2 hI2 (by omega)) (fun h hM hF => ?_)
        obtain ⟨N42, eN42⟩ : ∃ X, X = dLu k2 (M2 70 (3 + k2)).toNat M2 := ⟨_, rfl⟩
        rw [← eN42] at hM
        obtain ⟨oN42, hIN42⟩ := dLuF_o (D := M2) k2 hI2 (by omega)
        rw [← eN42] at oN42 hIN42
        obtain ⟨e90_42, e91_42, e92_42, -⟩ : dST D N42 := ((dST.rf.tr (dST.of o2 (by decide))).tr (dST.of oN42 (by decide)))
        have n42 := hIN42.n
        refine V_goto (tgt := 62) dX3_settlePlans_45 (by decide) ?_
        refine V_iinc (lc' := [_, _]) dX3_settlePlans_62 rfl (by decide) rfl ?_
        refine V_goto (tgt := 2) dX3_settlePlans_65 (by decide) ?_
        exact ih2 (by omega) N42 ⟨by omega, by omega, by rw [dS1_s k2l, ← k2e]; unfold dLg; first | (rw [if_pos q28]; exact eN42) | (rw [if_neg q28]; exact eN59)⟩ h hM hF
  exact lp2 0 D ⟨by omega, by omega, rfl⟩ h hM hF
theorem T_X3_joinFamilies (g : GP) (A : AD) (N U : Nat) (D : MS) (kp : Int) (ls : Int) (r_kp : -2147483648 ≤ kp ∧ kp ≤ 2147483647) (r_ls : -2147483648 ≤ ls ∧ ls ≤ 2147483647) (hI : ID D) (h1 : 0 ≤ kp ∧ kp ≤ 39) : TD g m_X3_joinFamilies 4 [xR 8, xI kp, xI ls] A N U D none (dJf D kp ls (D 90 0).toNat) := by
  refine TD.of (by decide) rfl (fun v hv => ?_) (Nat.le_of_ble_eq_true rfl) ?_
  · simp only [List.mem_cons, List.not_mem_nil, or_false] at hv
    rcases hv with rfl | rfl | rfl <;> first | exact Or.inl ⟨_, rfl⟩ | exact Or.inr ⟨_, rfl⟩
  intro h0 h hM hF
  obtain ⟨i90, i91, i92⟩ := hI.n
  obtain ⟨c90, c91, c92⟩ := hI.c
  obtain ⟨⟨z90, -⟩, ⟨z91, -⟩, z92, -⟩ := hM.b.2.2.1
  change V g m_X3_joinFamilies 4 _ h 0 [xR 8, xI kp, xI ls, xU] []
  refine V_iconst dX3_joinFamilies_0 ?_
  refine V_istore_n (lc' := [_, _, _, _]) dX3_joinFamilies_1 (by decide) rfl ?_
  have lp2 : ∀ k2 : Int, ∀ M2 : MS, (0 ≤ k2 ∧ k2 ≤ D 90 0 ∧ M2 = dJf D kp ls k2.toNat) → ∀ h, DR h A M2 N U → FD h0 h → V g m_X3_joinFamilies 4 (Qd h0 A N U none (dJf D kp ls (D 90 0).toNat)) h 2 [xR 8, xI kp, xI ls, xI k2] [] := by
    refine lp_up (D 90 0) (fun k2 ih2 => ?_)
    intro M2 hk h hM hF
    obtain ⟨k2l, k2u, k2e⟩ := hk
    have oI2 := dJfN_o (ls := ls) hI h1 k2.toNat
    rw [← k2e] at oI2
    obtain ⟨o2, hI2⟩ := oI2
    obtain ⟨e90_2, e91_2, e92_2, -⟩ : dST D M2 := (dST.rf.tr (dST.of o2 (by decide)))
    have n2 := hI2.n
    refine V_iload_n dX3_joinFamilies_2 rfl ?_
    refine V_aload_n dX3_joinFamilies_3 rfl ?_
    refine V_dgr (f := 8) (i := 0) (b := 10) dX3_joinFamilies_4 fg_RX3_16 rfl rfl hM.fx.1 hM ((dST.rf.tr (dST.of o2 (by decide))).A.mpr (vAx (by decide))) hM.s.1.2.1 ?_
    refine V_dSz (l := 45) (w := D 70 45) dX3_joinFamilies_7 c_RX3_69 rfl (by decide) (Nat.le_of_ble_eq_true rfl) hM.fx.2.2.2.1 hM ((dST.rf.tr (dST.of o2 (by decide))).L.mpr (vL4 (by decide))) ((o2 70 _ (by decide)).trans rfl) (fun r7 => ?_)
    refine V_icmp_ge (tgt := 52) dX3_joinFamilies_10 (by decide) (by omega) (by omega) (fun q10 => ?_) (fun q10 => ?_)
    · refine V_vret dX3_joinFamilies_52 rfl ?_
      exact dretV hM hF (by rw [k2e, show k2 = D 90 0 by omega])
    · refine V_aload_n dX3_joinFamilies_13 rfl ?_
      refine V_dgr (f := 8) (i := 0) (b := 10) dX3_joinFamilies_14 fg_RX3_16 rfl rfl hM.fx.1 hM ((dST.rf.tr (dST.of o2 (by decide))).A.mpr (vAx (by decide))) hM.s.1.2.1 ?_
      refine V_iload_n dX3_joinFamilies_17 rfl ?_
      refine V_dG45 dX3_joinFamilies_18 c_RX3_132 rfl (by decide) (Nat.le_of_ble_eq_true rfl) hM (by rw [show M2 70 45 = D 70 45 from ((o2 70 _ (by decide)).trans rfl)]; omega) (((o2 71 _ (by decide)).trans rfl).trans (hI.q (by omega))) ?_
      refine V_ckc dX3_joinFamilies_21 k_RX3_75 (hM.kd (f := 0) ((dST.rf.tr (dST.of o2 (by decide))).A.mpr (vAq (by decide) (by omega)))) ?_
      refine V_dg (f := 0) (F := 26) (i := k2) (t := k2) (w := M2 26 k2) dX3_joinFamilies_24 fg_RX3_99 rfl rfl rfl rfl hM ((dST.rf.tr (dST.of o2 (by decide))).F.mpr (vFq (by decide) (by omega))) rfl (fun r24 => ?_)
      have b24 := hI2.a26 k2
      refine V_iload_n dX3_joinFamilies_27 rfl ?_
      refine V_icmp_ne (tgt := 46) dX3_joinFamilies_28 (by decide) (by omega) (by omega) (fun q28 => ?_) (fun q28 => ?_)
      · refine V_iinc (lc' := [_, _, _, _]) dX3_joinFamilies_46 rfl (by decide) rfl ?_
        refine V_goto (tgt := 2) dX3_joinFamilies_49 (by decide) ?_
        exact ih2 (by omega) M2 ⟨by omega, by omega, by rw [dJf_s k2l, ← k2e]; first | rw [if_pos q28] | rw [if_neg q28]⟩ h hM hF
      · refine V_aload_n dX3_joinFamilies_31 rfl ?_
        refine V_dgr (f := 8) (i := 0) (b := 10) dX3_joinFamilies_32 fg_RX3_16 rfl rfl hM.fx.1 hM ((dST.rf.tr (dST.of o2 (by decide))).A.mpr (vAx (by decide))) hM.s.1.2.1 ?_
        refine V_iload_n dX3_joinFamilies_35 rfl ?_
        refine V_dG45 dX3_joinFamilies_36 c_RX3_132 rfl (by decide) (Nat.le_of_ble_eq_true rfl) hM (by rw [show M2 70 45 = D 70 45 from ((o2 70 _ (by decide)).trans rfl)]; omega) (((o2 71 _ (by decide)).trans rfl).trans (hI.q (by omega))) ?_
        refine V_ckc dX3_joinFamilies_39 k_RX3_75 (hM.kd (f := 0) ((dST.rf.tr (dST.of o2 (by decide))).A.mpr (vAq (by decide) (by omega)))) ?_
        refine V_iload_n dX3_joinFamilies_42 rfl ?_
        refine V_dp (f := 0) (F := 26) (i := k2) (t := k2) dX3_joinFamilies_43 f_RX3_99 rfl rfl rfl rfl hM hF ((dST.rf.tr (dST.of o2 (by decide))).F.mpr (vFq (by decide) (by omega))) (by omega) (fun h hM hF => ?_)
        refine V_iinc (lc' := [_, _, _, _]) dX3_joinFamilies_46 rfl (by decide) rfl ?_
        refine V_goto (tgt := 2) dX3_joinFamilies_49 (by decide) ?_
        exact ih2 (by omega) (mset M2 26 k2 kp) ⟨by omega, by omega, by rw [dJf_s k2l, ← k2e]; first | rw [if_pos q28] | rw [if_neg q28]⟩ h hM hF
  exact lp2 0 D ⟨by omega, by omega, rfl⟩ h hM hF
theorem T_X3_gatherCandidates (g : GP) (A : AD) (N U : Nat) (D : MS) (kd : Int) (r_kd : -2147483648 ≤ kd ∧ kd ≤ 2147483647) (hI : ID D) : TD g m_X3_gatherCandidates 9 [xR 8, xI kd] A N U D none (dGaN D kd (D 90 0).toNat) := by
  refine TD.of (by decide) rfl (fun v hv => ?_) (Nat.le_of_ble_eq_true rfl) ?_
  · simp only [List.mem_cons, List.not_mem_nil, or_false] at hv
    rcases hv with rfl | rfl <;> first | exact Or.inl ⟨_, rfl⟩ | exact Or.inr ⟨_, rfl⟩
  intro h0 h hM hF
  obtain ⟨i90, i91, i92⟩ := hI.n
  obtain ⟨c90, c91, c92⟩ := hI.c
  obtain ⟨⟨z90, -⟩, ⟨z91, -⟩, z92, -⟩ := hM.b.2.2.1
  change V g m_X3_gatherCandidates 9 _ h 0 [xR 8, xI kd, xU] []
  refine V_aload_n dX3_gatherCandidates_0 rfl ?_
  refine V_dgr (f := 8) (i := 0) (b := (A 6 2)) dX3_gatherCandidates_1 fg_RX3_32 rfl rfl hM.fx.1 hM (vAx (by decide)) (hM.s.1.2.2.2.2.2.2.1.trans hM.fx.2.2.2.2.2.2.2.2.symm) ?_
  refine V_dCl (l := 2) dX3_gatherCandidates_4 c_RX3_129 rfl (by decide) (Nat.le_of_ble_eq_true rfl) rfl hM hF (vL0 (by decide)) (fun h hM hF => ?_)
  refine V_iconst dX3_gatherCandidates_7 ?_
  refine V_istore_n (lc' := [_, _, _]) dX3_gatherCandidates_8 (by decide) rfl ?_
  have lp9 : ∀ k9 : Int, ∀ M9 : MS, (0 ≤ k9 ∧ k9 ≤ D 90 0 ∧ M9 = dGaN D kd k9.toNat) → ∀ h, DR h A M9 N U → FD h0 h → V g m_X3_gatherCandidates 9 (Qd h0 A N U none (dGaN D kd (D 90 0).toNat)) h 9 [xR 8, xI kd, xI k9] [] := by
    refine lp_up (D 90 0) (fun k9 ih9 => ?_)
    intro M9 hk h hM hF
    obtain ⟨k9l, k9u, k9e⟩ := hk
    have oI9 := dGaN_o hI (kd := kd) k9.toNat (by omega)
    rw [← k9e] at oI9
    obtain ⟨o9, hI9, b9, f9⟩ := oI9
    obtain ⟨e90_9, e91_9, e92_9, -⟩ : dST D M9 := (dST.rf.tr (dST.of o9 (by decide)))
    have n9 := hI9.n
    refine V_iload_n dX3_gatherCandidates_9 rfl ?_
    refine V_aload_n dX3_gatherCandidates_10 rfl ?_
    refine V_dgr (f := 8) (i := 0) (b := 10) dX3_gatherCandidates_11 fg_RX3_16 rfl rfl hM.fx.1 hM ((dST.rf.tr (dST.of o9 (by decide))).A.mpr (vAx (by decide))) hM.s.1.2.1 ?_
    refine V_dSz (l := 45) (w := M9 70 45) dX3_gatherCandidates_14 c_RX3_69 rfl (by decide) (Nat.le_of_ble_eq_true rfl) hM.fx.2.2.2.1 hM ((dST.rf.tr (dST.of o9 (by decide))).L.mpr (vL4 (by decide))) rfl (fun r14 => ?_)
    refine V_icmp_ge (tgt := 68) dX3_gatherCandidates_17 (by decide) (by omega) (by omega) (fun q17 => ?_) (fun q17 => ?_)
    · refine V_vret dX3_gatherCandidates_68 rfl ?_
      exact dretV hM hF (by rw [k9e, show k9 = D 90 0 by omega])
    · refine V_aload_n dX3_gatherCandidates_20 rfl ?_
      refine V_aload_n dX3_gatherCandidates_21 rfl ?_
      refine V_dgr (f := 8) (i := 0) (b := 10) dX3_gatherCandidates_22 fg_RX3_16 rfl rfl hM.fx.1 hM ((dST.rf.tr (dST.of o9 (by decide))).A.mpr (vAx (by decide))) hM.s.1.2.1 ?_
      refine V_iload_n dX3_gatherCandidates_25 rfl ?_
      refine V_dG45 dX3_gatherCandidates_26 c_RX3_132 rfl (by decide) (Nat.le_of_ble_eq_true rfl) hM (by omega) (rfl.trans (hI9.q (by rw [((dST.rf.tr (dST.of o9 (by decide))) : dST D M9).1]; omega))) ?_
      refine V_ckc dX3_gatherCandidates_29 k_RX3_75 (hM.kd (f := 0) ((dST.rf.tr (dST.of o9 (by decide))).A.mpr (vAq (by decide) (by omega)))) ?_
      refine V_iload_n dX3_gatherCandidates_32 rfl ?_
      refine V_aload_n dX3_gatherCandidates_33 rfl ?_
      refine V_dgr (f := 8) (i := 0) (b := (A 6 1)) dX3_gatherCandidates_34 fg_RX3_29 rfl rfl hM.fx.1 hM ((dST.rf.tr (dST.of o9 (by decide))).A.mpr (vAx (by decide))) (hM.s.1.2.2.2.2.2.1.trans hM.fx.2.2.2.2.2.2.2.1.symm) ?_
      refine V_pV (as := [_, _, _]) dX3_gatherCandidates_37 c_RX3_347 rfl (by decide) rfl (Nat.le_of_ble_eq_true rfl) hM.kx (T_X3_isCandidate g hM k9 kd 1 (by omega) hI9 ((dST.rf.tr (dST.of o9 (by decide))).L.mpr (vL0 (by decide))) (by decide) (by omega)) ?_
      refine V_ifb_eq (tgt := 62) dX3_gatherCandidates_40 (by decide) (fun q40 => ?_) (fun q40 => ?_)
      · refine V_iinc (lc' := [_, _, _]) dX3_gatherCandidates_62 rfl (by decide) rfl ?_
        refine V_goto (tgt := 9) dX3_gatherCandidates_65 (by decide) ?_
        exact ih9 (by omega) M9 ⟨by omega, by omega, by rw [dGaN_s k9l, ← k9e]; first | (rw [eN58]; exact (if_pos q40).symm) | exact (if_neg q40).symm⟩ h hM hF
      · refine V_aload_n dX3_gatherCandidates_43 rfl ?_
        refine V_dgr (f := 8) (i := 0) (b := (A 6 2)) dX3_gatherCandidates_44 fg_RX3_32 rfl rfl hM.fx.1 hM ((dST.rf.tr (dST.of o9 (by decide))).A.mpr (vAx (by decide))) (hM.s.1.2.2.2.2.2.2.1.trans hM.fx.2.2.2.2.2.2.2.2.symm) ?_
        refine V_aload_n dX3_gatherCandidates_47 rfl ?_
        refine V_dgr (f := 8) (i := 0) (b := 10) dX3_gatherCandidates_48 fg_RX3_16 rfl rfl hM.fx.1 hM ((dST.rf.tr (dST.of o9 (by decide))).A.mpr (vAx (by decide))) hM.s.1.2.1 ?_
        refine V_iload_n dX3_gatherCandidates_51 rfl ?_
        refine V_dG45 dX3_gatherCandidates_52 c_RX3_132 rfl (by decide) (Nat.le_of_ble_eq_true rfl) hM (by omega) (rfl.trans (hI9.q (by rw [((dST.rf.tr (dST.of o9 (by decide))) : dST D M9).1]; omega))) ?_
        refine V_ckc dX3_gatherCandidates_55 k_RX3_75 (hM.kd (f := 0) ((dST.rf.tr (dST.of o9 (by decide))).A.mpr (vAq (by decide) (by omega)))) ?_
        refine V_dAd (l := 2) (z := k9) dX3_gatherCandidates_58 c_RX3_86 rfl (by decide) (Nat.le_of_ble_eq_true rfl) rfl (eAq (by decide)) hM hF ((dST.rf.tr (dST.of o9 (by decide))).L.mpr (vL0 (by decide))) (by omega) ((dST.rf.tr (dST.of o9 (by decide))).E.mpr ((vEq (by decide)).mpr (by omega))) (fun h hM hF => ?_)
        obtain ⟨N58, eN58⟩ : ∃ X, X = (dAd M9 2 k9) := ⟨_, rfl⟩
        rw [← eN58] at hM
        have oN58 : OnlyF [70, 71] M9 N58 := by rw [eN58]; exact dAd_o
        refine V_pop dX3_gatherCandidates_61 rfl ?_
        refine V_iinc (lc' := [_, _, _]) dX3_gatherCandidates_62 rfl (by decide) rfl ?_
        refine V_goto (tgt := 9) dX3_gatherCandidates_65 (by decide) ?_
        exact ih9 (by omega) N58 ⟨by omega, by omega, by rw [dGaN_s k9l, ← k9e]; first | (rw [eN58]; exact (if_pos q40).symm) | exact (if_neg q40).symm⟩ h hM hF
  exact lp9 0 (mset D 70 2 0) ⟨by omega, by omega, rfl⟩ h hM hF
theorem T_X1_takeAnswer (g : GP) (A : AD) (N U : Nat) (D : MS) (q : Int) (z : Int) (r_z : -2147483648 ≤ z ∧ z ≤ 2147483647) (hI : ID D) (h1 : 0 ≤ q ∧ q < D 90 0) (h2 : z = 0 ∨ z = 1) : TD g m_X1_takeAnswer 3 [xR (A 0 q), xI z] A N U D none (dTk D q z) := by
  refine TD.of (by decide) rfl (fun v hv => ?_) (Nat.le_of_ble_eq_true rfl) ?_
  · simp only [List.mem_cons, List.not_mem_nil, or_false] at hv
    rcases hv with rfl | rfl <;> first | exact Or.inl ⟨_, rfl⟩ | exact Or.inr ⟨_, rfl⟩
  intro h0 h hM hF
  obtain ⟨i90, i91, i92⟩ := hI.n
  obtain ⟨c90, c91, c92⟩ := hI.c
  obtain ⟨⟨z90, -⟩, ⟨z91, -⟩, z92, -⟩ := hM.b.2.2.1
  change V g m_X1_takeAnswer 3 _ h 0 [xR (A 0 q), xI z] []
  refine V_aload_n dX1_takeAnswer_0 rfl ?_
  refine V_dg (f := 0) (F := 25) (i := q) (t := q) (w := D 25 q) dX1_takeAnswer_1 fg_RX1_35 rfl rfl rfl rfl hM (vFq (by decide) (by omega)) rfl (fun r1 => ?_)
  have b1 := hI.a25 q
  refine V_aload_n dX1_takeAnswer_4 rfl ?_
  refine V_dgr (f := 0) (i := q) (b := (A 2 q)) dX1_takeAnswer_5 fg_RX1_9 rfl rfl rfl hM (vAq (by decide) (by omega)) (hM.s.2.2.1 q (by omega)).2.1 ?_
  refine V_alen (t := 3) dX1_takeAnswer_8 (hM.kd (f := 2) (vAq (by decide) (by omega))) (by omega) ?_
  rw [show ((h_l h (A 2 q) : Nat) : Int) = 30 by rw [(hM.s.2.2.1 q (by omega)).2.2.2.2]; rfl]
  refine V_icmp_ge (tgt := 44) dX1_takeAnswer_9 (by decide) (by omega) (by omega) (fun q9 => ?_) (fun q9 => ?_)
  · refine V_vret dX1_takeAnswer_44 rfl ?_
    exact dretV hM hF (by unfold dTk; rw [if_neg (by omega)])
  · refine V_aload_n dX1_takeAnswer_12 rfl ?_
    refine V_dgr (f := 0) (i := q) (b := (A 2 q)) dX1_takeAnswer_13 fg_RX1_9 rfl rfl rfl hM (vAq (by decide) (by omega)) (hM.s.2.2.1 q (by omega)).2.1 ?_
    refine V_aload_n dX1_takeAnswer_16 rfl ?_
    refine V_dg (f := 0) (F := 25) (i := q) (t := q) (w := D 25 q) dX1_takeAnswer_17 fg_RX1_35 rfl rfl rfl rfl hM (vFq (by decide) (by omega)) rfl (fun r17 => ?_)
    have b17 := hI.a25 q
    refine V_iload_n dX1_takeAnswer_20 rfl ?_
    refine V_dazs (f := 2) (F := 42) (i := q) (t := (30 * q + (D 25 q))) (n := 30) dX1_takeAnswer_21 rfl (lf_r (by omega)) rfl hM hF (vF_r (by omega) (by omega)) (by rw [(hM.s.2.2.1 q (by omega)).2.2.2.2]; rfl) (by omega) (by omega) (by omega) (fun h hM hF => ?_)
    refine V_aload_n dX1_takeAnswer_22 rfl ?_
    refine V_dup dX1_takeAnswer_23 cat_R ?_
    refine V_dg (f := 0) (F := 25) (i := q) (t := q) (w := D 25 q) dX1_takeAnswer_24 fg_RX1_35 rfl rfl rfl rfl hM ((dST.rf.st (by decide)).F.mpr (vFq (by decide) (by omega))) (by simp [sT, mset]) (fun r24 => ?_)
    have b24 := hI.a25 q
    refine V_iconst dX1_takeAnswer_27 ?_
    refine V_iadd dX1_takeAnswer_28 ?_
    refine V_dp (f := 0) (F := 25) (i := q) (t := q) dX1_takeAnswer_29 f_RX1_35 rfl rfl rfl rfl hM hF ((dST.rf.st (by decide)).F.mpr (vFq (by decide) (by omega))) (by omega) (fun h hM hF => ?_)
    refine V_aload_n dX1_takeAnswer_32 rfl ?_
    refine V_aload_n dX1_takeAnswer_33 rfl ?_
    refine V_dg (f := 0) (F := 23) (i := q) (t := q) (w := D 23 q) dX1_takeAnswer_34 fg_RX1_29 rfl rfl rfl rfl hM (((dST.rf.st (by decide)).st (by decide)).F.mpr (vFq (by decide) (by omega))) (by simp [sT, mset]) (fun r34 => ?_)
    have b34 := hI.a23 q
    refine V_iload_n dX1_takeAnswer_37 rfl ?_
    refine V_pS (as := [_, _]) dX1_takeAnswer_38 c_RX1_38 rfl (by decide) rfl (Nat.le_of_ble_eq_true rfl) (T_X1_shifted g hM (D 23 q) z (by omega) (by omega) (by omega)) ?_
    have t38 := @sLv_r (D 23 q) (z ≠ 0) (by omega)
    refine V_dp (f := 0) (F := 23) (i := q) (t := q) dX1_takeAnswer_41 f_RX1_29 rfl rfl rfl rfl hM hF (((dST.rf.st (by decide)).st (by decide)).F.mpr (vFq (by decide) (by omega))) (by omega) (fun h hM hF => ?_)
    refine V_vret dX1_takeAnswer_44 rfl ?_
    exact dretV hM hF (by unfold dTk; rw [if_pos (by omega)])
theorem T_X2_markAnswered (g : GP) (A : AD) (N U : Nat) (D : MS) (s : Int) (i : Int) (r_i : -2147483648 ≤ i ∧ i ≤ 2147483647) (hI : ID D) (h1 : 0 ≤ s ∧ s < D 92 0) : TD g m_X2_markAnswered 1 [xR (A 4 s), xI i] A N U D (some (xI (pI (dMkP D s i)))) (dMk D s i) := by
  refine TD.of (by decide) rfl (fun v hv => ?_) (Nat.le_of_ble_eq_true rfl) ?_
  · simp only [List.mem_cons, List.not_mem_nil, or_false] at hv
    rcases hv with rfl | rfl <;> first | exact Or.inl ⟨_, rfl⟩ | exact Or.inr ⟨_, rfl⟩
  intro h0 h hM hF
  obtain ⟨i90, i91, i92⟩ := hI.n
  obtain ⟨c90, c91, c92⟩ := hI.c
  obtain ⟨⟨z90, -⟩, ⟨z91, -⟩, z92, -⟩ := hM.b.2.2.1
  change V g m_X2_markAnswered 1 _ h 0 [xR (A 4 s), xI i] []
  refine V_iload_n dX2_markAnswered_0 rfl ?_
  refine V_if_lt (tgt := 22) dX2_markAnswered_1 (by decide) (by omega) (fun q1 => ?_) (fun q1 => ?_)
  · refine V_iconst dX2_markAnswered_22 ?_
    refine V_zret (by first | exact pI_01 _ | omega) dX2_markAnswered_23 rfl ?_
    have e9 : ¬ dMkP D s i := fun w => by have := w.1; have := w.2; omega
    exact dret hM hF (pI_f e9).symm (if_neg e9).symm
  · refine V_iload_n dX2_markAnswered_4 rfl ?_
    refine V_aload_n dX2_markAnswered_5 rfl ?_
    refine V_dgr (f := 4) (i := s) (b := (A 5 s)) dX2_markAnswered_6 fg_RX2_36 rfl rfl rfl hM (vAs (by decide) (by omega)) (hM.s.2.2.2.2 s (by omega)).2.1 ?_
    refine V_alen (t := 3) dX2_markAnswered_9 (hM.kd (f := 5) (vAs (by decide) (by omega))) (by omega) ?_
    rw [(hM.s.2.2.2.2 s (by omega)).2.2.1]
    have b9 := hI.a62 s
    refine V_icmp_ge (tgt := 22) dX2_markAnswered_10 (by decide) (by omega) (by omega) (fun q10 => ?_) (fun q10 => ?_)
    · refine V_iconst dX2_markAnswered_22 ?_
      refine V_zret (by first | exact pI_01 _ | omega) dX2_markAnswered_23 rfl ?_
      have e9 : ¬ dMkP D s i := fun w => by have := w.1; have := w.2; omega
      exact dret hM hF (pI_f e9).symm (if_neg e9).symm
    · refine V_aload_n dX2_markAnswered_13 rfl ?_
      refine V_dgr (f := 4) (i := s) (b := (A 5 s)) dX2_markAnswered_14 fg_RX2_36 rfl rfl rfl hM (vAs (by decide) (by omega)) (hM.s.2.2.2.2 s (by omega)).2.1 ?_
      refine V_iload_n dX2_markAnswered_17 rfl ?_
      refine V_daz (f := 5) (F := 61) (i := s) (t := (27 * s + i)) (n := (D 62 s)) (w := D 61 (27 * s + i)) dX2_markAnswered_18 rfl (lf_m (by omega)) rfl hM (vF_m (by omega) (by omega) (by omega)) ((hM.s.2.2.2.2 s (by omega)).2.2.1) (by omega) (by omega) rfl (fun r18 => ?_)
      have b18 := hI.a61 (27 * s + i)
      refine V_if_eq (tgt := 24) dX2_markAnswered_19 (by decide) (by omega) (fun q19 => ?_) (fun q19 => ?_)
      · refine V_aload_n dX2_markAnswered_24 rfl ?_
        refine V_dgr (f := 4) (i := s) (b := (A 5 s)) dX2_markAnswered_25 fg_RX2_36 rfl rfl rfl hM (vAs (by decide) (by omega)) (hM.s.2.2.2.2 s (by omega)).2.1 ?_
        refine V_iload_n dX2_markAnswered_28 rfl ?_
        refine V_iconst dX2_markAnswered_29 ?_
        refine V_dazs (f := 5) (F := 61) (i := s) (t := (27 * s + i)) (n := (D 62 s)) dX2_markAnswered_30 rfl (lf_m (by omega)) rfl hM hF (vF_m (by omega) (by omega) (by omega)) ((hM.s.2.2.2.2 s (by omega)).2.2.1) (by omega) (by omega) (by omega) (fun h hM hF => ?_)
        refine V_iconst dX2_markAnswered_31 ?_
        refine V_zret (by first | exact pI_01 _ | omega) dX2_markAnswered_32 rfl ?_
        have e9 : dMkP D s i := ⟨⟨by omega, by omega⟩, by omega⟩
        exact dret hM hF (pI_t e9).symm (if_pos e9).symm
      · refine V_iconst dX2_markAnswered_22 ?_
        refine V_zret (by first | exact pI_01 _ | omega) dX2_markAnswered_23 rfl ?_
        have e9 : ¬ dMkP D s i := fun w => by have := w.1; have := w.2; omega
        exact dret hM hF (pI_f e9).symm (if_neg e9).symm
theorem T_X3_countHolder (g : GP) (A : AD) (N U : Nat) (D : MS) (l : Int)  (hI : ID D) (hv : vL D l) (hn : l ≠ 46 ∧ l ≠ 47) (c : Int) (hc : ∀ k, 0 ≤ D 29 k ∧ D 29 k ≤ c) (h2 : c ≤ 1000000) : TD g m_X3_countHolder 4 [xR (A 6 l)] A N U D none (dCh D l (D 70 l).toNat) := by
  refine TD.of (by decide) rfl (fun v hv => ?_) (Nat.le_of_ble_eq_true rfl) ?_
  · simp only [List.mem_cons, List.not_mem_nil, or_false] at hv
    subst hv; first | exact Or.inl ⟨_, rfl⟩ | exact Or.inr ⟨_, rfl⟩
  intro h0 h hM hF
  obtain ⟨i90, i91, i92⟩ := hI.n
  obtain ⟨c90, c91, c92⟩ := hI.c
  obtain ⟨⟨z90, -⟩, ⟨z91, -⟩, z92, -⟩ := hM.b.2.2.1
  change V g m_X3_countHolder 4 _ h 0 [xR (A 6 l), xU] []
  have b70 := hI.a70 l
  refine V_iconst dX3_countHolder_0 ?_
  refine V_istore_n (lc' := [_, _]) dX3_countHolder_1 (by decide) rfl ?_
  have lp2 : ∀ k2 : Int, ∀ M2 : MS, (0 ≤ k2 ∧ k2 ≤ D 70 l ∧ M2 = dCh D l k2.toNat) → ∀ h, DR h A M2 N U → FD h0 h → V g m_X3_countHolder 4 (Qd h0 A N U none (dCh D l (D 70 l).toNat)) h 2 [xR (A 6 l), xI k2] [] := by
    refine lp_up (D 70 l) (fun k2 ih2 => ?_)
    intro M2 hk h hM hF
    obtain ⟨k2l, k2u, k2e⟩ := hk
    have oI2 := dChN_o (l := l) hI hc k2.toNat
    rw [← k2e] at oI2
    obtain ⟨o2, hI2, b2⟩ := oI2
    obtain ⟨e90_2, e91_2, e92_2, -⟩ : dST D M2 := (dST.rf.tr (dST.of o2 (by decide)))
    have n2 := hI2.n
    refine V_iload_n dX3_countHolder_2 rfl ?_
    refine V_aload_n dX3_countHolder_3 rfl ?_
    refine V_dSz (l := l) (w := D 70 l) dX3_countHolder_4 c_RX3_69 rfl (by decide) (Nat.le_of_ble_eq_true rfl) rfl hM ((dST.rf.tr (dST.of o2 (by decide))).L.mpr hv) ((o2 70 _ (by decide)).trans rfl) (fun r4 => ?_)
    refine V_icmp_ge (tgt := 33) dX3_countHolder_7 (by decide) (by omega) (by omega) (fun q7 => ?_) (fun q7 => ?_)
    · refine V_vret dX3_countHolder_33 rfl ?_
      exact dretV hM hF (by rw [k2e, show k2 = D 70 l by omega])
    · refine V_aload_n dX3_countHolder_10 rfl ?_
      refine V_iload_n dX3_countHolder_11 rfl ?_
      refine V_dGq (l := l) dX3_countHolder_12 c_RX3_132 rfl (by decide) (Nat.le_of_ble_eq_true rfl) rfl hM ((dST.rf.tr (dST.of o2 (by decide))).L.mpr hv) (by rw [show M2 70 l = D 70 l from ((o2 70 _ (by decide)).trans rfl)]; omega) hn (fun g12 => ?_)
      rw [((dST.rf.tr (dST.of o2 (by decide))) : dST D M2).1] at g12
      rw [show M2 71 (40 * l + k2) = D 71 (40 * l + k2) from ((o2 71 _ (by decide)).trans rfl)] at g12 ⊢
      refine V_ckc dX3_countHolder_15 k_RX3_75 (hM.kd (f := 0) ((dST.rf.tr (dST.of o2 (by decide))).A.mpr (vAq (by decide) (by omega)))) ?_
      refine V_dup dX3_countHolder_18 cat_R ?_
      refine V_dg (f := 0) (F := 29) (i := D 71 (40 * l + k2)) (t := D 71 (40 * l + k2)) (w := M2 29 (D 71 (40 * l + k2))) dX3_countHolder_19 fg_RX3_372 rfl rfl rfl rfl hM ((dST.rf.tr (dST.of o2 (by decide))).F.mpr (vFq (by decide) (by omega))) rfl (fun r19 => ?_)
      have b19 := b2 (D 71 (40 * l + k2))
      refine V_iconst dX3_countHolder_22 ?_
      refine V_iadd dX3_countHolder_23 ?_
      refine V_dp (f := 0) (F := 29) (i := D 71 (40 * l + k2)) (t := D 71 (40 * l + k2)) dX3_countHolder_24 f_RX3_372 rfl rfl rfl rfl hM hF ((dST.rf.tr (dST.of o2 (by decide))).F.mpr (vFq (by decide) (by omega))) (by omega) (fun h hM hF => ?_)
      refine V_iinc (lc' := [_, _]) dX3_countHolder_27 rfl (by decide) rfl ?_
      refine V_goto (tgt := 2) dX3_countHolder_30 (by decide) ?_
      exact ih2 (by omega) (mset M2 29 (D 71 (40 * l + k2)) ((M2 29 (D 71 (40 * l + k2))) + 1)) ⟨by omega, by omega, by rw [dCh_s k2l, ← k2e]⟩ h hM hF
  exact lp2 0 D ⟨by omega, by omega, rfl⟩ h hM hF

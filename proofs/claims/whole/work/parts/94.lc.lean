theorem LC_29 (g : GP) {h : AH} {i c : Int} (hT : ∀ h', LW h' (c + 1) → V g m_L_law 15 Q1 h' 2119 [xR 5, xR 8, xR 18, xR 39, xR 40, xI i, xU, xU, xU] []) (W : LW h c) (hi : 0 ≤ i ∧ i + 5 ≤ g_l g) (hg : g_l g ≤ 2560) (hc : 0 ≤ c ∧ c ≤ 511) : V g m_L_law 15 Q1 h 1784 [xR 5, xR 8, xR 18, xR 39, xR 40, xI i, xU, xU, xU] [] := by
  obtain ⟨D, M, A, N, U, hD, hR, hM, ho, ⟨h8, h9⟩, hN, hU⟩ := W
  have hI := hD.1.2.1
  have hIM := hD.2.1
  have hN' : N + 200 ≤ z_CC := by unfold z_CC; omega
  have hU' : U + 5000 ≤ z_CS := by unfold z_CS; omega
  obtain ⟨w1, ew1, r1⟩ : ∃ w : Int, w = (g_x g (i + 1).toNat).toInt ∧ -2147483648 ≤ w ∧ w ≤ 2147483647 := ⟨_, rfl, sc_r _⟩
  obtain ⟨w2, ew2, r2⟩ : ∃ w : Int, w = (g_x g (i + 2).toNat).toInt ∧ -2147483648 ≤ w ∧ w ≤ 2147483647 := ⟨_, rfl, sc_r _⟩
  obtain ⟨w3, ew3, r3⟩ : ∃ w : Int, w = (g_x g (i + 3).toNat).toInt ∧ -2147483648 ≤ w ∧ w ≤ 2147483647 := ⟨_, rfl, sc_r _⟩
  rcases Classical.em (w3 = 0) with q0 | q0
  · have eb := (pI_f (fun w => w) : pI False = 0)
    have a : AG [eIO, eUO, eNS] (d_answer D w1 w2 0) (s_answer M w1 w2 False) := by
      have := g_answer hD w1 w2 False (by omega) (by omega)
      rw [eb] at this
      exact this
    have tM : TM g m_X4_answer 6 [xI w1, xI w2, xI 0] M (some (xI ((s_answer M w1 w2 False).1))) ((s_answer M w1 w2 False).2) := by
      have g1 := hD.g1
      have := T_X4_answer g M w1 w2 False r1 r2 hIM (by omega) (by omega)
      rw [eb] at this
      exact this
    refine V_aload_n dL_law_1784 rfl ?_
    refine V_aload_n dL_law_1785 rfl ?_
    refine V_iload dL_law_1786 rfl ?_
    refine V_iconst dL_law_1788 ?_
    refine V_iadd dL_law_1789 ?_
    refine V_sld (j := (i + 1).toNat) dL_law_1790 (by omega) (by omega) (by omega) ?_
    rw [← ew1]
    refine V_aload_n dL_law_1791 rfl ?_
    refine V_iload dL_law_1792 rfl ?_
    refine V_iconst dL_law_1794 ?_
    refine V_iadd dL_law_1795 ?_
    refine V_sld (j := (i + 2).toNat) dL_law_1796 (by omega) (by omega) (by omega) ?_
    rw [← ew2]
    refine V_aload_n dL_law_1797 rfl ?_
    refine V_iload dL_law_1798 rfl ?_
    refine V_iconst dL_law_1800 ?_
    refine V_iadd dL_law_1801 ?_
    refine V_sld (j := (i + 3).toNat) dL_law_1802 (by omega) (by omega) (by omega) ?_
    rw [← ew3]
    refine V_if_eq (tgt := 1810) dL_law_1803 (by decide) r3 (fun _ => ?_) (fun w => absurd q0 w)
    refine V_iconst dL_law_1810 ?_
    refine V_aload_n dL_law_1811 rfl ?_
    refine V_cH (as := [_, _, _, _, _]) dL_law_1812 c_RL_226 rfl (by decide) rfl (Nat.le_of_ble_eq_true rfl) (T_L_answer g w1 w2 0 ho hR.kx a.hx (T_X3_answer g N U D w1 w2 0 r1 r2 (by decide) hI (Or.inl rfl) (by omega) (by omega) hN' hU' A h hR)) (fun E h1 q => ?_) (fun v h1 q => ?_)
    · obtain ⟨-, -, z, hz, -⟩ := q
      cases hz
    obtain ⟨q1, q2, z, hz, q3⟩ := q
    cases hz
    obtain ⟨e1, e2, e3⟩ := cmpL (by decide) (nd3 (by decide) (by decide) (by decide)) a q3
    subst e1
    have ho1 := q2.ow ho
    have hM1 := q2.mr hM
    obtain ⟨A1, hR1⟩ := q1
    refine V_istore (lc' := [_, _, _, _, _, _, _, _, _]) dL_law_1815 (by decide) rfl ?_
    refine V_aload_n dL_law_1817 rfl ?_
    refine V_aload_n dL_law_1818 rfl ?_
    refine V_iload dL_law_1819 rfl ?_
    refine V_iconst dL_law_1821 ?_
    refine V_iadd dL_law_1822 ?_
    refine V_sld (j := (i + 1).toNat) dL_law_1823 (by omega) (by omega) (by omega) ?_
    rw [← ew1]
    refine V_aload_n dL_law_1824 rfl ?_
    refine V_iload dL_law_1825 rfl ?_
    refine V_iconst dL_law_1827 ?_
    refine V_iadd dL_law_1828 ?_
    refine V_sld (j := (i + 2).toNat) dL_law_1829 (by omega) (by omega) (by omega) ?_
    rw [← ew2]
    refine V_aload_n dL_law_1830 rfl ?_
    refine V_iload dL_law_1831 rfl ?_
    refine V_iconst dL_law_1833 ?_
    refine V_iadd dL_law_1834 ?_
    refine V_sld (j := (i + 3).toNat) dL_law_1835 (by omega) (by omega) (by omega) ?_
    rw [← ew3]
    refine V_if_eq (tgt := 1843) dL_law_1836 (by decide) r3 (fun _ => ?_) (fun w => absurd q0 w)
    refine V_iconst dL_law_1843 ?_
    refine V_mC (h0 := h1) (as := [_, _, _]) dL_law_1844 c_RL_229 rfl (by decide) rfl (Nat.le_of_ble_eq_true rfl) hM1 FR.rf tM (fun h hM hF => ?_)
    refine V_istore (lc' := [_, _, _, _, _, _, _, _, _]) dL_law_1847 (by decide) rfl ?_
    refine V_aload_n dL_law_1849 rfl ?_
    refine V_mC (as := []) dL_law_1850 c_RL_130 rfl (by decide) rfl (Nat.le_of_ble_eq_true rfl) hM hF (T_X4_thrown g (s_answer M w1 w2 False).2) (fun h hM hF => ?_)
    refine V_iload dL_law_1853 rfl ?_
    refine V_icmp_eqS (tgt := 1860) dL_law_1855 (by decide) ?_
    refine V_iload dL_law_1860 rfl ?_
    refine V_if_ne (tgt := 1877) dL_law_1862 (by decide) (by omega) (fun q => ?_) (fun q => ?_)
    · refine V_goto (tgt := 2119) dL_law_1877 (by decide) ?_
      refine V_wk (lc' := [_, _, _, _, _, _, xU, xU, xU]) ⟨Or.inr rfl, Or.inr rfl, Or.inr rfl, Or.inr rfl, Or.inr rfl, Or.inr rfl, Or.inl rfl, Or.inl rfl, Or.inl rfl, trivial⟩ ?_
      have kk := k_answer (M := M) w1 w2 False
      have g1 := hD.g1
      have g2 := (a.1 : DM _ _).g1
      exact hT h ⟨_, _, A1, N + 4, U + 200, a.1, hF.dr hR1, hM, hF.ow ho1, ⟨by have := kk.1; have := g1.2.2.2.1; have := g2.2.2.2.1; (try dsimp only at *); omega, by have := kk.2; have := g1.2.2.2.2; have := g2.2.2.2.2; (try dsimp only at *); omega⟩, by omega, by omega⟩
    · refine V_aload_n dL_law_1865 rfl ?_
      refine V_iconst dL_law_1866 ?_
      refine V_lald (j := 0) dL_law_1867 (hF.ow ho1).1 rfl (by rw [(hF.ow ho1).2.1]; decide) (by rw [(hF.ow ho1).2.1]; decide) ?_
      rw [show h_i h 39 0 = _ from ((hF.1 39 (Or.inr (by decide))).2.2.1 0).trans (e3 q), Int64.ofInt_toInt]
      refine V_iload dL_law_1868 rfl ?_
      refine V_i2lw dL_law_1870 ?_
      refine V_lcmp (z := 0) dL_law_1871 lcmp_eq ?_
      refine V_if_eq (tgt := 1877) dL_law_1872 (by decide) (by decide) (fun _ => ?_) (fun w => absurd rfl w)
      refine V_goto (tgt := 2119) dL_law_1877 (by decide) ?_
      refine V_wk (lc' := [_, _, _, _, _, _, xU, xU, xU]) ⟨Or.inr rfl, Or.inr rfl, Or.inr rfl, Or.inr rfl, Or.inr rfl, Or.inr rfl, Or.inl rfl, Or.inl rfl, Or.inl rfl, trivial⟩ ?_
      have kk := k_answer (M := M) w1 w2 False
      have g1 := hD.g1
      have g2 := (a.1 : DM _ _).g1
      exact hT h ⟨_, _, A1, N + 4, U + 200, a.1, hF.dr hR1, hM, hF.ow ho1, ⟨by have := kk.1; have := g1.2.2.2.1; have := g2.2.2.2.1; (try dsimp only at *); omega, by have := kk.2; have := g1.2.2.2.2; have := g2.2.2.2.2; (try dsimp only at *); omega⟩, by omega, by omega⟩
  · have eb := (pI_t trivial : pI True = 1)
    have a : AG [eIO, eUO, eNS] (d_answer D w1 w2 1) (s_answer M w1 w2 True) := by
      have := g_answer hD w1 w2 True (by omega) (by omega)
      rw [eb] at this
      exact this
    have tM : TM g m_X4_answer 6 [xI w1, xI w2, xI 1] M (some (xI ((s_answer M w1 w2 True).1))) ((s_answer M w1 w2 True).2) := by
      have g1 := hD.g1
      have := T_X4_answer g M w1 w2 True r1 r2 hIM (by omega) (by omega)
      rw [eb] at this
      exact this
    refine V_aload_n dL_law_1784 rfl ?_
    refine V_aload_n dL_law_1785 rfl ?_
    refine V_iload dL_law_1786 rfl ?_
    refine V_iconst dL_law_1788 ?_
    refine V_iadd dL_law_1789 ?_
    refine V_sld (j := (i + 1).toNat) dL_law_1790 (by omega) (by omega) (by omega) ?_
    rw [← ew1]
    refine V_aload_n dL_law_1791 rfl ?_
    refine V_iload dL_law_1792 rfl ?_
    refine V_iconst dL_law_1794 ?_
    refine V_iadd dL_law_1795 ?_
    refine V_sld (j := (i + 2).toNat) dL_law_1796 (by omega) (by omega) (by omega) ?_
    rw [← ew2]
    refine V_aload_n dL_law_1797 rfl ?_
    refine V_iload dL_law_1798 rfl ?_
    refine V_iconst dL_law_1800 ?_
    refine V_iadd dL_law_1801 ?_
    refine V_sld (j := (i + 3).toNat) dL_law_1802 (by omega) (by omega) (by omega) ?_
    rw [← ew3]
    refine V_if_eq (tgt := 1810) dL_law_1803 (by decide) r3 (fun w => absurd w q0) (fun _ => ?_)
    refine V_iconst dL_law_1806 ?_
    refine V_goto (tgt := 1811) dL_law_1807 (by decide) ?_
    refine V_aload_n dL_law_1811 rfl ?_
    refine V_cH (as := [_, _, _, _, _]) dL_law_1812 c_RL_226 rfl (by decide) rfl (Nat.le_of_ble_eq_true rfl) (T_L_answer g w1 w2 1 ho hR.kx a.hx (T_X3_answer g N U D w1 w2 1 r1 r2 (by decide) hI (Or.inr rfl) (by omega) (by omega) hN' hU' A h hR)) (fun E h1 q => ?_) (fun v h1 q => ?_)
    · obtain ⟨-, -, z, hz, -⟩ := q
      cases hz
    obtain ⟨q1, q2, z, hz, q3⟩ := q
    cases hz
    obtain ⟨e1, e2, e3⟩ := cmpL (by decide) (nd3 (by decide) (by decide) (by decide)) a q3
    subst e1
    have ho1 := q2.ow ho
    have hM1 := q2.mr hM
    obtain ⟨A1, hR1⟩ := q1
    refine V_istore (lc' := [_, _, _, _, _, _, _, _, _]) dL_law_1815 (by decide) rfl ?_
    refine V_aload_n dL_law_1817 rfl ?_
    refine V_aload_n dL_law_1818 rfl ?_
    refine V_iload dL_law_1819 rfl ?_
    refine V_iconst dL_law_1821 ?_
    refine V_iadd dL_law_1822 ?_
    refine V_sld (j := (i + 1).toNat) dL_law_1823 (by omega) (by omega) (by omega) ?_
    rw [← ew1]
    refine V_aload_n dL_law_1824 rfl ?_
    refine V_iload dL_law_1825 rfl ?_
    refine V_iconst dL_law_1827 ?_
    refine V_iadd dL_law_1828 ?_
    refine V_sld (j := (i + 2).toNat) dL_law_1829 (by omega) (by omega) (by omega) ?_
    rw [← ew2]
    refine V_aload_n dL_law_1830 rfl ?_
    refine V_iload dL_law_1831 rfl ?_
    refine V_iconst dL_law_1833 ?_
    refine V_iadd dL_law_1834 ?_
    refine V_sld (j := (i + 3).toNat) dL_law_1835 (by omega) (by omega) (by omega) ?_
    rw [← ew3]
    refine V_if_eq (tgt := 1843) dL_law_1836 (by decide) r3 (fun w => absurd w q0) (fun _ => ?_)
    refine V_iconst dL_law_1839 ?_
    refine V_goto (tgt := 1844) dL_law_1840 (by decide) ?_
    refine V_mC (h0 := h1) (as := [_, _, _]) dL_law_1844 c_RL_229 rfl (by decide) rfl (Nat.le_of_ble_eq_true rfl) hM1 FR.rf tM (fun h hM hF => ?_)
    refine V_istore (lc' := [_, _, _, _, _, _, _, _, _]) dL_law_1847 (by decide) rfl ?_
    refine V_aload_n dL_law_1849 rfl ?_
    refine V_mC (as := []) dL_law_1850 c_RL_130 rfl (by decide) rfl (Nat.le_of_ble_eq_true rfl) hM hF (T_X4_thrown g (s_answer M w1 w2 True).2) (fun h hM hF => ?_)
    refine V_iload dL_law_1853 rfl ?_
    refine V_icmp_eqS (tgt := 1860) dL_law_1855 (by decide) ?_
    refine V_iload dL_law_1860 rfl ?_
    refine V_if_ne (tgt := 1877) dL_law_1862 (by decide) (by omega) (fun q => ?_) (fun q => ?_)
    · refine V_goto (tgt := 2119) dL_law_1877 (by decide) ?_
      refine V_wk (lc' := [_, _, _, _, _, _, xU, xU, xU]) ⟨Or.inr rfl, Or.inr rfl, Or.inr rfl, Or.inr rfl, Or.inr rfl, Or.inr rfl, Or.inl rfl, Or.inl rfl, Or.inl rfl, trivial⟩ ?_
      have kk := k_answer (M := M) w1 w2 True
      have g1 := hD.g1
      have g2 := (a.1 : DM _ _).g1
      exact hT h ⟨_, _, A1, N + 4, U + 200, a.1, hF.dr hR1, hM, hF.ow ho1, ⟨by have := kk.1; have := g1.2.2.2.1; have := g2.2.2.2.1; (try dsimp only at *); omega, by have := kk.2; have := g1.2.2.2.2; have := g2.2.2.2.2; (try dsimp only at *); omega⟩, by omega, by omega⟩
    · refine V_aload_n dL_law_1865 rfl ?_
      refine V_iconst dL_law_1866 ?_
      refine V_lald (j := 0) dL_law_1867 (hF.ow ho1).1 rfl (by rw [(hF.ow ho1).2.1]; decide) (by rw [(hF.ow ho1).2.1]; decide) ?_
      rw [show h_i h 39 0 = _ from ((hF.1 39 (Or.inr (by decide))).2.2.1 0).trans (e3 q), Int64.ofInt_toInt]
      refine V_iload dL_law_1868 rfl ?_
      refine V_i2lw dL_law_1870 ?_
      refine V_lcmp (z := 0) dL_law_1871 lcmp_eq ?_
      refine V_if_eq (tgt := 1877) dL_law_1872 (by decide) (by decide) (fun _ => ?_) (fun w => absurd rfl w)
      refine V_goto (tgt := 2119) dL_law_1877 (by decide) ?_
      refine V_wk (lc' := [_, _, _, _, _, _, xU, xU, xU]) ⟨Or.inr rfl, Or.inr rfl, Or.inr rfl, Or.inr rfl, Or.inr rfl, Or.inr rfl, Or.inl rfl, Or.inl rfl, Or.inl rfl, trivial⟩ ?_
      have kk := k_answer (M := M) w1 w2 True
      have g1 := hD.g1
      have g2 := (a.1 : DM _ _).g1
      exact hT h ⟨_, _, A1, N + 4, U + 200, a.1, hF.dr hR1, hM, hF.ow ho1, ⟨by have := kk.1; have := g1.2.2.2.1; have := g2.2.2.2.1; (try dsimp only at *); omega, by have := kk.2; have := g1.2.2.2.2; have := g2.2.2.2.2; (try dsimp only at *); omega⟩, by omega, by omega⟩
theorem AF.rs {D M : MS} (H : DM D M) (h8 : D 8 0 ≤ 600) (h9 : D 9 0 ≤ 600) : DM (d_rightShare D).2 (s_rightShare M).2 ∧ (((d_rightShare D).1 = .inr eAE ∧ (s_rightShare M).2 27 0 = 1) ∨ ∃ f, (d_rightShare D).1 = .inl (some (xV (.float f))) ∧ vf_n32 f ∧ (s_rightShare M).1 = f ∧ (s_rightShare M).2 27 0 = 0) := by
  have g := H.g1
  have a8 := H.1.2.1.a8
  have a9 := H.1.2.1.a9
  unfold d_rightShare s_rightShare
  rw [g.2.2.2.1, g.2.2.2.2]
  by_cases e : D 8 0 = 0
  · rw [if_pos e, if_pos e]
    exact ⟨H.th, Or.inl ⟨rfl, rfl⟩⟩
  · rw [if_neg e, if_neg e]
    exact ⟨H.th, Or.inr ⟨_, rfl, fSh_ok (by omega) (by omega), rfl, rfl⟩⟩
theorem AF.ml {D M : MS} (H : DM D M) : DM (d_meanLevel D).2 (s_meanLevel M).2 ∧ (((d_meanLevel D).1 = .inr eAE ∧ (s_meanLevel M).2 27 0 = 1) ∨ ∃ f, (d_meanLevel D).1 = .inl (some (xV (.double f))) ∧ vf_n64 f ∧ (s_meanLevel M).1 = f ∧ (s_meanLevel M).2 27 0 = 0) := by
  have hI := H.1.2.1
  have c := hI.c
  have n := hI.n.1
  have z := hI.a70 45
  have r := dSumN_r hI (D 90 0).toNat
  unfold d_meanLevel s_meanLevel
  rw [← g_allLevels H, H.nn.1]
  by_cases e : D 90 0 = 0
  · rw [if_pos e, if_pos e]
    exact ⟨H.th, Or.inl ⟨rfl, rfl⟩⟩
  · rw [if_neg e, if_neg e]
    exact ⟨H.th, Or.inr ⟨_, rfl, dMn_ok (by omega) (by omega), rfl, rfl⟩⟩
theorem k_rightShare {M : MS} : K9 1 M (s_rightShare M).2 := by
  unfold s_rightShare
  split <;> exact K9.th
theorem k_meanLevel {M : MS} : K9 1 M (s_meanLevel M).2 := by
  unfold s_meanLevel
  split <;> exact K9.th
theorem LC_33 (g : GP) {h : AH} {i c : Int} (hT : ∀ h', LW h' (c + 1) → V g m_L_law 15 Q1 h' 2119 [xR 5, xR 8, xR 18, xR 39, xR 40, xI i, xU, xU, xU] []) (W : LW h c) (hi : 0 ≤ i ∧ i + 5 ≤ g_l g) (hg : g_l g ≤ 2560) (hc : 0 ≤ c ∧ c ≤ 511) : V g m_L_law 15 Q1 h 1975 [xR 5, xR 8, xR 18, xR 39, xR 40, xI i, xU, xU, xU] [] := by
  obtain ⟨D, M, A, N, U, hD, hR, hM, ho, ⟨h8, h9⟩, hN, hU⟩ := W
  have hI := hD.1.2.1
  have hIM := hD.2.1
  have hN' : N + 200 ≤ z_CC := by unfold z_CC; omega
  have hU' : U + 5000 ≤ z_CS := by unfold z_CS; omega
  have af := AF.rs hD (by omega) (by omega)
  have hx : HF (d_rightShare D) := by
    rcases af.2 with ⟨b1, -⟩ | ⟨f, b1, b2, -⟩
    · exact Or.inr b1
    · exact Or.inl ⟨f, b1, b2⟩
  refine V_aload_n dL_law_1975 rfl ?_
  refine V_aload dL_law_1976 rfl ?_
  refine V_cH (as := [_, _]) dL_law_1978 c_RL_242 rfl (by decide) rfl (Nat.le_of_ble_eq_true rfl) (T_L_rightShare g ho hR.kx hx (T_X3_rightShare g N U D hI (by omega) (by omega) hN' hU' A h hR)) (fun E h1 q => ?_) (fun v h1 q => ?_)
  · obtain ⟨-, -, z, hz, -⟩ := q
    cases hz
  obtain ⟨q1, q2, z, hz, q3⟩ := q
  cases hz
  have ho1 := q2.ow ho
  have hM1 := q2.mr hM
  obtain ⟨A1, hR1⟩ := q1
  have e9 : z = (s_rightShare M).2 27 0 ∧ (0 ≤ z ∧ z ≤ 1) ∧ (z = 0 → vf_n32 (s_rightShare M).1 ∧ h_i h1 40 0 = ((FP.f2d (s_rightShare M).1 : UInt64).toNat : Int)) := by
    rcases af.2 with ⟨b1, b2⟩ | ⟨f, b1, b2, b3, b4⟩
    · rcases q3 with ⟨-, y, y1, -⟩ | ⟨-, rfl⟩
      · exfalso
        rcases y1 with y1 | ⟨f, y1, -⟩
        · rw [b1] at y1; cases y1
        · rw [b1] at y1; cases y1
      · exact ⟨b2.symm, by decide, fun w => absurd w (by decide)⟩
    · rcases q3 with ⟨rfl, y, y1, y2⟩ | ⟨y1, -⟩
      · refine ⟨b4.symm, by decide, fun _ => ?_⟩
        rw [b3]
        refine ⟨b2, ?_⟩
        rcases y1 with y1 | ⟨f9, y1, rfl⟩
        · rw [b1] at y1; cases y1
        · rw [b1] at y1; cases y1; exact y2
      · rw [b1] at y1; cases y1
  obtain ⟨e1, e2, e3⟩ := e9
  subst e1
  refine V_istore (lc' := [_, _, _, _, _, _, _, _, _]) dL_law_1981 (by decide) rfl ?_
  refine V_aload_n dL_law_1983 rfl ?_
  refine V_mC (h0 := h1) (as := []) dL_law_1984 c_RL_245 rfl (by decide) rfl (Nat.le_of_ble_eq_true rfl) hM1 FR.rf (T_X4_rightShare g M hIM (by have := hD.g1; omega) (by have := hD.g1; omega)) (fun h hM hF => ?_)
  refine V_fstore (lc' := [_, _, _, _, _, _, _, _, _]) dL_law_1987 (by decide) rfl ?_
  refine V_aload_n dL_law_1989 rfl ?_
  refine V_mC (as := []) dL_law_1990 c_RL_130 rfl (by decide) rfl (Nat.le_of_ble_eq_true rfl) hM hF (T_X4_thrown g (s_rightShare M).2) (fun h hM hF => ?_)
  refine V_iload dL_law_1993 rfl ?_
  refine V_icmp_eqS (tgt := 2000) dL_law_1995 (by decide) ?_
  refine V_iload dL_law_2000 rfl ?_
  refine V_if_ne (tgt := 2038) dL_law_2002 (by decide) (by omega) (fun q => ?_) (fun q => ?_)
  · refine V_goto (tgt := 2119) dL_law_2038 (by decide) ?_
    refine V_wk (lc' := [_, _, _, _, _, _, xU, xU, xU]) ⟨Or.inr rfl, Or.inr rfl, Or.inr rfl, Or.inr rfl, Or.inr rfl, Or.inr rfl, Or.inl rfl, Or.inl rfl, Or.inl rfl, trivial⟩ ?_
    have kk := k_rightShare (M := M)
    have g1 := hD.g1
    have g2 := (af.1 : DM _ _).g1
    exact hT h ⟨_, _, A1, N + 4, U + 200, af.1, hF.dr hR1, hM, hF.ow ho1, ⟨by have := kk.1; have := g1.2.2.2.1; have := g2.2.2.2.1; (try dsimp only at *); omega, by have := kk.2; have := g1.2.2.2.2; have := g2.2.2.2.2; (try dsimp only at *); omega⟩, by omega, by omega⟩
  · obtain ⟨e4, e5⟩ := e3 q
    refine V_aload dL_law_2005 rfl ?_
    refine V_iconst dL_law_2007 ?_
    refine V_dald (j := 0) dL_law_2008 (hF.ow ho1).2.2.1 rfl (by rw [(hF.ow ho1).2.2.2]; decide) (by rw [(hF.ow ho1).2.2.2]; decide) ?_
    rw [show h_i h 40 0 = _ from ((hF.1 40 (Or.inr (by decide))).2.2.1 0).trans e5, Int.toNat_natCast, UInt64.ofNat_toNat]
    refine V_fload dL_law_2009 rfl ?_
    refine V_f2d dL_law_2011 (f2d_ok e4) ?_
    refine V_dcmp (z := 0) dL_law_2012 (by rw [dcmp_self (f2d_ok e4)]; rfl) ?_
    refine V_if_eq (tgt := 2038) dL_law_2013 (by decide) (by decide) (fun _ => ?_) (fun w => absurd rfl w)
    refine V_goto (tgt := 2119) dL_law_2038 (by decide) ?_
    refine V_wk (lc' := [_, _, _, _, _, _, xU, xU, xU]) ⟨Or.inr rfl, Or.inr rfl, Or.inr rfl, Or.inr rfl, Or.inr rfl, Or.inr rfl, Or.inl rfl, Or.inl rfl, Or.inl rfl, trivial⟩ ?_
    have kk := k_rightShare (M := M)
    have g1 := hD.g1
    have g2 := (af.1 : DM _ _).g1
    exact hT h ⟨_, _, A1, N + 4, U + 200, af.1, hF.dr hR1, hM, hF.ow ho1, ⟨by have := kk.1; have := g1.2.2.2.1; have := g2.2.2.2.1; (try dsimp only at *); omega, by have := kk.2; have := g1.2.2.2.2; have := g2.2.2.2.2; (try dsimp only at *); omega⟩, by omega, by omega⟩
theorem LC_34 (g : GP) {h : AH} {i c : Int} (hT : ∀ h', LW h' (c + 1) → V g m_L_law 15 Q1 h' 2119 [xR 5, xR 8, xR 18, xR 39, xR 40, xI i, xU, xU, xU] []) (W : LW h c) (hi : 0 ≤ i ∧ i + 5 ≤ g_l g) (hg : g_l g ≤ 2560) (hc : 0 ≤ c ∧ c ≤ 511) : V g m_L_law 15 Q1 h 2041 [xR 5, xR 8, xR 18, xR 39, xR 40, xI i, xU, xU, xU] [] := by
  obtain ⟨D, M, A, N, U, hD, hR, hM, ho, ⟨h8, h9⟩, hN, hU⟩ := W
  have hI := hD.1.2.1
  have hIM := hD.2.1
  have hN' : N + 200 ≤ z_CC := by unfold z_CC; omega
  have hU' : U + 5000 ≤ z_CS := by unfold z_CS; omega
  have af := AF.ml hD
  have hx : HD9 (d_meanLevel D) := by
    rcases af.2 with ⟨b1, -⟩ | ⟨f, b1, b2, -⟩
    · exact Or.inr b1
    · exact Or.inl ⟨f, b1, b2⟩
  refine V_aload_n dL_law_2041 rfl ?_
  refine V_aload dL_law_2042 rfl ?_
  refine V_cH (as := [_, _]) dL_law_2044 c_RL_246 rfl (by decide) rfl (Nat.le_of_ble_eq_true rfl) (T_L_meanLevel g ho hR.kx hx (T_X3_meanLevel g N U D hI hN' hU' A h hR)) (fun E h1 q => ?_) (fun v h1 q => ?_)
  · obtain ⟨-, -, z, hz, -⟩ := q
    cases hz
  obtain ⟨q1, q2, z, hz, q3⟩ := q
  cases hz
  have ho1 := q2.ow ho
  have hM1 := q2.mr hM
  obtain ⟨A1, hR1⟩ := q1
  have e9 : z = (s_meanLevel M).2 27 0 ∧ (0 ≤ z ∧ z ≤ 1) ∧ (z = 0 → vf_n64 (s_meanLevel M).1 ∧ h_i h1 40 0 = (((s_meanLevel M).1 : UInt64).toNat : Int)) := by
    rcases af.2 with ⟨b1, b2⟩ | ⟨f, b1, b2, b3, b4⟩
    · rcases q3 with ⟨-, y, y1, -⟩ | ⟨-, rfl⟩
      · exfalso
        rcases y1 with y1 | ⟨f, y1, -⟩
        · rw [b1] at y1; cases y1
        · rw [b1] at y1; cases y1
      · exact ⟨b2.symm, by decide, fun w => absurd w (by decide)⟩
    · rcases q3 with ⟨rfl, y, y1, y2⟩ | ⟨y1, -⟩
      · refine ⟨b4.symm, by decide, fun _ => ?_⟩
        rw [b3]
        refine ⟨b2, ?_⟩
        rcases y1 with y1 | ⟨f9, y1, rfl⟩
        · rw [b1] at y1; cases y1; exact y2
        · rw [b1] at y1; cases y1
      · rw [b1] at y1; cases y1
  obtain ⟨e1, e2, e3⟩ := e9
  subst e1
  refine V_istore (lc' := [_, _, _, _, _, _, _, _, _]) dL_law_2047 (by decide) rfl ?_
  refine V_aload_n dL_law_2049 rfl ?_
  refine V_mC (h0 := h1) (as := []) dL_law_2050 c_RL_248 rfl (by decide) rfl (Nat.le_of_ble_eq_true rfl) hM1 FR.rf (T_X4_meanLevel g M hIM) (fun h hM hF => ?_)
  refine V_dstore (lc' := [_, _, _, _, _, _, _, _, _]) dL_law_2053 (by decide) rfl ?_
  refine V_aload_n dL_law_2055 rfl ?_
  refine V_mC (as := []) dL_law_2056 c_RL_130 rfl (by decide) rfl (Nat.le_of_ble_eq_true rfl) hM hF (T_X4_thrown g (s_meanLevel M).2) (fun h hM hF => ?_)
  refine V_iload dL_law_2059 rfl ?_
  refine V_icmp_eqS (tgt := 2066) dL_law_2061 (by decide) ?_
  refine V_iload dL_law_2066 rfl ?_
  refine V_if_ne (tgt := 2103) dL_law_2068 (by decide) (by omega) (fun q => ?_) (fun q => ?_)
  · refine V_goto (tgt := 2119) dL_law_2103 (by decide) ?_
    refine V_wk (lc' := [_, _, _, _, _, _, xU, xU, xU]) ⟨Or.inr rfl, Or.inr rfl, Or.inr rfl, Or.inr rfl, Or.inr rfl, Or.inr rfl, Or.inl rfl, Or.inl rfl, Or.inl rfl, trivial⟩ ?_
    have kk := k_meanLevel (M := M)
    have g1 := hD.g1
    have g2 := (af.1 : DM _ _).g1
    exact hT h ⟨_, _, A1, N + 4, U + 200, af.1, hF.dr hR1, hM, hF.ow ho1, ⟨by have := kk.1; have := g1.2.2.2.1; have := g2.2.2.2.1; (try dsimp only at *); omega, by have := kk.2; have := g1.2.2.2.2; have := g2.2.2.2.2; (try dsimp only at *); omega⟩, by omega, by omega⟩
  · obtain ⟨e4, e5⟩ := e3 q
    refine V_aload dL_law_2071 rfl ?_
    refine V_iconst dL_law_2073 ?_
    refine V_dald (j := 0) dL_law_2074 (hF.ow ho1).2.2.1 rfl (by rw [(hF.ow ho1).2.2.2]; decide) (by rw [(hF.ow ho1).2.2.2]; decide) ?_
    rw [show h_i h 40 0 = _ from ((hF.1 40 (Or.inr (by decide))).2.2.1 0).trans e5, Int.toNat_natCast, UInt64.ofNat_toNat]
    refine V_dload dL_law_2075 rfl ?_
    refine V_dcmp (z := 0) dL_law_2077 (by rw [dcmp_self e4]; rfl) ?_
    refine V_if_eq (tgt := 2103) dL_law_2078 (by decide) (by decide) (fun _ => ?_) (fun w => absurd rfl w)
    refine V_goto (tgt := 2119) dL_law_2103 (by decide) ?_
    refine V_wk (lc' := [_, _, _, _, _, _, xU, xU, xU]) ⟨Or.inr rfl, Or.inr rfl, Or.inr rfl, Or.inr rfl, Or.inr rfl, Or.inr rfl, Or.inl rfl, Or.inl rfl, Or.inl rfl, trivial⟩ ?_
    have kk := k_meanLevel (M := M)
    have g1 := hD.g1
    have g2 := (af.1 : DM _ _).g1
    exact hT h ⟨_, _, A1, N + 4, U + 200, af.1, hF.dr hR1, hM, hF.ow ho1, ⟨by have := kk.1; have := g1.2.2.2.1; have := g2.2.2.2.1; (try dsimp only at *); omega, by have := kk.2; have := g1.2.2.2.2; have := g2.2.2.2.2; (try dsimp only at *); omega⟩, by omega, by omega⟩

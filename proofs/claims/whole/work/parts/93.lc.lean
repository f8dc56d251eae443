theorem LC_1 (g : GP) {h : AH} {i c : Int} (hT : ∀ h', LW h' (c + 1) → V g m_L_law 15 Q1 h' 2119 [xR 5, xR 8, xR 18, xR 39, xR 40, xI i, xU, xU, xU] []) (W : LW h c) (hi : 0 ≤ i ∧ i + 5 ≤ g_l g) (hg : g_l g ≤ 2560) (hc : 0 ≤ c ∧ c ≤ 511) : V g m_L_law 15 Q1 h 260 [xR 5, xR 8, xR 18, xR 39, xR 40, xI i, xU, xU, xU] [] := by
  obtain ⟨D, M, A, N, U, hD, hR, hM, ho, ⟨h8, h9⟩, hN, hU⟩ := W
  have hI := hD.1.2.1
  have hIM := hD.2.1
  have hN' : N + 200 ≤ z_CC := by unfold z_CC; omega
  have hU' : U + 5000 ≤ z_CS := by unfold z_CS; omega
  have a := g_erase hD
  refine V_aload_n dL_law_260 rfl ?_
  refine V_cV (as := []) dL_law_261 c_RL_133 rfl (by decide) rfl (Nat.le_of_ble_eq_true rfl) hR.kx (T_X3_erase g N U D hI hN' hU' A h hR) (fun E h1 q => ?_) (fun v h1 q => ?_)
  · have q1 : (.inr E : Res) = rI (D 1 0) := q.1
    cases q1
  obtain ⟨q1, ⟨A1, hR1⟩, q3⟩ := q
  have q1 : (.inl v : Res) = rI (D 1 0) := q1
  cases q1
  have ho1 := (FO.of q3).ow ho
  have hM1 := (FO.of q3).mr hM
  refine V_aload_n dL_law_264 rfl ?_
  refine V_mC (h0 := h1) (as := []) dL_law_265 c_RL_136 rfl (by decide) rfl (Nat.le_of_ble_eq_true rfl) hM1 FR.rf (T_X4_erase g M) (fun h hM hF => ?_)
  rw [show D 1 0 = M 19 0 from hD.g1.1.symm]
  refine V_icmp_eqS (tgt := 2119) dL_law_268 (by decide) ?_
  have kk: K9 1 M (mset (sT M 0) 19 0 0) := (K9.th (M := M) (z := 0)).p (f := 19) (k := 0) (z := 0) (by decide)
  have g1 := hD.g1
  have g2 := (a.1 : DM _ _).g1
  exact hT h ⟨_, _, A1, N + 4, U + 200, a.1, hF.dr hR1, hM, hF.ow ho1, ⟨by have := kk.1; have := g1.2.2.2.1; have := g2.2.2.2.1; (try dsimp only at *); omega, by have := kk.2; have := g1.2.2.2.2; have := g2.2.2.2.2; (try dsimp only at *); omega⟩, by omega, by omega⟩
theorem LC_12 (g : GP) {h : AH} {i c : Int} (hT : ∀ h', LW h' (c + 1) → V g m_L_law 15 Q1 h' 2119 [xR 5, xR 8, xR 18, xR 39, xR 40, xI i, xU, xU, xU] []) (W : LW h c) (hi : 0 ≤ i ∧ i + 5 ≤ g_l g) (hg : g_l g ≤ 2560) (hc : 0 ≤ c ∧ c ≤ 511) : V g m_L_law 15 Q1 h 864 [xR 5, xR 8, xR 18, xR 39, xR 40, xI i, xU, xU, xU] [] := by
  obtain ⟨D, M, A, N, U, hD, hR, hM, ho, ⟨h8, h9⟩, hN, hU⟩ := W
  have hI := hD.1.2.1
  have hIM := hD.2.1
  have hN' : N + 200 ≤ z_CC := by unfold z_CC; omega
  have hU' : U + 5000 ≤ z_CS := by unfold z_CS; omega
  refine V_aload_n dL_law_864 rfl ?_
  refine V_pV (as := []) dL_law_865 c_RL_169 rfl (by decide) rfl (Nat.le_of_ble_eq_true rfl) hR.kx (T_X3_week g hR hI) ?_
  refine V_aload_n dL_law_868 rfl ?_
  refine V_mC (h0 := h) (as := []) dL_law_869 c_RL_172 rfl (by decide) rfl (Nat.le_of_ble_eq_true rfl) hM FR.rf (T_X4_week g M hIM) (fun h hM hF => ?_)
  rw [(g_week hD).1]
  refine V_icmp_eqS (tgt := 2119) dL_law_872 (by decide) ?_
  have kk := K9.th (M := M) (z := 0)
  have g1 := hD.g1
  have g2 := ((hD.th (c := 0)) : DM _ _).g1
  exact hT h ⟨_, _, A, N, U, (hD.th (c := 0)), hF.dr hR, hM, hF.ow ho, ⟨by have := kk.1; have := g1.2.2.2.1; have := g2.2.2.2.1; (try dsimp only at *); omega, by have := kk.2; have := g1.2.2.2.2; have := g2.2.2.2.2; (try dsimp only at *); omega⟩, by omega, by omega⟩
theorem LC_25 (g : GP) {h : AH} {i c : Int} (hT : ∀ h', LW h' (c + 1) → V g m_L_law 15 Q1 h' 2119 [xR 5, xR 8, xR 18, xR 39, xR 40, xI i, xU, xU, xU] []) (W : LW h c) (hi : 0 ≤ i ∧ i + 5 ≤ g_l g) (hg : g_l g ≤ 2560) (hc : 0 ≤ c ∧ c ≤ 511) : V g m_L_law 15 Q1 h 1630 [xR 5, xR 8, xR 18, xR 39, xR 40, xI i, xU, xU, xU] [] := by
  obtain ⟨D, M, A, N, U, hD, hR, hM, ho, ⟨h8, h9⟩, hN, hU⟩ := W
  have hI := hD.1.2.1
  have hIM := hD.2.1
  have hN' : N + 200 ≤ z_CC := by unfold z_CC; omega
  have hU' : U + 5000 ≤ z_CS := by unfold z_CS; omega
  refine V_aload_n dL_law_1630 rfl ?_
  refine V_pV (as := []) dL_law_1631 c_RL_211 rfl (by decide) rfl (Nat.le_of_ble_eq_true rfl) hR.kx (T_X3_waiting g hR hI) ?_
  refine V_aload_n dL_law_1634 rfl ?_
  refine V_mC (h0 := h) (as := []) dL_law_1635 c_RL_214 rfl (by decide) rfl (Nat.le_of_ble_eq_true rfl) hM FR.rf (T_X4_waiting g M hIM) (fun h hM hF => ?_)
  rw [g_waiting hD]
  refine V_icmp_eqS (tgt := 2119) dL_law_1638 (by decide) ?_
  have kk := K9.th (M := M) (z := 0)
  have g1 := hD.g1
  have g2 := ((hD.th (c := 0)) : DM _ _).g1
  exact hT h ⟨_, _, A, N, U, (hD.th (c := 0)), hF.dr hR, hM, hF.ow ho, ⟨by have := kk.1; have := g1.2.2.2.1; have := g2.2.2.2.1; (try dsimp only at *); omega, by have := kk.2; have := g1.2.2.2.2; have := g2.2.2.2.2; (try dsimp only at *); omega⟩, by omega, by omega⟩
theorem LC_31 (g : GP) {h : AH} {i c : Int} (hT : ∀ h', LW h' (c + 1) → V g m_L_law 15 Q1 h' 2119 [xR 5, xR 8, xR 18, xR 39, xR 40, xI i, xU, xU, xU] []) (W : LW h c) (hi : 0 ≤ i ∧ i + 5 ≤ g_l g) (hg : g_l g ≤ 2560) (hc : 0 ≤ c ∧ c ≤ 511) : V g m_L_law 15 Q1 h 1948 [xR 5, xR 8, xR 18, xR 39, xR 40, xI i, xU, xU, xU] [] := by
  obtain ⟨D, M, A, N, U, hD, hR, hM, ho, ⟨h8, h9⟩, hN, hU⟩ := W
  have hI := hD.1.2.1
  have hIM := hD.2.1
  have hN' : N + 200 ≤ z_CC := by unfold z_CC; omega
  have hU' : U + 5000 ≤ z_CS := by unfold z_CS; omega
  refine V_aload_n dL_law_1948 rfl ?_
  refine V_pV (as := []) dL_law_1949 c_RL_233 rfl (by decide) rfl (Nat.le_of_ble_eq_true rfl) hR.kx (T_X3_answers g hR hI) ?_
  refine V_aload_n dL_law_1952 rfl ?_
  refine V_mC (h0 := h) (as := []) dL_law_1953 c_RL_236 rfl (by decide) rfl (Nat.le_of_ble_eq_true rfl) hM FR.rf (T_X4_answers g M hIM) (fun h hM hF => ?_)
  rw [(g_week hD).2]
  refine V_icmp_eqS (tgt := 2119) dL_law_1956 (by decide) ?_
  have kk := K9.th (M := M) (z := 0)
  have g1 := hD.g1
  have g2 := ((hD.th (c := 0)) : DM _ _).g1
  exact hT h ⟨_, _, A, N, U, (hD.th (c := 0)), hF.dr hR, hM, hF.ow ho, ⟨by have := kk.1; have := g1.2.2.2.1; have := g2.2.2.2.1; (try dsimp only at *); omega, by have := kk.2; have := g1.2.2.2.2; have := g2.2.2.2.2; (try dsimp only at *); omega⟩, by omega, by omega⟩
theorem LC_32 (g : GP) {h : AH} {i c : Int} (hT : ∀ h', LW h' (c + 1) → V g m_L_law 15 Q1 h' 2119 [xR 5, xR 8, xR 18, xR 39, xR 40, xI i, xU, xU, xU] []) (W : LW h c) (hi : 0 ≤ i ∧ i + 5 ≤ g_l g) (hg : g_l g ≤ 2560) (hc : 0 ≤ c ∧ c ≤ 511) : V g m_L_law 15 Q1 h 1961 [xR 5, xR 8, xR 18, xR 39, xR 40, xI i, xU, xU, xU] [] := by
  obtain ⟨D, M, A, N, U, hD, hR, hM, ho, ⟨h8, h9⟩, hN, hU⟩ := W
  have hI := hD.1.2.1
  have hIM := hD.2.1
  have hN' : N + 200 ≤ z_CC := by unfold z_CC; omega
  have hU' : U + 5000 ≤ z_CS := by unfold z_CS; omega
  refine V_aload_n dL_law_1961 rfl ?_
  refine V_pV (as := []) dL_law_1962 c_RL_237 rfl (by decide) rfl (Nat.le_of_ble_eq_true rfl) hR.kx (T_X3_allLevels g hR hI) ?_
  refine V_aload_n dL_law_1965 rfl ?_
  refine V_mC (h0 := h) (as := []) dL_law_1966 c_RL_241 rfl (by decide) rfl (Nat.le_of_ble_eq_true rfl) hM FR.rf (T_X4_allLevels g M hIM) (fun h hM hF => ?_)
  rw [g_allLevels hD]
  refine V_lcmp (z := 0) dL_law_1969 lcmp_eq ?_
  refine V_if_eq (tgt := 2119) dL_law_1970 (by decide) (by decide) (fun _ => ?_) (fun w => absurd rfl w)
  have kk := K9.th (M := M) (z := 0)
  have g1 := hD.g1
  have g2 := ((hD.th (c := 0)) : DM _ _).g1
  exact hT h ⟨_, _, A, N, U, (hD.th (c := 0)), hF.dr hR, hM, hF.ow ho, ⟨by have := kk.1; have := g1.2.2.2.1; have := g2.2.2.2.1; (try dsimp only at *); omega, by have := kk.2; have := g1.2.2.2.2; have := g2.2.2.2.2; (try dsimp only at *); omega⟩, by omega, by omega⟩
theorem LC_35 (g : GP) {h : AH} {i c : Int} (hT : ∀ h', LW h' (c + 1) → V g m_L_law 15 Q1 h' 2119 [xR 5, xR 8, xR 18, xR 39, xR 40, xI i, xU, xU, xU] []) (W : LW h c) (hi : 0 ≤ i ∧ i + 5 ≤ g_l g) (hg : g_l g ≤ 2560) (hc : 0 ≤ c ∧ c ≤ 511) : V g m_L_law 15 Q1 h 2106 [xR 5, xR 8, xR 18, xR 39, xR 40, xI i, xU, xU, xU] [] := by
  obtain ⟨D, M, A, N, U, hD, hR, hM, ho, ⟨h8, h9⟩, hN, hU⟩ := W
  have hI := hD.1.2.1
  have hIM := hD.2.1
  have hN' : N + 200 ≤ z_CC := by unfold z_CC; omega
  have hU' : U + 5000 ≤ z_CS := by unfold z_CS; omega
  have a := g_isSound hD
  have hx1 : (d_isSound D).1 = rI 1 := by
    rcases a.2 with ⟨e, -⟩ | ⟨n, e, he, -⟩
    · exact e
    · cases n <;> cases he
  refine V_aload_n dL_law_2106 rfl ?_
  refine V_cV (as := []) dL_law_2107 c_RL_249 rfl (by decide) rfl (Nat.le_of_ble_eq_true rfl) hR.kx (T_X3_isSound g N U D hI hD.2.2.2.2 hN' hU' A h hR) (fun E h1 q => ?_) (fun v h1 q => ?_)
  · have q1 := q.1.trans hx1
    cases q1
  obtain ⟨q1, ⟨A1, hR1⟩, q3⟩ := q
  have q1 := q1.trans hx1
  cases q1
  have ho1 := (FO.of q3).ow ho
  have hM1 := (FO.of q3).mr hM
  refine V_aload_n dL_law_2110 rfl ?_
  refine V_mC (h0 := h1) (as := []) dL_law_2111 c_RL_253 rfl (by decide) rfl (Nat.le_of_ble_eq_true rfl) hM1 FR.rf (T_X4_isSound g M) (fun h hM hF => ?_)
  refine V_icmp_eqS (tgt := 2119) dL_law_2114 (by decide) ?_
  have kk := K9.th (M := M) (z := 0)
  have g1 := hD.g1
  have g2 := (a.1 : DM _ _).g1
  exact hT h ⟨_, _, A1, N + 4, U + 200, a.1, hF.dr hR1, hM, hF.ow ho1, ⟨by have := kk.1; have := g1.2.2.2.1; have := g2.2.2.2.1; (try dsimp only at *); omega, by have := kk.2; have := g1.2.2.2.2; have := g2.2.2.2.2; (try dsimp only at *); omega⟩, by omega, by omega⟩
theorem LC_26 (g : GP) {h : AH} {i c : Int} (hT : ∀ h', LW h' (c + 1) → V g m_L_law 15 Q1 h' 2119 [xR 5, xR 8, xR 18, xR 39, xR 40, xI i, xU, xU, xU] []) (W : LW h c) (hi : 0 ≤ i ∧ i + 5 ≤ g_l g) (hg : g_l g ≤ 2560) (hc : 0 ≤ c ∧ c ≤ 511) : V g m_L_law 15 Q1 h 1643 [xR 5, xR 8, xR 18, xR 39, xR 40, xI i, xU, xU, xU] [] := by
  obtain ⟨D, M, A, N, U, hD, hR, hM, ho, ⟨h8, h9⟩, hN, hU⟩ := W
  have hI := hD.1.2.1
  have hIM := hD.2.1
  have hN' : N + 200 ≤ z_CC := by unfold z_CC; omega
  have hU' : U + 5000 ≤ z_CS := by unfold z_CS; omega
  obtain ⟨w1, ew1, r1⟩ : ∃ w : Int, w = (g_x g (i + 1).toNat).toInt ∧ -2147483648 ≤ w ∧ w ≤ 2147483647 := ⟨_, rfl, sc_r _⟩
  rcases Classical.em (w1 = 0) with q0 | q0
  · have a := g_setJam hD (z := 0) (Or.inl rfl)
    refine V_aload_n dL_law_1643 rfl ?_
    refine V_aload_n dL_law_1644 rfl ?_
    refine V_iload dL_law_1645 rfl ?_
    refine V_iconst dL_law_1647 ?_
    refine V_iadd dL_law_1648 ?_
    refine V_sld (j := (i + 1).toNat) dL_law_1649 (by omega) (by omega) (by omega) ?_
    rw [← ew1]
    refine V_if_eq (tgt := 1657) dL_law_1650 (by decide) r1 (fun _ => ?_) (fun w => absurd q0 w)
    refine V_iconst dL_law_1657 ?_
    refine V_cV (as := [_]) dL_law_1658 c_RL_215 rfl (by decide) rfl (Nat.le_of_ble_eq_true rfl) hR.kx (T_X3_setJam g N U D 0 (by decide) hI (Or.inl rfl) hN' hU' A h hR) (fun E h1 q => ?_) (fun v h1 q => ?_)
    · have q1 : (.inr E : Res) = rI (D 7 0) := q.1
      cases q1
    obtain ⟨q1, ⟨A1, hR1⟩, q3⟩ := q
    have q1 : (.inl v : Res) = rI (D 7 0) := q1
    cases q1
    have ho1 := (FO.of q3).ow ho
    have hM1 := (FO.of q3).mr hM
    refine V_aload_n dL_law_1661 rfl ?_
    refine V_aload_n dL_law_1662 rfl ?_
    refine V_iload dL_law_1663 rfl ?_
    refine V_iconst dL_law_1665 ?_
    refine V_iadd dL_law_1666 ?_
    refine V_sld (j := (i + 1).toNat) dL_law_1667 (by omega) (by omega) (by omega) ?_
    rw [← ew1]
    refine V_if_eq (tgt := 1675) dL_law_1668 (by decide) r1 (fun _ => ?_) (fun w => absurd q0 w)
    refine V_iconst dL_law_1675 ?_
    refine V_mC (h0 := h1) (as := [_]) dL_law_1676 c_RL_219 rfl (by decide) rfl (Nat.le_of_ble_eq_true rfl) hM1 FR.rf (T_X4_setJam g M 0 (by decide) hIM (Or.inl rfl)) (fun h hM hF => ?_)
    rw [show D 7 0 = M 29 0 from hD.g1.2.2.1.symm]
    refine V_icmp_eqS (tgt := 2119) dL_law_1679 (by decide) ?_
    have kk: K9 1 M (mset (sT M 0) 29 0 0) := (K9.th (M := M) (z := 0)).p (f := 29) (k := 0) (z := 0) (by decide)
    have g1 := hD.g1
    have g2 := (a.1 : DM _ _).g1
    exact hT h ⟨_, _, A1, N + 4, U + 200, a.1, hF.dr hR1, hM, hF.ow ho1, ⟨by have := kk.1; have := g1.2.2.2.1; have := g2.2.2.2.1; (try dsimp only at *); omega, by have := kk.2; have := g1.2.2.2.2; have := g2.2.2.2.2; (try dsimp only at *); omega⟩, by omega, by omega⟩
  · have a := g_setJam hD (z := 1) (Or.inr rfl)
    refine V_aload_n dL_law_1643 rfl ?_
    refine V_aload_n dL_law_1644 rfl ?_
    refine V_iload dL_law_1645 rfl ?_
    refine V_iconst dL_law_1647 ?_
    refine V_iadd dL_law_1648 ?_
    refine V_sld (j := (i + 1).toNat) dL_law_1649 (by omega) (by omega) (by omega) ?_
    rw [← ew1]
    refine V_if_eq (tgt := 1657) dL_law_1650 (by decide) r1 (fun w => absurd w q0) (fun _ => ?_)
    refine V_iconst dL_law_1653 ?_
    refine V_goto (tgt := 1658) dL_law_1654 (by decide) ?_
    refine V_cV (as := [_]) dL_law_1658 c_RL_215 rfl (by decide) rfl (Nat.le_of_ble_eq_true rfl) hR.kx (T_X3_setJam g N U D 1 (by decide) hI (Or.inr rfl) hN' hU' A h hR) (fun E h1 q => ?_) (fun v h1 q => ?_)
    · have q1 : (.inr E : Res) = rI (D 7 0) := q.1
      cases q1
    obtain ⟨q1, ⟨A1, hR1⟩, q3⟩ := q
    have q1 : (.inl v : Res) = rI (D 7 0) := q1
    cases q1
    have ho1 := (FO.of q3).ow ho
    have hM1 := (FO.of q3).mr hM
    refine V_aload_n dL_law_1661 rfl ?_
    refine V_aload_n dL_law_1662 rfl ?_
    refine V_iload dL_law_1663 rfl ?_
    refine V_iconst dL_law_1665 ?_
    refine V_iadd dL_law_1666 ?_
    refine V_sld (j := (i + 1).toNat) dL_law_1667 (by omega) (by omega) (by omega) ?_
    rw [← ew1]
    refine V_if_eq (tgt := 1675) dL_law_1668 (by decide) r1 (fun w => absurd w q0) (fun _ => ?_)
    refine V_iconst dL_law_1671 ?_
    refine V_goto (tgt := 1676) dL_law_1672 (by decide) ?_
    refine V_mC (h0 := h1) (as := [_]) dL_law_1676 c_RL_219 rfl (by decide) rfl (Nat.le_of_ble_eq_true rfl) hM1 FR.rf (T_X4_setJam g M 1 (by decide) hIM (Or.inr rfl)) (fun h hM hF => ?_)
    rw [show D 7 0 = M 29 0 from hD.g1.2.2.1.symm]
    refine V_icmp_eqS (tgt := 2119) dL_law_1679 (by decide) ?_
    have kk: K9 1 M (mset (sT M 0) 29 0 1) := (K9.th (M := M) (z := 0)).p (f := 29) (k := 0) (z := 1) (by decide)
    have g1 := hD.g1
    have g2 := (a.1 : DM _ _).g1
    exact hT h ⟨_, _, A1, N + 4, U + 200, a.1, hF.dr hR1, hM, hF.ow ho1, ⟨by have := kk.1; have := g1.2.2.2.1; have := g2.2.2.2.1; (try dsimp only at *); omega, by have := kk.2; have := g1.2.2.2.2; have := g2.2.2.2.2; (try dsimp only at *); omega⟩, by omega, by omega⟩

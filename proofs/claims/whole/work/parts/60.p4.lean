theorem dNt_o {D : MS} (hI : ID D) (hz0 : ∀ k, 0 ≤ D 29 k ∧ D 29 k ≤ 3000) : OnlyF [29] D (dNt D) ∧ ID (dNt D) := by
  obtain ⟨a, b, c⟩ := dNp_o hI hz0 (D 91 0).toNat
  obtain ⟨d, e, f⟩ := dNs_o (D0 := D) b c (D 92 0).toNat
  exact ⟨a.tr d, e⟩
theorem T_X3_isNoneHeldTwice (g : GP) (A : AD) (N U : Nat) (D : MS)   (hI : ID D) (hz0 : ∀ k, 0 ≤ D 29 k ∧ D 29 k ≤ 3000) : TD g m_X3_isNoneHeldTwice 5 [xR 8] A N U D (some (xI (pI (dN1 D)))) (dNt D) := by
  refine TD.of (by decide) rfl (fun v hv => ?_) (Nat.le_of_ble_eq_true rfl) ?_
  · simp only [List.mem_cons, List.not_mem_nil, or_false] at hv
    subst hv; first | exact Or.inl ⟨_, rfl⟩ | exact Or.inr ⟨_, rfl⟩
  intro h0 h hM hF
  obtain ⟨i90, i91, i92⟩ := hI.n
  obtain ⟨c90, c91, c92⟩ := hI.c
  obtain ⟨⟨z90, -⟩, ⟨z91, -⟩, z92, -⟩ := hM.b.2.2.1
  change V g m_X3_isNoneHeldTwice 5 _ h 0 [xR 8, xU] []
  refine V_iconst dX3_isNoneHeldTwice_0 ?_
  refine V_istore_n (lc' := [_, _]) dX3_isNoneHeldTwice_1 (by decide) rfl ?_
  have lp2 : ∀ k2 : Int, ∀ M2 : MS, (0 ≤ k2 ∧ k2 ≤ D 90 0 ∧ M2 = dZr D k2.toNat) → ∀ h, DR h A M2 N U → FD h0 h → V g m_X3_isNoneHeldTwice 5 (Qd h0 A N U (some (xI (pI (dN1 D)))) (dNt D)) h 2 [xR 8, xI k2] [] := by
    refine lp_up (D 90 0) (fun k2 ih2 => ?_)
    intro M2 hk h hM hF
    obtain ⟨k2l, k2u, k2e⟩ := hk
    have oI2 := dZr_o hI k2.toNat
    rw [← k2e] at oI2
    obtain ⟨o2, hI2, b2⟩ := oI2
    obtain ⟨e90_2, e91_2, e92_2, -⟩ : dST D M2 := (dST.rf.tr (dST.of o2 (by decide)))
    have n2 := hI2.n
    refine V_iload_n dX3_isNoneHeldTwice_2 rfl ?_
    refine V_aload_n dX3_isNoneHeldTwice_3 rfl ?_
    refine V_dgr (f := 8) (i := 0) (b := 10) dX3_isNoneHeldTwice_4 fg_RX3_16 rfl rfl hM.fx.1 hM ((dST.rf.tr (dST.of o2 (by decide))).A.mpr (vAx (by decide))) hM.s.1.2.1 ?_
    refine V_dSz (l := 45) (w := D 70 45) dX3_isNoneHeldTwice_7 c_RX3_69 rfl (by decide) (Nat.le_of_ble_eq_true rfl) hM.fx.2.2.2.1 hM ((dST.rf.tr (dST.of o2 (by decide))).L.mpr (vL4 (by decide))) ((o2 70 _ (by decide)).trans rfl) (fun r7 => ?_)
    refine V_icmp_ge (tgt := 34) dX3_isNoneHeldTwice_10 (by decide) (by omega) (by omega) (fun q10 => ?_) (fun q10 => ?_)
    · refine V_iconst dX3_isNoneHeldTwice_34 ?_
      refine V_istore_n (lc' := [_, _]) dX3_isNoneHeldTwice_35 (by decide) rfl ?_
      have lp36 : ∀ k36 : Int, ∀ M36 : MS, (0 ≤ k36 ∧ k36 ≤ D 91 0 ∧ M36 = dNp D k36.toNat) → ∀ h, DR h A M36 N U → FD h0 h → V g m_X3_isNoneHeldTwice 5 (Qd h0 A N U (some (xI (pI (dN1 D)))) (dNt D)) h 36 [xR 8, xI k36] [] := by
        refine lp_up (D 91 0) (fun k36 ih36 => ?_)
        intro M36 hk h hM hF
        obtain ⟨k36l, k36u, k36e⟩ := hk
        have oI36 := dNp_o hI hz0 k36.toNat
        rw [← k36e] at oI36
        obtain ⟨o36, hI36, b36⟩ := oI36
        obtain ⟨e90_36, e91_36, e92_36, -⟩ : dST D M36 := (dST.rf.tr (dST.of o36 (by decide)))
        have n36 := hI36.n
        refine V_iload_n dX3_isNoneHeldTwice_36 rfl ?_
        refine V_aload_n dX3_isNoneHeldTwice_37 rfl ?_
        refine V_dgr (f := 8) (i := 0) (b := 12) dX3_isNoneHeldTwice_38 fg_RX3_23 rfl rfl hM.fx.1 hM ((dST.rf.tr (dST.of o36 (by decide))).A.mpr (vAx (by decide))) hM.s.1.2.2.2.1 ?_
        refine V_dSz (l := 46) (w := D 70 46) dX3_isNoneHeldTwice_41 c_RX3_69 rfl (by decide) (Nat.le_of_ble_eq_true rfl) hM.fx.2.2.2.2.2.1 hM ((dST.rf.tr (dST.of o36 (by decide))).L.mpr (vL4 (by decide))) ((o36 70 _ (by decide)).trans rfl) (fun r41 => ?_)
        refine V_icmp_ge (tgt := 70) dX3_isNoneHeldTwice_44 (by decide) (by omega) (by omega) (fun q44 => ?_) (fun q44 => ?_)
        · refine V_iconst dX3_isNoneHeldTwice_70 ?_
          refine V_istore_n (lc' := [_, _]) dX3_isNoneHeldTwice_71 (by decide) rfl ?_
          have lp72 : ∀ k72 : Int, ∀ M72 : MS, (0 ≤ k72 ∧ k72 ≤ D 92 0 ∧ M72 = dNs D (dNp D (D 91 0).toNat) k72.toNat) → ∀ h, DR h A M72 N U → FD h0 h → V g m_X3_isNoneHeldTwice 5 (Qd h0 A N U (some (xI (pI (dN1 D)))) (dNt D)) h 72 [xR 8, xI k72] [] := by
            refine lp_up (D 92 0) (fun k72 ih72 => ?_)
            intro M72 hk h hM hF
            obtain ⟨k72l, k72u, k72e⟩ := hk
            have oI36 := dNp_o hI hz0 (D 91 0).toNat
            obtain ⟨o36, hI36, b36⟩ := oI36
            have oI72 := dNs_o (D0 := D) hI36 b36 k72.toNat
            rw [← k72e] at oI72
            obtain ⟨o72, hI72, b72⟩ := oI72
            have o72 : OnlyF [29] D M72 := o36.tr o72
            obtain ⟨e90_72, e91_72, e92_72, -⟩ : dST D M72 := (dST.rf.tr (dST.of o72 (by decide)))
            have n72 := hI72.n
            refine V_iload_n dX3_isNoneHeldTwice_72 rfl ?_
            refine V_aload_n dX3_isNoneHeldTwice_73 rfl ?_
            refine V_dgr (f := 8) (i := 0) (b := 13) dX3_isNoneHeldTwice_74 fg_RX3_26 rfl rfl hM.fx.1 hM ((dST.rf.tr (dST.of o72 (by decide))).A.mpr (vAx (by decide))) hM.s.1.2.2.2.2.1 ?_
            refine V_dSz (l := 47) (w := D 70 47) dX3_isNoneHeldTwice_77 c_RX3_69 rfl (by decide) (Nat.le_of_ble_eq_true rfl) hM.fx.2.2.2.2.2.2.1 hM ((dST.rf.tr (dST.of o72 (by decide))).L.mpr (vL4 (by decide))) ((o72 70 _ (by decide)).trans rfl) (fun r77 => ?_)
            refine V_icmp_ge (tgt := 125) dX3_isNoneHeldTwice_80 (by decide) (by omega) (by omega) (fun q80 => ?_) (fun q80 => ?_)
            · refine V_iconst dX3_isNoneHeldTwice_125 ?_
              refine V_istore_n (lc' := [_, _]) dX3_isNoneHeldTwice_126 (by decide) rfl ?_
              have e72 : M72 = dNt D := by rw [k72e, show k72 = D 92 0 by omega]; rfl
              have lp127 : ∀ k127 : Int, (0 ≤ k127 ∧ k127 ≤ D 90 0 ∧ ∀ j : Int, 0 ≤ j → j < k127 → M72 29 j ≤ 1) → ∀ h, DR h A M72 N U → FD h0 h → V g m_X3_isNoneHeldTwice 5 (Qd h0 A N U (some (xI (pI (dN1 D)))) (dNt D)) h 127 [xR 8, xI k127] [] := by
                refine lp_up (D 90 0) (fun k127 ih127 => ?_)
                intro hk h hM hF
                obtain ⟨k127l, k127u, k127A⟩ := hk
                refine V_iload_n dX3_isNoneHeldTwice_127 rfl ?_
                refine V_aload_n dX3_isNoneHeldTwice_128 rfl ?_
                refine V_dgr (f := 8) (i := 0) (b := 10) dX3_isNoneHeldTwice_129 fg_RX3_16 rfl rfl hM.fx.1 hM ((dST.rf.tr (dST.of o72 (by decide))).A.mpr (vAx (by decide))) hM.s.1.2.1 ?_
                refine V_dSz (l := 45) (w := D 70 45) dX3_isNoneHeldTwice_132 c_RX3_69 rfl (by decide) (Nat.le_of_ble_eq_true rfl) hM.fx.2.2.2.1 hM ((dST.rf.tr (dST.of o72 (by decide))).L.mpr (vL4 (by decide))) ((o72 70 _ (by decide)).trans rfl) (fun r132 => ?_)
                refine V_icmp_ge (tgt := 164) dX3_isNoneHeldTwice_135 (by decide) (by omega) (by omega) (fun q135 => ?_) (fun q135 => ?_)
                · refine V_iconst dX3_isNoneHeldTwice_164 ?_
                  refine V_zret (by first | exact pI_01 _ | omega) dX3_isNoneHeldTwice_165 rfl ?_
                  refine dret hM hF ?_ e72
                  rw [pI_t]
                  intro j a b
                  rw [← e72]
                  exact k127A j a (by omega)
                · refine V_aload_n dX3_isNoneHeldTwice_138 rfl ?_
                  refine V_dgr (f := 8) (i := 0) (b := 10) dX3_isNoneHeldTwice_139 fg_RX3_16 rfl rfl hM.fx.1 hM ((dST.rf.tr (dST.of o72 (by decide))).A.mpr (vAx (by decide))) hM.s.1.2.1 ?_
                  refine V_iload_n dX3_isNoneHeldTwice_142 rfl ?_
                  refine V_dG45 dX3_isNoneHeldTwice_143 c_RX3_132 rfl (by decide) (Nat.le_of_ble_eq_true rfl) hM (by rw [show M72 70 45 = D 70 45 from ((o72 70 _ (by decide)).trans rfl)]; omega) (((o72 71 _ (by decide)).trans rfl).trans (hI.q (by omega))) ?_
                  refine V_ckc dX3_isNoneHeldTwice_146 k_RX3_75 (hM.kd (f := 0) ((dST.rf.tr (dST.of o72 (by decide))).A.mpr (vAq (by decide) (by omega)))) ?_
                  refine V_dg (f := 0) (F := 29) (i := k127) (t := k127) (w := M72 29 k127) dX3_isNoneHeldTwice_149 fg_RX3_372 rfl rfl rfl rfl hM ((dST.rf.tr (dST.of o72 (by decide))).F.mpr (vFq (by decide) (by omega))) rfl (fun r149 => ?_)
                  refine V_iconst dX3_isNoneHeldTwice_152 ?_
                  refine V_icmp_le (tgt := 158) dX3_isNoneHeldTwice_153 (by decide) (by omega) (by omega) (fun q153 => ?_) (fun q153 => ?_)
                  · refine V_iinc (lc' := [_, _]) dX3_isNoneHeldTwice_158 rfl (by decide) rfl ?_
                    refine V_goto (tgt := 127) dX3_isNoneHeldTwice_161 (by decide) ?_
                    exact ih127 (by omega) ⟨by omega, by omega, all_succ k127A (by omega)⟩ h hM hF
                  · refine V_iconst dX3_isNoneHeldTwice_156 ?_
                    refine V_zret (by first | exact pI_01 _ | omega) dX3_isNoneHeldTwice_157 rfl ?_
                    refine dret hM hF ?_ e72
                    rw [pI_f]
                    intro w
                    have := w k127 (by omega) (by omega)
                    rw [← e72] at this
                    omega
              exact lp127 0 ⟨by omega, by omega, fun j a b => absurd b (by omega)⟩ h hM hF
            · refine V_aload_n dX3_isNoneHeldTwice_83 rfl ?_
              refine V_dgr (f := 8) (i := 0) (b := 13) dX3_isNoneHeldTwice_84 fg_RX3_26 rfl rfl hM.fx.1 hM ((dST.rf.tr (dST.of o72 (by decide))).A.mpr (vAx (by decide))) hM.s.1.2.2.2.2.1 ?_
              refine V_iload_n dX3_isNoneHeldTwice_87 rfl ?_
              refine V_dG47 dX3_isNoneHeldTwice_88 c_RX3_132 rfl (by decide) (Nat.le_of_ble_eq_true rfl) hM (by rw [show M72 70 47 = D 70 47 from ((o72 70 _ (by decide)).trans rfl)]; omega) (((o72 71 _ (by decide)).trans rfl).trans (hI.s (by omega))) ?_
              refine V_ckc dX3_isNoneHeldTwice_91 k_RX3_217 (hM.kd (f := 4) ((dST.rf.tr (dST.of o72 (by decide))).A.mpr (vAs (by decide) (by omega)))) ?_
              refine V_dg (f := 4) (F := 60) (i := k72) (t := k72) (w := D 60 k72) dX3_isNoneHeldTwice_94 fg_RX3_240 rfl rfl rfl rfl hM ((dST.rf.tr (dST.of o72 (by decide))).F.mpr (vFs (by omega))) ((o72 60 _ (by decide)).trans rfl) (fun r94 => ?_)
              have b94 := hI.a60 k72
              refine V_bipush dX3_isNoneHeldTwice_97 (by decide) ?_
              refine V_icmp_ne (tgt := 119) dX3_isNoneHeldTwice_99 (by decide) (by omega) (by omega) (fun q99 => ?_) (fun q99 => ?_)
              · refine V_iinc (lc' := [_, _]) dX3_isNoneHeldTwice_119 rfl (by decide) rfl ?_
                refine V_goto (tgt := 72) dX3_isNoneHeldTwice_122 (by decide) ?_
                exact ih72 (by omega) M72 ⟨by omega, by omega, by rw [dNs_s k72l, ← k72e]; first | (rw [if_pos q99]; exact eN116) | (rw [if_neg q99])⟩ h hM hF
              · refine V_aload_n dX3_isNoneHeldTwice_102 rfl ?_
                refine V_dgr (f := 8) (i := 0) (b := 13) dX3_isNoneHeldTwice_103 fg_RX3_26 rfl rfl hM.fx.1 hM ((dST.rf.tr (dST.of o72 (by decide))).A.mpr (vAx (by decide))) hM.s.1.2.2.2.2.1 ?_
                refine V_iload_n dX3_isNoneHeldTwice_106 rfl ?_
                refine V_dG47 dX3_isNoneHeldTwice_107 c_RX3_132 rfl (by decide) (Nat.le_of_ble_eq_true rfl) hM (by rw [show M72 70 47 = D 70 47 from ((o72 70 _ (by decide)).trans rfl)]; omega) (((o72 71 _ (by decide)).trans rfl).trans (hI.s (by omega))) ?_
                refine V_ckc dX3_isNoneHeldTwice_110 k_RX3_217 (hM.kd (f := 4) ((dST.rf.tr (dST.of o72 (by decide))).A.mpr (vAs (by decide) (by omega)))) ?_
                refine V_dgr (f := 4) (i := k72) (b := (A 6 (15 + k72))) dX3_isNoneHeldTwice_113 fg_RX3_239 rfl rfl rfl hM ((dST.rf.tr (dST.of o72 (by decide))).A.mpr (vAs (by decide) (by omega))) (hM.s.2.2.2.2 k72 (by rw [((dST.rf.tr (dST.of o72 (by decide))) : dST D M72).2.2.1]; omega)).1 ?_
                refine V_dS (as := [_]) dX3_isNoneHeldTwice_116 c_RX3_375 rfl (by decide) rfl (Nat.le_of_ble_eq_true rfl) hM hF (T_X3_countHolder g A N U M72 (15 + k72) hI72 ((dST.rf.tr (dST.of o72 (by decide))).L.mpr (vLs (by omega))) (by omega) (3000 + 40 * (D 91 0).toNat + 40 * 30) (fun k => by have := b72 k; omega) (by omega)) (fun h hM hF => ?_)
                obtain ⟨N116, eN116⟩ : ∃ X, X = dCh M72 (15 + k72) (M72 70 (15 + k72)).toNat := ⟨_, rfl⟩
                rw [← eN116] at hM
                obtain ⟨oN116, hIN116⟩ := dCh_o2 (D := M72) (15 + k72) hI72 ((dST.rf.tr (dST.of o72 (by decide))).L.mpr (vLs (by omega))) (by omega) (3000 + 40 * (D 91 0).toNat + 40 * 30) (fun k => by have := b72 k; omega) (by omega)
                rw [← eN116] at oN116 hIN116
                obtain ⟨e90_116, e91_116, e92_116, -⟩ : dST D N116 := ((dST.rf.tr (dST.of o72 (by decide))).tr (dST.of oN116 (by decide)))
                have n116 := hIN116.n
                refine V_iinc (lc' := [_, _]) dX3_isNoneHeldTwice_119 rfl (by decide) rfl ?_
                refine V_goto (tgt := 72) dX3_isNoneHeldTwice_122 (by decide) ?_
                exact ih72 (by omega) N116 ⟨by omega, by omega, by rw [dNs_s k72l, ← k72e]; first | (rw [if_pos q99]; exact eN116) | (rw [if_neg q99])⟩ h hM hF
          exact lp72 0 M36 ⟨by omega, by omega, by rw [k36e, show k36 = D 91 0 by omega]; rfl⟩ h hM hF
        · refine V_aload_n dX3_isNoneHeldTwice_47 rfl ?_
          refine V_dgr (f := 8) (i := 0) (b := 12) dX3_isNoneHeldTwice_48 fg_RX3_23 rfl rfl hM.fx.1 hM ((dST.rf.tr (dST.of o36 (by decide))).A.mpr (vAx (by decide))) hM.s.1.2.2.2.1 ?_
          refine V_iload_n dX3_isNoneHeldTwice_51 rfl ?_
          refine V_dG46 dX3_isNoneHeldTwice_52 c_RX3_132 rfl (by decide) (Nat.le_of_ble_eq_true rfl) hM (by rw [show M36 70 46 = D 70 46 from ((o36 70 _ (by decide)).trans rfl)]; omega) (((o36 71 _ (by decide)).trans rfl).trans (hI.p (by omega))) ?_
          refine V_ckc dX3_isNoneHeldTwice_55 k_RX3_168 (hM.kd (f := 3) ((dST.rf.tr (dST.of o36 (by decide))).A.mpr (vAp (by omega)))) ?_
          refine V_dgr (f := 3) (i := k36) (b := (A 6 (3 + k36))) dX3_isNoneHeldTwice_58 fg_RX3_183 rfl rfl rfl hM ((dST.rf.tr (dST.of o36 (by decide))).A.mpr (vAp (by omega))) (hM.s.2.2.2.1 k36 (by rw [((dST.rf.tr (dST.of o36 (by decide))) : dST D M36).2.1]; omega)) ?_
          refine V_dS (as := [_]) dX3_isNoneHeldTwice_61 c_RX3_375 rfl (by decide) rfl (Nat.le_of_ble_eq_true rfl) hM hF (T_X3_countHolder g A N U M36 (3 + k36) hI36 ((dST.rf.tr (dST.of o36 (by decide))).L.mpr (vLp (by omega))) (by omega) (3000 + 40 * 12) (fun k => by have := b36 k; omega) (by omega)) (fun h hM hF => ?_)
          obtain ⟨N61, eN61⟩ : ∃ X, X = dCh M36 (3 + k36) (M36 70 (3 + k36)).toNat := ⟨_, rfl⟩
          rw [← eN61] at hM
          obtain ⟨oN61, hIN61⟩ := dCh_o2 (D := M36) (3 + k36) hI36 ((dST.rf.tr (dST.of o36 (by decide))).L.mpr (vLp (by omega))) (by omega) (3000 + 40 * 12) (fun k => by have := b36 k; omega) (by omega)
          rw [← eN61] at oN61 hIN61
          obtain ⟨e90_61, e91_61, e92_61, -⟩ : dST D N61 := ((dST.rf.tr (dST.of o36 (by decide))).tr (dST.of oN61 (by decide)))
          have n61 := hIN61.n
          refine V_iinc (lc' := [_, _]) dX3_isNoneHeldTwice_64 rfl (by decide) rfl ?_
          refine V_goto (tgt := 36) dX3_isNoneHeldTwice_67 (by decide) ?_
          exact ih36 (by omega) N61 ⟨by omega, by omega, by rw [dNp_s k36l, ← k36e]; exact eN61⟩ h hM hF
      exact lp36 0 M2 ⟨by omega, by omega, by rw [k2e, show k2 = D 90 0 by omega]; rfl⟩ h hM hF
    · refine V_aload_n dX3_isNoneHeldTwice_13 rfl ?_
      refine V_dgr (f := 8) (i := 0) (b := 10) dX3_isNoneHeldTwice_14 fg_RX3_16 rfl rfl hM.fx.1 hM ((dST.rf.tr (dST.of o2 (by decide))).A.mpr (vAx (by decide))) hM.s.1.2.1 ?_
      refine V_iload_n dX3_isNoneHeldTwice_17 rfl ?_
      refine V_dG45 dX3_isNoneHeldTwice_18 c_RX3_132 rfl (by decide) (Nat.le_of_ble_eq_true rfl) hM (by rw [show M2 70 45 = D 70 45 from ((o2 70 _ (by decide)).trans rfl)]; omega) (((o2 71 _ (by decide)).trans rfl).trans (hI.q (by omega))) ?_
      refine V_ckc dX3_isNoneHeldTwice_21 k_RX3_75 (hM.kd (f := 0) ((dST.rf.tr (dST.of o2 (by decide))).A.mpr (vAq (by decide) (by omega)))) ?_
      refine V_iconst dX3_isNoneHeldTwice_24 ?_
      refine V_dp (f := 0) (F := 29) (i := k2) (t := k2) dX3_isNoneHeldTwice_25 f_RX3_372 rfl rfl rfl rfl hM hF ((dST.rf.tr (dST.of o2 (by decide))).F.mpr (vFq (by decide) (by omega))) (by omega) (fun h hM hF => ?_)
      refine V_iinc (lc' := [_, _]) dX3_isNoneHeldTwice_28 rfl (by decide) rfl ?_
      refine V_goto (tgt := 2) dX3_isNoneHeldTwice_31 (by decide) ?_
      exact ih2 (by omega) (mset M2 29 k2 0) ⟨by omega, by omega, by rw [dZr_s k2l, ← k2e]⟩ h hM hF
  exact lp2 0 D ⟨by omega, by omega, rfl⟩ h hM hF
theorem T_X3_isSound (g : GP) (N U : Nat) (D : MS)   (hI : ID D) (hz0 : ∀ k, 0 ≤ D 29 k ∧ D 29 k ≤ 3000) (hN : N + 200 ≤ z_CC) (hU : U + 5000 ≤ z_CS) : TX g m_X3_isSound 8 [xR 8] N U D (d_isSound D) := by
  refine TX.of (by decide) rfl (fun v hv => ?_) (Nat.le_of_ble_eq_true rfl) ?_
  · simp only [List.mem_cons, List.not_mem_nil, or_false] at hv
    subst hv; first | exact Or.inl ⟨_, rfl⟩ | exact Or.inr ⟨_, rfl⟩
  intro A h0 h hM hF
  obtain ⟨i90, i91, i92⟩ := hI.n
  obtain ⟨c90, c91, c92⟩ := hI.c
  obtain ⟨⟨z90, -⟩, ⟨z91, -⟩, z92, -⟩ := hM.b.2.2.1
  change V g m_X3_isSound 8 _ h 0 [xR 8] []
  refine V_aload_n dX3_isSound_0 rfl ?_
  refine V_pV (as := []) dX3_isSound_1 c_RX3_304 rfl (by decide) rfl (Nat.le_of_ble_eq_true rfl) hM.kx (T_X3_areLevelsAsAnswered g hM  hI) ?_
  refine V_ifb_eq (tgt := 25) dX3_isSound_4 (by decide) (fun q4 => ?_) (fun q4 => ?_)
  · refine V_iconst dX3_isSound_25 ?_
    refine V_zret (by first | exact pI_01 _ | omega) dX3_isSound_26 rfl ?_
    exact qret hM hF hN hU (by unfold d_isSound; first | (rw [if_neg q4]; done) | (rw [if_pos q4, if_neg q11, eN8]; done) | (rw [if_pos q4, if_pos q11, ← eN8, pI_t q18]; done) | (rw [if_pos q4, if_pos q11, ← eN8, pI_f q18]; done)) rfl
  · refine V_aload_n dX3_isSound_7 rfl ?_
    refine V_dC (as := []) dX3_isSound_8 c_RX3_307 rfl (by decide) rfl (Nat.le_of_ble_eq_true rfl) hM.kx hM hF (T_X3_isNoneHeldTwice g A N U D  hI hz0) (fun h hM hF => ?_)
    obtain ⟨N8, eN8⟩ : ∃ X, X = dNt D := ⟨_, rfl⟩
    rw [← eN8] at hM
    obtain ⟨oN8, hIN8⟩ := dNt_o (D := D)  hI hz0
    rw [← eN8] at oN8 hIN8
    obtain ⟨e90_8, e91_8, e92_8, -⟩ : dST D N8 := (dST.rf.tr (dST.of oN8 (by decide)))
    have n8 := hIN8.n
    refine V_ifb_eq (tgt := 25) dX3_isSound_11 (by decide) (fun q11 => ?_) (fun q11 => ?_)
    · refine V_iconst dX3_isSound_25 ?_
      refine V_zret (by first | exact pI_01 _ | omega) dX3_isSound_26 rfl ?_
      exact qret hM hF hN hU (by unfold d_isSound; first | (rw [if_neg q4]; done) | (rw [if_pos q4, if_neg q11, eN8]; done) | (rw [if_pos q4, if_pos q11, ← eN8, pI_t q18]; done) | (rw [if_pos q4, if_pos q11, ← eN8, pI_f q18]; done)) rfl
    · refine V_aload_n dX3_isSound_14 rfl ?_
      refine V_pV (as := []) dX3_isSound_15 c_RX3_310 rfl (by decide) rfl (Nat.le_of_ble_eq_true rfl) hM.kx (T_X3_arePlansKept g hM  hIN8) ?_
      refine V_ifb_eq (tgt := 25) dX3_isSound_18 (by decide) (fun q18 => ?_) (fun q18 => ?_)
      · refine V_iconst dX3_isSound_25 ?_
        refine V_zret (by first | exact pI_01 _ | omega) dX3_isSound_26 rfl ?_
        exact qret hM hF hN hU (by unfold d_isSound; first | (rw [if_neg q4]; done) | (rw [if_pos q4, if_neg q11, eN8]; done) | (rw [if_pos q4, if_pos q11, ← eN8, pI_t q18]; done) | (rw [if_pos q4, if_pos q11, ← eN8, pI_f q18]; done)) rfl
      · refine V_iconst dX3_isSound_21 ?_
        refine V_goto (tgt := 26) dX3_isSound_22 (by decide) ?_
        refine V_zret (by first | exact pI_01 _ | omega) dX3_isSound_26 rfl ?_
        exact qret hM hF hN hU (by unfold d_isSound; first | (rw [if_neg q4]; done) | (rw [if_pos q4, if_neg q11, eN8]; done) | (rw [if_pos q4, if_pos q11, ← eN8, pI_t q18]; done) | (rw [if_pos q4, if_pos q11, ← eN8, pI_f q18]; done)) rfl

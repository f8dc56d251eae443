noncomputable def d_add (D : MS) (lv : Int) : Res × MS := if lv < 0 ∨ 100 < lv then (.inr eIA, D) else if D 1 0 = 0 then (.inr eUO, D) else if 40 ≤ D 90 0 then (.inr eIS, D) else (rI (D 90 0), dSet (mset (dAd (dNq D lv) 45 (D 90 0)) 1 0 0))
noncomputable def d_plan (D : MS) (w kd n : Int) : Res × MS := if w < D 6 0 ∨ 999 < w then (.inr eIA, D) else if ¬ (kd = 101 ∨ kd = 109 ∨ kd = 104) then (.inr eIA, D) else if n < 1 ∨ 9 < n then (.inr eIA, D) else if 12 ≤ D 91 0 then (.inr eIS, D) else (rI (D 91 0), dSet (dAd (dMp D w kd n) 46 (D 91 0)))
theorem tl_add (g : GP) (A : AD) (N U : Nat) (D : MS) (lv n : Int) (hI : ID D) {Q : Res → AH → Prop} {h0 : AH} (kq : ∀ h, DR h A (dSet (mset D 1 0 0)) N U → FD h0 h → Q (rI n) h) : ∀ h, DR h A D N U → FD h0 h → V g m_X3_add 11 Q h 94 [xR 8, xI lv, xI n] [xI 1] := by
  intro h hM hF
  obtain ⟨i90, i91, i92⟩ := hI.n
  obtain ⟨c90, c91, c92⟩ := hI.c
  obtain ⟨⟨z90, -⟩, ⟨z91, -⟩, z92, -⟩ := hM.b.2.2.1
  refine V_pop dX3_add_94 rfl ?_
  refine V_aload_n dX3_add_95 rfl ?_
  refine V_iconst dX3_add_96 ?_
  refine V_dp (f := 8) (F := 1) (i := 0) (t := 0) dX3_add_97 f_RX3_53 rfl rfl rfl hM.fx.1 hM hF (vFx (by decide)) (by omega) (fun h hM hF => ?_)
  refine V_aload_n dX3_add_100 rfl ?_
  have hJ101 : ID (mset D 1 0 0) := hI.s1 (by decide)
  refine V_dC (as := []) dX3_add_101 c_RX3_90 rfl (by decide) rfl (Nat.le_of_ble_eq_true rfl) hM.kx hM hF (T_X3_settlePlans g A N U (mset D 1 0 0)  hJ101) (fun h hM hF => ?_)
  obtain ⟨N101, eN101⟩ : ∃ X, X = dSet (mset D 1 0 0) := ⟨_, rfl⟩
  rw [← eN101] at hM
  obtain ⟨oN101, hIN101⟩ := dSet_o (D := (mset D 1 0 0))  hJ101
  rw [← eN101] at oN101 hIN101
  obtain ⟨e90_101, e91_101, e92_101, -⟩ : dST D N101 := ((dST.rf.st (by decide)).tr (dST.of oN101 (by decide)))
  have n101 := hIN101.n
  refine V_iload_n dX3_add_104 rfl ?_
  refine V_iret dX3_add_105 rfl ?_
  rw [eN101] at hM
  exact kq _ hM hF
theorem tl_plan (g : GP) (A : AD) (N U : Nat) (D : MS) (w kd n : Int) (hI : ID D) {Q : Res → AH → Prop} {h0 : AH} (kq : ∀ h, DR h A (dSet D) N U → FD h0 h → Q (rI (D 70 46 - 1)) h) : ∀ h, DR h A D N U → FD h0 h → V g m_X3_plan 11 Q h 111 [xR 8, xI w, xI kd, xI n] [xI 1] := by
  intro h hM hF
  obtain ⟨i90, i91, i92⟩ := hI.n
  obtain ⟨c90, c91, c92⟩ := hI.c
  obtain ⟨⟨z90, -⟩, ⟨z91, -⟩, z92, -⟩ := hM.b.2.2.1
  refine V_pop dX3_plan_111 rfl ?_
  refine V_aload_n dX3_plan_112 rfl ?_
  refine V_dC (as := []) dX3_plan_113 c_RX3_90 rfl (by decide) rfl (Nat.le_of_ble_eq_true rfl) hM.kx hM hF (T_X3_settlePlans g A N U D  hI) (fun h hM hF => ?_)
  obtain ⟨N113, eN113⟩ : ∃ X, X = dSet D := ⟨_, rfl⟩
  rw [← eN113] at hM
  obtain ⟨oN113, hIN113⟩ := dSet_o (D := D)  hI
  rw [← eN113] at oN113 hIN113
  obtain ⟨e90_113, e91_113, e92_113, -⟩ : dST D N113 := (dST.rf.tr (dST.of oN113 (by decide)))
  have n113 := hIN113.n
  refine V_aload_n dX3_plan_116 rfl ?_
  refine V_dgr (f := 8) (i := 0) (b := 12) dX3_plan_117 fg_RX3_23 rfl rfl hM.fx.1 hM ((dST.rf.tr (dST.of oN113 (by decide))).A.mpr (vAx (by decide))) hM.s.1.2.2.2.1 ?_
  refine V_dSz (l := 46) (w := N113 70 46) dX3_plan_120 c_RX3_69 rfl (by decide) (Nat.le_of_ble_eq_true rfl) hM.fx.2.2.2.2.2.1 hM ((dST.rf.tr (dST.of oN113 (by decide))).L.mpr (vL4 (by decide))) rfl (fun r120 => ?_)
  refine V_iconst dX3_plan_123 ?_
  refine V_isub dX3_plan_124 ?_
  refine V_iret dX3_plan_125 rfl ?_
  have e46 : N113 70 46 = D 70 46 := by rw [eN113]; exact dSet_S hI 70 46 (by decide) (by omega) (by omega)
  rw [e46]
  rw [eN113] at hM
  exact kq _ hM hF
theorem T_X3_add (g : GP) (N U : Nat) (D : MS) (lv : Int) (r_lv : -2147483648 ≤ lv ∧ lv ≤ 2147483647) (hI : ID D) (hN : N + 200 ≤ z_CC) (hU : U + 5000 ≤ z_CS) : TX g m_X3_add 11 [xR 8, xI lv] N U D (d_add D lv) := by
  refine TX.of (by decide) rfl (fun v hv => ?_) (Nat.le_of_ble_eq_true rfl) ?_
  · simp only [List.mem_cons, List.not_mem_nil, or_false] at hv
    rcases hv with rfl | rfl <;> first | exact Or.inl ⟨_, rfl⟩ | exact Or.inr ⟨_, rfl⟩
  intro A h0 h hM hF
  obtain ⟨i90, i91, i92⟩ := hI.n
  obtain ⟨c90, c91, c92⟩ := hI.c
  obtain ⟨⟨z90, -⟩, ⟨z91, -⟩, z92, -⟩ := hM.b.2.2.1
  change V g m_X3_add 11 _ h 0 [xR 8, xI lv, xU] []
  refine V_iload_n dX3_add_0 rfl ?_
  refine V_iconst dX3_add_1 ?_
  refine V_bipush dX3_add_2 (by decide) ?_
  refine V_pS (as := [_, _, _]) dX3_add_4 c_RX3_42 rfl (by decide) rfl (Nat.le_of_ble_eq_true rfl) (T_X3_isOutside g hM lv 0 100 (by omega) (by omega) (by omega)) ?_
  refine V_ifb_eq (tgt := 20) dX3_add_7 (by decide) (fun q7 => ?_) (fun q7 => ?_)
  · refine V_aload_n dX3_add_20 rfl ?_
    refine V_dg (f := 8) (F := 1) (i := 0) (t := 0) (w := D 1 0) dX3_add_21 fg_RX3_53 rfl rfl rfl hM.fx.1 hM (vFx (by decide)) rfl (fun r21 => ?_)
    have b21 := hI.a1
    refine V_if_ne (tgt := 37) dX3_add_24 (by decide) (by omega) (fun q24 => ?_) (fun q24 => ?_)
    · refine V_aload_n dX3_add_37 rfl ?_
      refine V_dgr (f := 8) (i := 0) (b := 10) dX3_add_38 fg_RX3_16 rfl rfl hM.fx.1 hM (vAx (by decide)) hM.s.1.2.1 ?_
      refine V_dSz (l := 45) (w := D 70 45) dX3_add_41 c_RX3_69 rfl (by decide) (Nat.le_of_ble_eq_true rfl) hM.fx.2.2.2.1 hM (vL4 (by decide)) rfl (fun r41 => ?_)
      refine V_bipush dX3_add_44 (by decide) ?_
      refine V_icmp_lt (tgt := 59) dX3_add_46 (by decide) (by omega) (by omega) (fun q46 => ?_) (fun q46 => ?_)
      · refine V_aload_n dX3_add_59 rfl ?_
        refine V_dgr (f := 8) (i := 0) (b := 10) dX3_add_60 fg_RX3_16 rfl rfl hM.fx.1 hM (vAx (by decide)) hM.s.1.2.1 ?_
        refine V_dSz (l := 45) (w := D 70 45) dX3_add_63 c_RX3_69 rfl (by decide) (Nat.le_of_ble_eq_true rfl) hM.fx.2.2.2.1 hM (vL4 (by decide)) rfl (fun r63 => ?_)
        refine V_istore_n (lc' := [_, _, _]) dX3_add_66 (by decide) rfl ?_
        refine V_aload_n dX3_add_67 rfl ?_
        refine V_dgr (f := 8) (i := 0) (b := 10) dX3_add_68 fg_RX3_16 rfl rfl hM.fx.1 hM (vAx (by decide)) hM.s.1.2.1 ?_
        have hb := hM.b
        have b1 := hI.a1
        have h41 := hb.2.1
        have hrm := hM.room
        obtain ⟨L, eL⟩ : ∃ L : Nat, D 1 0 = (L : Int) := ⟨(D 1 0).toNat, by omega⟩
        have e1 := hM.ld (F := 1) (t := 0) (vFx (by decide))
        have e1 : h_i h (A 8 0) 1 = D 1 0 := e1
        rw [hM.fx.1, eL] at e1
        have k9 := hM.kd (f := 9) (i := 0) (vAx (by decide))
        rw [hM.fx.2.1] at k9
        have k9 : h_k (h_mk h 7 0 11) 9 = 22 := (mk_k (k := 7) (n := 0) (N := 11) (by omega)).trans k9
        have l9 : h_l (h_mk h 7 0 11) 9 = 6 := (mk_l (k := 7) (n := 0) (N := 11) (by omega)).trans hM.s.2.1
        have k8 : h_k (h_mk h 7 0 11) 8 = 9 := (mk_k (k := 7) (n := 0) (N := 11) (by omega)).trans hM.kx
        have n1 : h_n (h_mk h 7 0 11) = h_n h + 1 := rfl
        have u1 : h_u (h_mk h 7 0 11) = h_u h + 11 := rfl
        refine V_new (N := 11) dX3_add_71 n_RX3_75 rfl (by omega) (by omega) ?_
        show V g m_X3_add _ _ (h_mk h 7 0 11) _ _ _
        refine V_dup dX3_add_74 cat_R ?_
        refine V_iload_n dX3_add_75 rfl ?_
        refine V_aload_n dX3_add_76 rfl ?_
        refine V_getRv (v := 9) dX3_add_77 fg_RX3_9 rfl k8 ((mk_r (k := 7) (n := 0) (N := 11) (by omega)).trans hM.s.1.1) ?_
        refine V_aload_n dX3_add_80 rfl ?_
        refine V_getIv (z := (L : Int)) dX3_add_81 fg_RX3_53 rfl k8 ((mk_i (k := 7) (n := 0) (N := 11) (by omega)).trans e1) ?_
        refine V_cS (as := [_, _]) dX3_add_84 c_RX3_77 rfl (by decide) rfl (Nat.le_of_ble_eq_true rfl) (T_cpoI g 9 6 L k9 l9 (by omega) (by omega) (by omega) (by omega) (by omega)) (fun _ _ z => nomatch z.1) (fun v9 h9 p9 => ?_)
        obtain ⟨p1, p2⟩ := p9
        cases p1
        have cf := CpF.of k9 l9 (by omega) (by omega) p2
        have hh := hM.newQ2 hI (by omega) eL (lv := lv) (by omega) cf hN hU
        obtain ⟨f1, f2, f3, f4, f5, f6, f7⟩ := cf
        refine V_iload_n dX3_add_87 rfl ?_
        refine V_cI (as := [_, _, _]) dX3_add_88 c_RX3_83 rfl (by decide) rfl (Nat.le_of_ble_eq_true rfl) (by omega) (T_X1_init g (h_n h) (h_n h + 1) (D 70 45) lv ((f1 _ (by omega)).1.trans (mk_ks (k := 7) (n := 0) (N := 11))) (by omega) (by omega) (by omega) (by omega)) (fun v9 h10 p10 => ?_)
        obtain ⟨p3, rfl⟩ := p10
        cases p3
        rw [i90] at hh
        have e45 : dNq D lv 70 45 = D 70 45 := dNq_d (by omega) (by omega) (by omega) (by omega)
        have e90 : dNq D lv 90 0 = D 90 0 + 1 := if_pos ⟨rfl, rfl⟩
        refine V_dAd (l := 45) (z := D 90 0) dX3_add_91 c_RX3_86 rfl (by decide) (Nat.le_of_ble_eq_true rfl) hh.1.fx.2.2.2.1 ((eAq (by decide)).trans (if_pos ⟨rfl, rfl⟩)) hh.1 (hh.2.fd h41 hF) (vL4 (by decide)) (by omega) ((vEq (by decide)).mpr (by omega)) (fun h hM hF => ?_)
        refine tl_add g _ _ _ _ lv (D 70 45) (dNq_I hI (by omega) (by omega)) (fun h9 hM9 hF9 => ?_) h hM hF
        exact ⟨by unfold d_add; rw [if_neg (by omega), if_neg (by omega), if_neg (by omega), ← i90], ⟨_, by unfold d_add; rw [if_neg (by omega), if_neg (by omega), if_neg (by omega)]; exact hM9⟩, hF9⟩
      · refine V_throw dX3_add_49 dX3_add_52 dX3_add_53 dX3_add_55 dX3_add_58 t_RX3_57_73 rfl (by decide) (by have := hM.room; omega) (by have := hM.room; omega) (fun n9 n9a n9b => ?_)
        exact qthr hM hF hN hU n9a n9b (by unfold d_add; (repeat' split) <;> first | rfl | (exfalso; omega)) rfl
    · refine V_throw dX3_add_27 dX3_add_30 dX3_add_31 dX3_add_33 dX3_add_36 t_RX3_64_66 rfl (by decide) (by have := hM.room; omega) (by have := hM.room; omega) (fun n9 n9a n9b => ?_)
      exact qthr hM hF hN hU n9a n9b (by unfold d_add; (repeat' split) <;> first | rfl | (exfalso; omega)) rfl
  · refine V_throw dX3_add_10 dX3_add_13 dX3_add_14 dX3_add_16 dX3_add_19 t_RX3_46_62 rfl (by decide) (by have := hM.room; omega) (by have := hM.room; omega) (fun n9 n9a n9b => ?_)
    exact qthr hM hF hN hU n9a n9b (by unfold d_add; (repeat' split) <;> first | rfl | (exfalso; omega)) rfl
theorem T_X3_plan (g : GP) (N U : Nat) (D : MS) (w : Int) (kd : Int) (n : Int) (r_w : -2147483648 ≤ w ∧ w ≤ 2147483647) (r_kd : -2147483648 ≤ kd ∧ kd ≤ 2147483647) (r_n : -2147483648 ≤ n ∧ n ≤ 2147483647) (hI : ID D) (hk : 0 ≤ kd ∧ kd < 65536) (hN : N + 200 ≤ z_CC) (hU : U + 5000 ≤ z_CS) : TX g m_X3_plan 11 [xR 8, xI w, xI kd, xI n] N U D (d_plan D w kd n) := by
  refine TX.of (by decide) rfl (fun v hv => ?_) (Nat.le_of_ble_eq_true rfl) ?_
  · simp only [List.mem_cons, List.not_mem_nil, or_false] at hv
    rcases hv with rfl | rfl | rfl | rfl <;> first | exact Or.inl ⟨_, rfl⟩ | exact Or.inr ⟨_, rfl⟩
  intro A h0 h hM hF
  obtain ⟨i90, i91, i92⟩ := hI.n
  obtain ⟨c90, c91, c92⟩ := hI.c
  obtain ⟨⟨z90, -⟩, ⟨z91, -⟩, z92, -⟩ := hM.b.2.2.1
  change V g m_X3_plan 11 _ h 0 [xR 8, xI w, xI kd, xI n] []
  refine V_iload_n dX3_plan_0 rfl ?_
  refine V_aload_n dX3_plan_1 rfl ?_
  refine V_dg (f := 8) (F := 6) (i := 0) (t := 0) (w := D 6 0) dX3_plan_2 fg_RX3_155 rfl rfl rfl hM.fx.1 hM (vFx (by decide)) rfl (fun r2 => ?_)
  have b2 := hI.a6
  refine V_sipush dX3_plan_5 (by decide) ?_
  refine V_pS (as := [_, _, _]) dX3_plan_8 c_RX3_42 rfl (by decide) rfl (Nat.le_of_ble_eq_true rfl) (T_X3_isOutside g hM w (D 6 0) 999 (by omega) (by omega) (by omega)) ?_
  refine V_ifb_eq (tgt := 24) dX3_plan_11 (by decide) (fun q11 => ?_) (fun q11 => ?_)
  · refine V_iload_n dX3_plan_24 rfl ?_
    refine V_bipush dX3_plan_25 (by decide) ?_
    refine V_icmp_eq (tgt := 52) dX3_plan_27 (by decide) (by omega) (by omega) (fun q27 => ?_) (fun q27 => ?_)
    · refine V_iload_n dX3_plan_52 rfl ?_
      refine V_iconst dX3_plan_53 ?_
      refine V_bipush dX3_plan_54 (by decide) ?_
      refine V_pS (as := [_, _, _]) dX3_plan_56 c_RX3_42 rfl (by decide) rfl (Nat.le_of_ble_eq_true rfl) (T_X3_isOutside g hM n 1 9 (by omega) (by omega) (by omega)) ?_
      refine V_ifb_eq (tgt := 72) dX3_plan_59 (by decide) (fun q59 => ?_) (fun q59 => ?_)
      · refine V_aload_n dX3_plan_72 rfl ?_
        refine V_dgr (f := 8) (i := 0) (b := 12) dX3_plan_73 fg_RX3_23 rfl rfl hM.fx.1 hM (vAx (by decide)) hM.s.1.2.2.2.1 ?_
        refine V_dSz (l := 46) (w := D 70 46) dX3_plan_76 c_RX3_69 rfl (by decide) (Nat.le_of_ble_eq_true rfl) hM.fx.2.2.2.2.2.1 hM (vL4 (by decide)) rfl (fun r76 => ?_)
        refine V_bipush dX3_plan_79 (by decide) ?_
        refine V_icmp_lt (tgt := 94) dX3_plan_81 (by decide) (by omega) (by omega) (fun q81 => ?_) (fun q81 => ?_)
        · refine V_aload_n dX3_plan_94 rfl ?_
          refine V_dgr (f := 8) (i := 0) (b := 12) dX3_plan_95 fg_RX3_23 rfl rfl hM.fx.1 hM (vAx (by decide)) hM.s.1.2.2.2.1 ?_
          have hb := hM.b
          have h41 := hb.2.1
          have hrm := hM.room
          have n1 : h_n (h_mk h 6 0 5) = h_n h + 1 := rfl
          have u1 : h_u (h_mk h 6 0 5) = h_u h + 5 := rfl
          have b6 := hI.a6
          refine V_new (N := 5) dX3_plan_98 n_RX3_168 rfl (by omega) (by omega) ?_
          show V g m_X3_plan _ _ (h_mk h 6 0 5) _ _ _
          refine V_dup dX3_plan_101 cat_R ?_
          refine V_iload_n dX3_plan_102 rfl ?_
          refine V_iload_n dX3_plan_103 rfl ?_
          refine V_iload_n dX3_plan_104 rfl ?_
          refine V_cI (as := [_, _, _]) dX3_plan_105 c_RX3_170 rfl (by decide) rfl (Nat.le_of_ble_eq_true rfl) (by omega) (T_X0_init g (h_n h) w kd n (by omega) (mk_ks (k := 6) (n := 0) (N := 5)) (by omega) (by omega) (by omega) (by omega) (by omega)) (fun v9 h10 p10 => ?_)
          obtain ⟨p3, rfl⟩ := p10
          cases p3
          have hh := hM.newP2 (w := w) (kd := kd) (n := n) (by omega) (by omega) (by omega) (by omega) hN hU
          have e46 : dMp D w kd n 70 46 = D 70 46 := dMp_d (by omega) (by omega) (by omega)
          have e91 : dMp D w kd n 91 0 = D 91 0 + 1 := if_pos ⟨rfl, rfl⟩
          have eD : dAd (dMp D w kd n) 46 (D 91 0) 70 46 = D 70 46 + 1 := by
            show mset _ 70 46 (dMp D w kd n 70 46 + 1) 70 46 = _
            rw [mset_s, e46]
          refine V_dAd (l := 46) (z := D 91 0) dX3_plan_108 c_RX3_86 rfl (by decide) (Nat.le_of_ble_eq_true rfl) hh.1.fx.2.2.2.2.2.1 ((show eA (aMp A D (h_n h) (h_n h + 1)) 46 (D 91 0) = aMp A D (h_n h) (h_n h + 1) 3 (D 91 0) from rfl).trans (if_pos ⟨rfl, rfl⟩)) hh.1 (hh.2.fd h41 hF) (vL4 (by decide)) (by omega) (by unfold vE; rw [if_pos rfl]; omega) (fun h hM hF => ?_)
          refine tl_plan g _ _ _ _ w kd n (dMp_I hI (by omega) (by omega) (by omega) (by omega)) (fun h9 hM9 hF9 => ?_) h hM hF
          exact ⟨by unfold d_plan; rw [if_neg (by omega), if_neg (by omega), if_neg (by omega), if_neg (by omega), eD, i91, Int.add_sub_cancel], ⟨_, by unfold d_plan; rw [if_neg (by omega), if_neg (by omega), if_neg (by omega), if_neg (by omega)]; exact hM9⟩, hF9⟩
        · refine V_throw dX3_plan_84 dX3_plan_87 dX3_plan_88 dX3_plan_90 dX3_plan_93 t_RX3_57_166 rfl (by decide) (by have := hM.room; omega) (by have := hM.room; omega) (fun n9 n9a n9b => ?_)
          exact qthr hM hF hN hU n9a n9b (by unfold d_plan; (repeat' split) <;> first | rfl | (exfalso; omega)) rfl
      · refine V_throw dX3_plan_62 dX3_plan_65 dX3_plan_66 dX3_plan_68 dX3_plan_71 t_RX3_46_164 rfl (by decide) (by have := hM.room; omega) (by have := hM.room; omega) (fun n9 n9a n9b => ?_)
        exact qthr hM hF hN hU n9a n9b (by unfold d_plan; (repeat' split) <;> first | rfl | (exfalso; omega)) rfl
    · refine V_iload_n dX3_plan_30 rfl ?_
      refine V_bipush dX3_plan_31 (by decide) ?_
      refine V_icmp_eq (tgt := 52) dX3_plan_33 (by decide) (by omega) (by omega) (fun q33 => ?_) (fun q33 => ?_)
      · refine V_iload_n dX3_plan_52 rfl ?_
        refine V_iconst dX3_plan_53 ?_
        refine V_bipush dX3_plan_54 (by decide) ?_
        refine V_pS (as := [_, _, _]) dX3_plan_56 c_RX3_42 rfl (by decide) rfl (Nat.le_of_ble_eq_true rfl) (T_X3_isOutside g hM n 1 9 (by omega) (by omega) (by omega)) ?_
        refine V_ifb_eq (tgt := 72) dX3_plan_59 (by decide) (fun q59 => ?_) (fun q59 => ?_)
        · refine V_aload_n dX3_plan_72 rfl ?_
          refine V_dgr (f := 8) (i := 0) (b := 12) dX3_plan_73 fg_RX3_23 rfl rfl hM.fx.1 hM (vAx (by decide)) hM.s.1.2.2.2.1 ?_
          refine V_dSz (l := 46) (w := D 70 46) dX3_plan_76 c_RX3_69 rfl (by decide) (Nat.le_of_ble_eq_true rfl) hM.fx.2.2.2.2.2.1 hM (vL4 (by decide)) rfl (fun r76 => ?_)
          refine V_bipush dX3_plan_79 (by decide) ?_
          refine V_icmp_lt (tgt := 94) dX3_plan_81 (by decide) (by omega) (by omega) (fun q81 => ?_) (fun q81 => ?_)
          · refine V_aload_n dX3_plan_94 rfl ?_
            refine V_dgr (f := 8) (i := 0) (b := 12) dX3_plan_95 fg_RX3_23 rfl rfl hM.fx.1 hM (vAx (by decide)) hM.s.1.2.2.2.1 ?_
            have hb := hM.b
            have h41 := hb.2.1
            have hrm := hM.room
            have n1 : h_n (h_mk h 6 0 5) = h_n h + 1 := rfl
            have u1 : h_u (h_mk h 6 0 5) = h_u h + 5 := rfl
            have b6 := hI.a6
            refine V_new (N := 5) dX3_plan_98 n_RX3_168 rfl (by omega) (by omega) ?_
            show V g m_X3_plan _ _ (h_mk h 6 0 5) _ _ _
            refine V_dup dX3_plan_101 cat_R ?_
            refine V_iload_n dX3_plan_102 rfl ?_
            refine V_iload_n dX3_plan_103 rfl ?_
            refine V_iload_n dX3_plan_104 rfl ?_
            refine V_cI (as := [_, _, _]) dX3_plan_105 c_RX3_170 rfl (by decide) rfl (Nat.le_of_ble_eq_true rfl) (by omega) (T_X0_init g (h_n h) w kd n (by omega) (mk_ks (k := 6) (n := 0) (N := 5)) (by omega) (by omega) (by omega) (by omega) (by omega)) (fun v9 h10 p10 => ?_)
            obtain ⟨p3, rfl⟩ := p10
            cases p3
            have hh := hM.newP2 (w := w) (kd := kd) (n := n) (by omega) (by omega) (by omega) (by omega) hN hU
            have e46 : dMp D w kd n 70 46 = D 70 46 := dMp_d (by omega) (by omega) (by omega)
            have e91 : dMp D w kd n 91 0 = D 91 0 + 1 := if_pos ⟨rfl, rfl⟩
            have eD : dAd (dMp D w kd n) 46 (D 91 0) 70 46 = D 70 46 + 1 := by
              show mset _ 70 46 (dMp D w kd n 70 46 + 1) 70 46 = _
              rw [mset_s, e46]
            refine V_dAd (l := 46) (z := D 91 0) dX3_plan_108 c_RX3_86 rfl (by decide) (Nat.le_of_ble_eq_true rfl) hh.1.fx.2.2.2.2.2.1 ((show eA (aMp A D (h_n h) (h_n h + 1)) 46 (D 91 0) = aMp A D (h_n h) (h_n h + 1) 3 (D 91 0) from rfl).trans (if_pos ⟨rfl, rfl⟩)) hh.1 (hh.2.fd h41 hF) (vL4 (by decide)) (by omega) (by unfold vE; rw [if_pos rfl]; omega) (fun h hM hF => ?_)
            refine tl_plan g _ _ _ _ w kd n (dMp_I hI (by omega) (by omega) (by omega) (by omega)) (fun h9 hM9 hF9 => ?_) h hM hF
            exact ⟨by unfold d_plan; rw [if_neg (by omega), if_neg (by omega), if_neg (by omega), if_neg (by omega), eD, i91, Int.add_sub_cancel], ⟨_, by unfold d_plan; rw [if_neg (by omega), if_neg (by omega), if_neg (by omega), if_neg (by omega)]; exact hM9⟩, hF9⟩
          · refine V_throw dX3_plan_84 dX3_plan_87 dX3_plan_88 dX3_plan_90 dX3_plan_93 t_RX3_57_166 rfl (by decide) (by have := hM.room; omega) (by have := hM.room; omega) (fun n9 n9a n9b => ?_)
            exact qthr hM hF hN hU n9a n9b (by unfold d_plan; (repeat' split) <;> first | rfl | (exfalso; omega)) rfl
        · refine V_throw dX3_plan_62 dX3_plan_65 dX3_plan_66 dX3_plan_68 dX3_plan_71 t_RX3_46_164 rfl (by decide) (by have := hM.room; omega) (by have := hM.room; omega) (fun n9 n9a n9b => ?_)
          exact qthr hM hF hN hU n9a n9b (by unfold d_plan; (repeat' split) <;> first | rfl | (exfalso; omega)) rfl
      · refine V_iload_n dX3_plan_36 rfl ?_
        refine V_bipush dX3_plan_37 (by decide) ?_
        refine V_icmp_eq (tgt := 52) dX3_plan_39 (by decide) (by omega) (by omega) (fun q39 => ?_) (fun q39 => ?_)
        · refine V_iload_n dX3_plan_52 rfl ?_
          refine V_iconst dX3_plan_53 ?_
          refine V_bipush dX3_plan_54 (by decide) ?_
          refine V_pS (as := [_, _, _]) dX3_plan_56 c_RX3_42 rfl (by decide) rfl (Nat.le_of_ble_eq_true rfl) (T_X3_isOutside g hM n 1 9 (by omega) (by omega) (by omega)) ?_
          refine V_ifb_eq (tgt := 72) dX3_plan_59 (by decide) (fun q59 => ?_) (fun q59 => ?_)
          · refine V_aload_n dX3_plan_72 rfl ?_
            refine V_dgr (f := 8) (i := 0) (b := 12) dX3_plan_73 fg_RX3_23 rfl rfl hM.fx.1 hM (vAx (by decide)) hM.s.1.2.2.2.1 ?_
            refine V_dSz (l := 46) (w := D 70 46) dX3_plan_76 c_RX3_69 rfl (by decide) (Nat.le_of_ble_eq_true rfl) hM.fx.2.2.2.2.2.1 hM (vL4 (by decide)) rfl (fun r76 => ?_)
            refine V_bipush dX3_plan_79 (by decide) ?_
            refine V_icmp_lt (tgt := 94) dX3_plan_81 (by decide) (by omega) (by omega) (fun q81 => ?_) (fun q81 => ?_)
            · refine V_aload_n dX3_plan_94 rfl ?_
              refine V_dgr (f := 8) (i := 0) (b := 12) dX3_plan_95 fg_RX3_23 rfl rfl hM.fx.1 hM (vAx (by decide)) hM.s.1.2.2.2.1 ?_
              have hb := hM.b
              have h41 := hb.2.1
              have hrm := hM.room
              have n1 : h_n (h_mk h 6 0 5) = h_n h + 1 := rfl
              have u1 : h_u (h_mk h 6 0 5) = h_u h + 5 := rfl
              have b6 := hI.a6
              refine V_new (N := 5) dX3_plan_98 n_RX3_168 rfl (by omega) (by omega) ?_
              show V g m_X3_plan _ _ (h_mk h 6 0 5) _ _ _
              refine V_dup dX3_plan_101 cat_R ?_
              refine V_iload_n dX3_plan_102 rfl ?_
              refine V_iload_n dX3_plan_103 rfl ?_
              refine V_iload_n dX3_plan_104 rfl ?_
              refine V_cI (as := [_, _, _]) dX3_plan_105 c_RX3_170 rfl (by decide) rfl (Nat.le_of_ble_eq_true rfl) (by omega) (T_X0_init g (h_n h) w kd n (by omega) (mk_ks (k := 6) (n := 0) (N := 5)) (by omega) (by omega) (by omega) (by omega) (by omega)) (fun v9 h10 p10 => ?_)
              obtain ⟨p3, rfl⟩ := p10
              cases p3
              have hh := hM.newP2 (w := w) (kd := kd) (n := n) (by omega) (by omega) (by omega) (by omega) hN hU
              have e46 : dMp D w kd n 70 46 = D 70 46 := dMp_d (by omega) (by omega) (by omega)
              have e91 : dMp D w kd n 91 0 = D 91 0 + 1 := if_pos ⟨rfl, rfl⟩
              have eD : dAd (dMp D w kd n) 46 (D 91 0) 70 46 = D 70 46 + 1 := by
                show mset _ 70 46 (dMp D w kd n 70 46 + 1) 70 46 = _
                rw [mset_s, e46]
              refine V_dAd (l := 46) (z := D 91 0) dX3_plan_108 c_RX3_86 rfl (by decide) (Nat.le_of_ble_eq_true rfl) hh.1.fx.2.2.2.2.2.1 ((show eA (aMp A D (h_n h) (h_n h + 1)) 46 (D 91 0) = aMp A D (h_n h) (h_n h + 1) 3 (D 91 0) from rfl).trans (if_pos ⟨rfl, rfl⟩)) hh.1 (hh.2.fd h41 hF) (vL4 (by decide)) (by omega) (by unfold vE; rw [if_pos rfl]; omega) (fun h hM hF => ?_)
              refine tl_plan g _ _ _ _ w kd n (dMp_I hI (by omega) (by omega) (by omega) (by omega)) (fun h9 hM9 hF9 => ?_) h hM hF
              exact ⟨by unfold d_plan; rw [if_neg (by omega), if_neg (by omega), if_neg (by omega), if_neg (by omega), eD, i91, Int.add_sub_cancel], ⟨_, by unfold d_plan; rw [if_neg (by omega), if_neg (by omega), if_neg (by omega), if_neg (by omega)]; exact hM9⟩, hF9⟩
            · refine V_throw dX3_plan_84 dX3_plan_87 dX3_plan_88 dX3_plan_90 dX3_plan_93 t_RX3_57_166 rfl (by decide) (by have := hM.room; omega) (by have := hM.room; omega) (fun n9 n9a n9b => ?_)
              exact qthr hM hF hN hU n9a n9b (by unfold d_plan; (repeat' split) <;> first | rfl | (exfalso; omega)) rfl
          · refine V_throw dX3_plan_62 dX3_plan_65 dX3_plan_66 dX3_plan_68 dX3_plan_71 t_RX3_46_164 rfl (by decide) (by have := hM.room; omega) (by have := hM.room; omega) (fun n9 n9a n9b => ?_)
            exact qthr hM hF hN hU n9a n9b (by unfold d_plan; (repeat' split) <;> first | rfl | (exfalso; omega)) rfl
        · refine V_throw dX3_plan_42 dX3_plan_45 dX3_plan_46 dX3_plan_48 dX3_plan_51 t_RX3_46_162 rfl (by decide) (by have := hM.room; omega) (by have := hM.room; omega) (fun n9 n9a n9b => ?_)
          exact qthr hM hF hN hU n9a n9b (by unfold d_plan; (repeat' split) <;> first | rfl | (exfalso; omega)) rfl
  · refine V_throw dX3_plan_14 dX3_plan_17 dX3_plan_18 dX3_plan_20 dX3_plan_23 t_RX3_46_160 rfl (by decide) (by have := hM.room; omega) (by have := hM.room; omega) (fun n9 n9a n9b => ?_)
    exact qthr hM hF hN hU n9a n9b (by unfold d_plan; (repeat' split) <;> first | rfl | (exfalso; omega)) rfl

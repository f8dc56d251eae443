/-- the model's rows, made one by one -/
def mf (i : Nat) : Nat := if i = 19 then 30 else i
def MI (h0 h : AH) (k : Nat) : Prop := (h_n h = 19 + k ∧ h_u h ≤ h_u h0 + 810 * k) ∧
  (∀ q, q < 19 → h_k h q = h_k h0 q ∧ h_l h q = h_l h0 q ∧ (∀ j, h_i h q j = h_i h0 q j) ∧ ∀ j, q ≠ 18 → h_r h q j = h_r h0 q j) ∧
  (∀ q, 19 + k ≤ q → h_k h q = h_k h0 q) ∧
  ∀ i, i < k → h_r h 18 (mf i) = 19 + i ∧ h_k h (19 + i) = mkk (mf i) ∧ h_l h (19 + i) = mln (mf i) ∧ ∀ j, h_i h (19 + i) j = 0
theorem MI.st {h0 h : AH} {k kd n f : Nat} (H : MI h0 h k) (hk : k < 20) (e0 : f = mf k) (e1 : kd = mkk f) (e2 : n = mln f) (e3 : n ≤ 810) : MI h0 (h_sr (h_mk h kd n n) 18 f (h_n h)) (k + 1) := by
  obtain ⟨⟨a1, a2⟩, b, c, d⟩ := H
  subst e0
  refine ⟨⟨?_, ?_⟩, fun q hq => ?_, fun q hq => ?_, fun i hi => ?_⟩
  · show h_n h + 1 = _
    omega
  · show h_u h + n ≤ _
    omega
  · have ne : q ≠ h_n h := by omega
    obtain ⟨b1, b2, b3, b4⟩ := b q hq
    refine ⟨(mk_k (k := kd) (n := n) (N := n) ne).trans b1, (mk_l (k := kd) (n := n) (N := n) ne).trans b2, fun j => (mk_i (k := kd) (n := n) (N := n) ne).trans (b3 j), fun j h18 => ?_⟩
    rw [hsr_at, if_neg (fun w => h18 w.1)]
    exact (mk_r (k := kd) (n := n) (N := n) ne).trans (b4 j h18)
  · have ne : q ≠ h_n h := by omega
    exact (mk_k (k := kd) (n := n) (N := n) ne).trans (c q (by omega))
  · by_cases e : i = k
    · subst e
      have en : 19 + i = h_n h := a1.symm
      rw [en, hsr_at, if_pos ⟨rfl, rfl⟩]
      refine ⟨rfl, (mk_ks (k := kd) (n := n) (N := n)).trans e1, (mk_ls (k := kd) (n := n) (N := n)).trans e2, fun j => ?_⟩
      exact if_pos rfl
    · obtain ⟨d1, d2, d3, d4⟩ := d i (by omega)
      have ne : 19 + i ≠ h_n h := by omega
      have ne2 : mf i ≠ mf k := by unfold mf; split <;> split <;> omega
      refine ⟨?_, (mk_k (k := kd) (n := n) (N := n) ne).trans d2, (mk_l (k := kd) (n := n) (N := n) ne).trans d3, fun j => (mk_i (k := kd) (n := n) (N := n) ne).trans (d4 j)⟩
      rw [hsr_at, if_neg (fun w => ne2 w.2)]
      exact (mk_r (k := kd) (n := n) (N := n) (by omega)).trans d1
theorem MI.mr {h0 h : AH} (H : MI h0 h 20) (hk : h_k h0 18 = 10) (hi : ∀ j, h_i h0 18 j = 0) : MR h (fun _ _ => 0) := by
  obtain ⟨⟨a1, a2⟩, b, c, d⟩ := H
  obtain ⟨b1, b2, b3, -⟩ := b 18 (by decide)
  refine ⟨b1.trans hk, fun f hf hr => ?_, fun f _ _ => (b3 f).trans (hi f), fun _ _ => ⟨(by decide : (-2147483648 : Int) ≤ 0), (by decide : (0 : Int) ≤ 2147483647)⟩⟩
  have hfr : f < 19 ∨ f = 30 := by
    rcases Nat.lt_or_ge f 19 with q | q
    · exact Or.inl q
    · have : f = 19 ∨ f = 20 ∨ f = 21 ∨ f = 22 ∨ f = 23 ∨ f = 24 ∨ f = 25 ∨ f = 26 ∨ f = 27 ∨ f = 28 ∨ f = 29 ∨ f = 30 := by omega
      rcases this with rfl | rfl | rfl | rfl | rfl | rfl | rfl | rfl | rfl | rfl | rfl | rfl
      all_goals first | exact Or.inr rfl | cases hr
  rcases hfr with hlt | rfl
  · obtain ⟨d1, d2, d3, d4⟩ := d f (by omega)
    have e : mf f = f := if_neg (by omega)
    have e2 : ar f = 19 + f := if_neg (by omega)
    rw [e] at d1 d2 d3
    rw [e2]
    exact ⟨d1, d2, d3, fun k _ => d4 k⟩
  · obtain ⟨d1, d2, d3, d4⟩ := d 19 (by decide)
    exact ⟨d1, d2, d3, fun k _ => d4 k⟩
theorem T_X4_init (g : GP) {h : AH} (hk : h_k h 18 = 10) (hn : h_n h = 19) (h2 : h_u h + 17000 ≤ z_CS) : TrI g m_X4_init 2 [xR 18] h (fun r h' => r = .inl none ∧ MI h h' 20) := by
  refine TrI.ofTr ?_ (fun _ _ z => nomatch z.1)
  refine Tr.ofV (by decide) rfl (fun v hv => by simp only [List.mem_cons, List.not_mem_nil, or_false] at hv; subst hv; exact cat_R) (Nat.le_of_ble_eq_true rfl) ?_
  change V g m_X4_init 2 _ h 0 [xR 18] []
  have hcc : (1000 : Nat) ≤ z_CC := by decide
  refine V_aload_n dX4_init_0 rfl ?_
  refine V_objInit dX4_init_1 w_ob_RX4_1 w_ob1 w_ob2 (by decide) (st4 (Nat.le_of_ble_eq_true rfl)) (by decide) ?_
  have H0 : MI h h 0 := ⟨⟨hn, Nat.le_refl _⟩, fun q _ => ⟨rfl, rfl, fun _ => rfl, fun _ _ => rfl⟩, fun q _ => rfl, fun i hi => absurd hi (Nat.not_lt_zero i)⟩
  refine V_aload_n dX4_init_4 rfl ?_
  refine V_bipush dX4_init_5 (by decide) ?_
  refine V_newa2 (n := 6) dX4_init_7 w_arr2 rfl (by decide) (by rw [H0.1.1]; omega) (by have := H0.1.2; omega) ?_
  refine V_putRF dX4_init_9 f_RX4_7 rfl rfl rfl ((mk_k (by rw [H0.1.1]; decide)).trans ((H0.2.1 18 (by decide)).1.trans hk)) ?_
  have H1 := H0.st (kd := 22) (n := 6) (f := 0) (by decide) rfl rfl rfl (by decide)
  clear H0
  generalize h_sr (h_mk h 22 6 6) 18 0 (h_n h) = g1 at H1 ⊢
  refine V_aload_n dX4_init_12 rfl ?_
  refine V_sipush dX4_init_13 (by decide) ?_
  refine V_newa2 (n := 240) dX4_init_16 w_arr2 rfl (by decide) (by rw [H1.1.1]; omega) (by have := H1.1.2; omega) ?_
  refine V_putRF dX4_init_18 f_RX4_13 rfl rfl rfl ((mk_k (by rw [H1.1.1]; decide)).trans ((H1.2.1 18 (by decide)).1.trans hk)) ?_
  have H2 := H1.st (kd := 22) (n := 240) (f := 1) (by decide) rfl rfl rfl (by decide)
  clear H1
  generalize h_sr (h_mk g1 22 240 240) 18 1 (h_n g1) = g2 at H2 ⊢
  refine V_aload_n dX4_init_21 rfl ?_
  refine V_bipush dX4_init_22 (by decide) ?_
  refine V_newa2 (n := 40) dX4_init_24 w_arr2 rfl (by decide) (by rw [H2.1.1]; omega) (by have := H2.1.2; omega) ?_
  refine V_putRF dX4_init_26 f_RX4_16 rfl rfl rfl ((mk_k (by rw [H2.1.1]; decide)).trans ((H2.2.1 18 (by decide)).1.trans hk)) ?_
  have H3 := H2.st (kd := 22) (n := 40) (f := 2) (by decide) rfl rfl rfl (by decide)
  clear H2
  generalize h_sr (h_mk g2 22 40 40) 18 2 (h_n g2) = g3 at H3 ⊢
  refine V_aload_n dX4_init_29 rfl ?_
  refine V_bipush dX4_init_30 (by decide) ?_
  refine V_newa2 (n := 40) dX4_init_32 w_arr2 rfl (by decide) (by rw [H3.1.1]; omega) (by have := H3.1.2; omega) ?_
  refine V_putRF dX4_init_34 f_RX4_19 rfl rfl rfl ((mk_k (by rw [H3.1.1]; decide)).trans ((H3.2.1 18 (by decide)).1.trans hk)) ?_
  have H4 := H3.st (kd := 22) (n := 40) (f := 3) (by decide) rfl rfl rfl (by decide)
  clear H3
  generalize h_sr (h_mk g3 22 40 40) 18 3 (h_n g3) = g4 at H4 ⊢
  refine V_aload_n dX4_init_37 rfl ?_
  refine V_bipush dX4_init_38 (by decide) ?_
  refine V_newa2 (n := 40) dX4_init_40 w_arr2 rfl (by decide) (by rw [H4.1.1]; omega) (by have := H4.1.2; omega) ?_
  refine V_putRF dX4_init_42 f_RX4_22 rfl rfl rfl ((mk_k (by rw [H4.1.1]; decide)).trans ((H4.2.1 18 (by decide)).1.trans hk)) ?_
  have H5 := H4.st (kd := 22) (n := 40) (f := 4) (by decide) rfl rfl rfl (by decide)
  clear H4
  generalize h_sr (h_mk g4 22 40 40) 18 4 (h_n g4) = g5 at H5 ⊢
  refine V_aload_n dX4_init_45 rfl ?_
  refine V_bipush dX4_init_46 (by decide) ?_
  refine V_newa2 (n := 40) dX4_init_48 w_arr2 rfl (by decide) (by rw [H5.1.1]; omega) (by have := H5.1.2; omega) ?_
  refine V_putRF dX4_init_50 f_RX4_25 rfl rfl rfl ((mk_k (by rw [H5.1.1]; decide)).trans ((H5.2.1 18 (by decide)).1.trans hk)) ?_
  have H6 := H5.st (kd := 22) (n := 40) (f := 5) (by decide) rfl rfl rfl (by decide)
  clear H5
  generalize h_sr (h_mk g5 22 40 40) 18 5 (h_n g5) = g6 at H6 ⊢
  refine V_aload_n dX4_init_53 rfl ?_
  refine V_bipush dX4_init_54 (by decide) ?_
  refine V_newa2 (n := 40) dX4_init_56 w_arr2 rfl (by decide) (by rw [H6.1.1]; omega) (by have := H6.1.2; omega) ?_
  refine V_putRF dX4_init_58 f_RX4_28 rfl rfl rfl ((mk_k (by rw [H6.1.1]; decide)).trans ((H6.2.1 18 (by decide)).1.trans hk)) ?_
  have H7 := H6.st (kd := 22) (n := 40) (f := 6) (by decide) rfl rfl rfl (by decide)
  clear H6
  generalize h_sr (h_mk g6 22 40 40) 18 6 (h_n g6) = g7 at H7 ⊢
  refine V_aload_n dX4_init_61 rfl ?_
  refine V_bipush dX4_init_62 (by decide) ?_
  refine V_newa2 (n := 40) dX4_init_64 w_arr2 rfl (by decide) (by rw [H7.1.1]; omega) (by have := H7.1.2; omega) ?_
  refine V_putRF dX4_init_66 f_RX4_31 rfl rfl rfl ((mk_k (by rw [H7.1.1]; decide)).trans ((H7.2.1 18 (by decide)).1.trans hk)) ?_
  have H8 := H7.st (kd := 22) (n := 40) (f := 7) (by decide) rfl rfl rfl (by decide)
  clear H7
  generalize h_sr (h_mk g7 22 40 40) 18 7 (h_n g7) = g8 at H8 ⊢
  refine V_aload_n dX4_init_69 rfl ?_
  refine V_bipush dX4_init_70 (by decide) ?_
  refine V_newa2 (n := 12) dX4_init_72 w_arr2 rfl (by decide) (by rw [H8.1.1]; omega) (by have := H8.1.2; omega) ?_
  refine V_putRF dX4_init_74 f_RX4_34 rfl rfl rfl ((mk_k (by rw [H8.1.1]; decide)).trans ((H8.2.1 18 (by decide)).1.trans hk)) ?_
  have H9 := H8.st (kd := 22) (n := 12) (f := 8) (by decide) rfl rfl rfl (by decide)
  clear H8
  generalize h_sr (h_mk g8 22 12 12) 18 8 (h_n g8) = g9 at H9 ⊢
  refine V_aload_n dX4_init_77 rfl ?_
  refine V_bipush dX4_init_78 (by decide) ?_
  refine V_newa2 (n := 12) dX4_init_80 w_arr2 rfl (by decide) (by rw [H9.1.1]; omega) (by have := H9.1.2; omega) ?_
  refine V_putRF dX4_init_82 f_RX4_37 rfl rfl rfl ((mk_k (by rw [H9.1.1]; decide)).trans ((H9.2.1 18 (by decide)).1.trans hk)) ?_
  have H10 := H9.st (kd := 22) (n := 12) (f := 9) (by decide) rfl rfl rfl (by decide)
  clear H9
  generalize h_sr (h_mk g9 22 12 12) 18 9 (h_n g9) = g10 at H10 ⊢
  refine V_aload_n dX4_init_85 rfl ?_
  refine V_bipush dX4_init_86 (by decide) ?_
  refine V_newa2 (n := 108) dX4_init_88 w_arr2 rfl (by decide) (by rw [H10.1.1]; omega) (by have := H10.1.2; omega) ?_
  refine V_putRF dX4_init_90 f_RX4_40 rfl rfl rfl ((mk_k (by rw [H10.1.1]; decide)).trans ((H10.2.1 18 (by decide)).1.trans hk)) ?_
  have H11 := H10.st (kd := 22) (n := 108) (f := 10) (by decide) rfl rfl rfl (by decide)
  clear H10
  generalize h_sr (h_mk g10 22 108 108) 18 10 (h_n g10) = g11 at H11 ⊢
  refine V_aload_n dX4_init_93 rfl ?_
  refine V_bipush dX4_init_94 (by decide) ?_
  refine V_newa2 (n := 12) dX4_init_96 w_arr2 rfl (by decide) (by rw [H11.1.1]; omega) (by have := H11.1.2; omega) ?_
  refine V_putRF dX4_init_98 f_RX4_43 rfl rfl rfl ((mk_k (by rw [H11.1.1]; decide)).trans ((H11.2.1 18 (by decide)).1.trans hk)) ?_
  have H12 := H11.st (kd := 22) (n := 12) (f := 11) (by decide) rfl rfl rfl (by decide)
  clear H11
  generalize h_sr (h_mk g11 22 12 12) 18 11 (h_n g11) = g12 at H12 ⊢
  refine V_aload_n dX4_init_101 rfl ?_
  refine V_bipush dX4_init_102 (by decide) ?_
  refine V_newa1 (n := 12) dX4_init_104 w_arr1 rfl (by decide) (by rw [H12.1.1]; omega) (by have := H12.1.2; omega) ?_
  refine V_putRF dX4_init_106 f_RX4_46 rfl rfl rfl ((mk_k (by rw [H12.1.1]; decide)).trans ((H12.2.1 18 (by decide)).1.trans hk)) ?_
  have H13 := H12.st (kd := 21) (n := 12) (f := 12) (by decide) rfl rfl rfl (by decide)
  clear H12
  generalize h_sr (h_mk g12 21 12 12) 18 12 (h_n g12) = g13 at H13 ⊢
  refine V_aload_n dX4_init_109 rfl ?_
  refine V_bipush dX4_init_110 (by decide) ?_
  refine V_newa1 (n := 30) dX4_init_112 w_arr1 rfl (by decide) (by rw [H13.1.1]; omega) (by have := H13.1.2; omega) ?_
  refine V_putRF dX4_init_114 f_RX4_50 rfl rfl rfl ((mk_k (by rw [H13.1.1]; decide)).trans ((H13.2.1 18 (by decide)).1.trans hk)) ?_
  have H14 := H13.st (kd := 21) (n := 30) (f := 13) (by decide) rfl rfl rfl (by decide)
  clear H13
  generalize h_sr (h_mk g13 21 30 30) 18 13 (h_n g13) = g14 at H14 ⊢
  refine V_aload_n dX4_init_117 rfl ?_
  refine V_bipush dX4_init_118 (by decide) ?_
  refine V_newa3 (n := 12) dX4_init_120 w_arr3 rfl (by decide) (by rw [H14.1.1]; omega) (by have := H14.1.2; omega) ?_
  refine V_putRF dX4_init_122 f_RX4_53 rfl rfl rfl ((mk_k (by rw [H14.1.1]; decide)).trans ((H14.2.1 18 (by decide)).1.trans hk)) ?_
  have H15 := H14.st (kd := 23) (n := 12) (f := 14) (by decide) rfl rfl rfl (by decide)
  clear H14
  generalize h_sr (h_mk g14 23 12 12) 18 14 (h_n g14) = g15 at H15 ⊢
  refine V_aload_n dX4_init_125 rfl ?_
  refine V_sipush dX4_init_126 (by decide) ?_
  refine V_newa3 (n := 810) dX4_init_129 w_arr3 rfl (by decide) (by rw [H15.1.1]; omega) (by have := H15.1.2; omega) ?_
  refine V_putRF dX4_init_131 f_RX4_57 rfl rfl rfl ((mk_k (by rw [H15.1.1]; decide)).trans ((H15.2.1 18 (by decide)).1.trans hk)) ?_
  have H16 := H15.st (kd := 23) (n := 810) (f := 15) (by decide) rfl rfl rfl (by decide)
  clear H15
  generalize h_sr (h_mk g15 23 810 810) 18 15 (h_n g15) = g16 at H16 ⊢
  refine V_aload_n dX4_init_134 rfl ?_
  refine V_sipush dX4_init_135 (by decide) ?_
  refine V_newa2 (n := 810) dX4_init_138 w_arr2 rfl (by decide) (by rw [H16.1.1]; omega) (by have := H16.1.2; omega) ?_
  refine V_putRF dX4_init_140 f_RX4_60 rfl rfl rfl ((mk_k (by rw [H16.1.1]; decide)).trans ((H16.2.1 18 (by decide)).1.trans hk)) ?_
  have H17 := H16.st (kd := 22) (n := 810) (f := 16) (by decide) rfl rfl rfl (by decide)
  clear H16
  generalize h_sr (h_mk g16 22 810 810) 18 16 (h_n g16) = g17 at H17 ⊢
  refine V_aload_n dX4_init_143 rfl ?_
  refine V_bipush dX4_init_144 (by decide) ?_
  refine V_newa2 (n := 30) dX4_init_146 w_arr2 rfl (by decide) (by rw [H17.1.1]; omega) (by have := H17.1.2; omega) ?_
  refine V_putRF dX4_init_148 f_RX4_63 rfl rfl rfl ((mk_k (by rw [H17.1.1]; decide)).trans ((H17.2.1 18 (by decide)).1.trans hk)) ?_
  have H18 := H17.st (kd := 22) (n := 30) (f := 17) (by decide) rfl rfl rfl (by decide)
  clear H17
  generalize h_sr (h_mk g17 22 30 30) 18 17 (h_n g17) = g18 at H18 ⊢
  refine V_aload_n dX4_init_151 rfl ?_
  refine V_sipush dX4_init_152 (by decide) ?_
  refine V_newa1 (n := 200) dX4_init_155 w_arr1 rfl (by decide) (by rw [H18.1.1]; omega) (by have := H18.1.2; omega) ?_
  refine V_putRF dX4_init_157 f_RX4_66 rfl rfl rfl ((mk_k (by rw [H18.1.1]; decide)).trans ((H18.2.1 18 (by decide)).1.trans hk)) ?_
  have H19 := H18.st (kd := 21) (n := 200) (f := 18) (by decide) rfl rfl rfl (by decide)
  clear H18
  generalize h_sr (h_mk g18 21 200 200) 18 18 (h_n g18) = g19 at H19 ⊢
  refine V_aload_n dX4_init_160 rfl ?_
  refine V_bipush dX4_init_161 (by decide) ?_
  refine V_newa2 (n := 27) dX4_init_163 w_arr2 rfl (by decide) (by rw [H19.1.1]; omega) (by have := H19.1.2; omega) ?_
  refine V_putRF dX4_init_165 f_RX4_69 rfl rfl rfl ((mk_k (by rw [H19.1.1]; decide)).trans ((H19.2.1 18 (by decide)).1.trans hk)) ?_
  have H20 := H19.st (kd := 22) (n := 27) (f := 30) (by decide) rfl rfl rfl (by decide)
  clear H19
  generalize h_sr (h_mk g19 22 27 27) 18 30 (h_n g19) = g20 at H20 ⊢
  refine V_vret dX4_init_168 rfl ?_
  exact ⟨rfl, H20⟩
/-- the developers' object and its lists -/
def xf (i : Nat) : Nat := if i < 4 then i + 2 else i + 6
def LI (h0 h : AH) (k : Nat) : Prop := (h_n h = 10 + k ∧ h_u h ≤ h_u h0 + 6 + 3 * k) ∧
  (h_k h 8 = 9 ∧ (∀ j, h_i h 8 j = h_i h0 8 j) ∧ h_r h 8 0 = 9) ∧ (h_k h 9 = 22 ∧ h_l h 9 = 6 ∧ ∀ j, h_i h 9 j = 0) ∧ (∀ q, 10 + k ≤ q → h_k h q = h_k h0 q) ∧ (∀ q, q < 8 → h_k h q = h_k h0 q) ∧
  ∀ i, i < k → h_r h 8 (xf i) = 10 + i ∧ h_k h (10 + i) = 5 ∧ h_r h (10 + i) 1 = 1 ∧ h_i h (10 + i) 2 = 0
theorem LI.st {h0 h : AH} {k f : Nat} (H : LI h0 h k) (hk : k < 6) (e0 : f = xf k) : LI h0 (h_sr (h_sr (h_si (h_mk h 5 0 3) (h_n h) 0 0) (h_n h) 1 1) 8 f (h_n h)) (k + 1) := by
  obtain ⟨⟨a1, a2⟩, ⟨b1, b2, b3⟩, ⟨c1, c2, c3⟩, d, d', e⟩ := H
  subst e0
  have kk : ∀ q, q ≠ h_n h → h_k (h_sr (h_sr (h_si (h_mk h 5 0 3) (h_n h) 0 0) (h_n h) 1 1) 8 (xf k) (h_n h)) q = h_k h q := fun q hq => mk_k (k := 5) (n := 0) (N := 3) hq
  have kl : ∀ q, q ≠ h_n h → h_l (h_sr (h_sr (h_si (h_mk h 5 0 3) (h_n h) 0 0) (h_n h) 1 1) 8 (xf k) (h_n h)) q = h_l h q := fun q hq => mk_l (k := 5) (n := 0) (N := 3) hq
  have ki : ∀ q j, q ≠ h_n h → h_i (h_sr (h_sr (h_si (h_mk h 5 0 3) (h_n h) 0 0) (h_n h) 1 1) 8 (xf k) (h_n h)) q j = h_i h q j := fun q j hq => (if_neg (fun w => hq w.1)).trans (mk_i (k := 5) (n := 0) (N := 3) hq)
  have kr : ∀ q j, q ≠ h_n h → ¬ (q = 8 ∧ j = xf k) → h_r (h_sr (h_sr (h_si (h_mk h 5 0 3) (h_n h) 0 0) (h_n h) 1 1) 8 (xf k) (h_n h)) q j = h_r h q j := fun q j hq h8 => by
    rw [hsr_at, if_neg h8, hsr_at, if_neg (fun w => hq w.1)]
    exact mk_r (k := 5) (n := 0) (N := 3) hq
  have x0 : xf k ≠ 0 := by unfold xf; split <;> omega
  refine ⟨⟨?_, ?_⟩, ⟨?_, fun j => ?_, ?_⟩, ⟨?_, ?_, fun j => ?_⟩, fun q hq => ?_, fun q hq => ?_, fun i hi => ?_⟩
  · show h_n h + 1 = _
    omega
  · show h_u h + 3 ≤ _
    omega
  · rw [kk 8 (by omega)]; exact b1
  · rw [ki 8 j (by omega)]; exact b2 j
  · rw [kr 8 0 (by omega) (fun w => x0 w.2.symm)]; exact b3
  · rw [kk 9 (by omega)]; exact c1
  · rw [kl 9 (by omega)]; exact c2
  · rw [ki 9 j (by omega)]; exact c3 j
  · rw [kk q (by omega)]; exact d q (by omega)
  · rw [kk q (by omega)]; exact d' q hq
  · by_cases w : i = k
    · subst w
      have en : 10 + i = h_n h := a1.symm
      have n8 : h_n h ≠ 8 := by omega
      rw [en]
      refine ⟨?_, mk_ks (k := 5) (n := 0) (N := 3), ?_, ?_⟩
      · rw [hsr_at, if_pos ⟨rfl, rfl⟩]
      · rw [hsr_at, if_neg (fun w => n8 w.1), hsr_at, if_pos ⟨rfl, rfl⟩]
      · show h_i (h_si (h_mk h 5 0 3) (h_n h) 0 0) (h_n h) 2 = 0
        rw [hsi_at, if_neg (by omega)]
        exact if_pos rfl
    · obtain ⟨e1, e2, e3, e4⟩ := e i (by omega)
      have ne2 : xf i ≠ xf k := by unfold xf; split <;> split <;> omega
      rw [kr 8 _ (by omega) (fun w => ne2 w.2), kk _ (by omega), kr _ 1 (by omega) (by omega), ki _ 2 (by omega)]
      exact ⟨e1, e2, e3, e4⟩
/-- the developers' object as it is first -/
def XH (h0 h : AH) : Prop := (h_n h = 18 ∧ h_u h ≤ h_u h0 + 50) ∧ (h_k h 8 = 9 ∧ (∀ j, h_i h 8 j = h_i h0 8 j) ∧ h_r h 8 0 = 9 ∧ h_r h 8 12 = 16) ∧ (h_k h 9 = 22 ∧ h_l h 9 = 6 ∧ ∀ j, h_i h 9 j = 0) ∧ (∀ q, 18 ≤ q → h_k h q = h_k h0 q) ∧ (∀ q, q < 8 → h_k h q = h_k h0 q) ∧
  (∀ i, i < 6 → h_r h 8 (xf i) = 10 + i ∧ h_k h (10 + i) = 5 ∧ h_r h (10 + i) 1 = 1 ∧ h_i h (10 + i) 2 = 0) ∧
  (h_k h 16 = 2 ∧ h_r h 16 0 = 17 ∧ h_i h 16 3 = 0 ∧ h_i h 16 1 = 0) ∧ h_k h 17 = 20 ∧ h_l h 17 = 16 ∧ ∀ j, h_i h 17 j = 0
theorem LI.xh {h0 h : AH} (H : LI h0 h 6) : XH h0 (h_sr (h_si (h_sr (h_mk (h_mk h 2 0 4) 20 16 16) (h_n h) 0 (h_n (h_mk h 2 0 4))) (h_n h) 1 0) 8 12 (h_n h)) := by
  obtain ⟨⟨a1, a2⟩, ⟨b1, b2, b3⟩, ⟨c1, c2, c3⟩, d, d', e⟩ := H
  have n1 : h_n (h_mk h 2 0 4) = h_n h + 1 := rfl
  have kk : ∀ q, q ≠ h_n h → q ≠ h_n h + 1 → h_k (h_sr (h_si (h_sr (h_mk (h_mk h 2 0 4) 20 16 16) (h_n h) 0 (h_n (h_mk h 2 0 4))) (h_n h) 1 0) 8 12 (h_n h)) q = h_k h q := fun q hq hq' => (mk_k (h := h_mk h 2 0 4) (k := 20) (n := 16) (N := 16) hq').trans (mk_k (k := 2) (n := 0) (N := 4) hq)
  have kl : ∀ q, q ≠ h_n h → q ≠ h_n h + 1 → h_l (h_sr (h_si (h_sr (h_mk (h_mk h 2 0 4) 20 16 16) (h_n h) 0 (h_n (h_mk h 2 0 4))) (h_n h) 1 0) 8 12 (h_n h)) q = h_l h q := fun q hq hq' => (mk_l (h := h_mk h 2 0 4) (k := 20) (n := 16) (N := 16) hq').trans (mk_l (k := 2) (n := 0) (N := 4) hq)
  have ki : ∀ q j, q ≠ h_n h → q ≠ h_n h + 1 → h_i (h_sr (h_si (h_sr (h_mk (h_mk h 2 0 4) 20 16 16) (h_n h) 0 (h_n (h_mk h 2 0 4))) (h_n h) 1 0) 8 12 (h_n h)) q j = h_i h q j := fun q j hq hq' => (if_neg (fun w => hq w.1)).trans ((mk_i (h := h_mk h 2 0 4) (k := 20) (n := 16) (N := 16) hq').trans (mk_i (k := 2) (n := 0) (N := 4) hq))
  have kr : ∀ q j, q ≠ h_n h → q ≠ h_n h + 1 → ¬ (q = 8 ∧ j = 12) → h_r (h_sr (h_si (h_sr (h_mk (h_mk h 2 0 4) 20 16 16) (h_n h) 0 (h_n (h_mk h 2 0 4))) (h_n h) 1 0) 8 12 (h_n h)) q j = h_r h q j := fun q j hq hq' h8 => by
    rw [hsr_at, if_neg h8]
    show h_r (h_sr (h_mk (h_mk h 2 0 4) 20 16 16) (h_n h) 0 (h_n (h_mk h 2 0 4))) q j = _
    rw [hsr_at, if_neg (fun w => hq w.1)]
    exact (mk_r (h := h_mk h 2 0 4) (k := 20) (n := 16) (N := 16) hq').trans (mk_r (k := 2) (n := 0) (N := 4) hq)
  have e16 : h_n h = 16 := a1
  have e17 : h_n (h_mk h 2 0 4) = 17 := by rw [n1, e16]
  refine ⟨⟨?_, ?_⟩, ⟨?_, fun j => ?_, ?_, ?_⟩, ⟨?_, ?_, fun j => ?_⟩, fun q hq => ?_, fun q hq => ?_, fun i hi => ?_, ⟨?_, ?_, ?_, ?_⟩, ?_, ?_, fun j => ?_⟩
  · show h_n h + 1 + 1 = 18
    omega
  · show h_u h + 4 + 16 ≤ _
    omega
  · rw [kk 8 (by omega) (by omega)]; exact b1
  · rw [ki 8 j (by omega) (by omega)]; exact b2 j
  · rw [kr 8 0 (by omega) (by omega) (by omega)]; exact b3
  · rw [hsr_at, if_pos ⟨rfl, rfl⟩]; exact e16
  · rw [kk 9 (by omega) (by omega)]; exact c1
  · rw [kl 9 (by omega) (by omega)]; exact c2
  · rw [ki 9 j (by omega) (by omega)]; exact c3 j
  · rw [kk q (by omega) (by omega)]; exact d q (by omega)
  · rw [kk q (by omega) (by omega)]; exact d' q hq
  · obtain ⟨e1, e2, e3, e4⟩ := e i hi
    have x0 : xf i ≠ 12 := by unfold xf; split <;> omega
    rw [kr 8 _ (by omega) (by omega) (fun w => x0 w.2), kk _ (by omega) (by omega), kr _ 1 (by omega) (by omega) (by omega), ki _ 2 (by omega) (by omega)]
    exact ⟨e1, e2, e3, e4⟩
  · have e : h_k (h_mk (h_mk h 2 0 4) 20 16 16) (h_n h) = 2 := (mk_k (h := h_mk h 2 0 4) (k := 20) (n := 16) (N := 16) (by rw [n1]; omega)).trans (mk_ks (k := 2) (n := 0) (N := 4))
    rw [e16] at e
    exact e
  · rw [hsr_at, if_neg (by omega)]
    show h_r (h_sr (h_mk (h_mk h 2 0 4) 20 16 16) (h_n h) 0 (h_n (h_mk h 2 0 4))) 16 0 = 17
    rw [hsr_at, if_pos ⟨e16.symm, rfl⟩, e17]
  · show h_i (h_si (h_sr (h_mk (h_mk h 2 0 4) 20 16 16) (h_n h) 0 (h_n (h_mk h 2 0 4))) (h_n h) 1 0) 16 3 = 0
    rw [hsi_at, if_neg (by omega)]
    have e : h_i (h_mk (h_mk h 2 0 4) 20 16 16) (h_n h) 3 = 0 := (mk_i (h := h_mk h 2 0 4) (k := 20) (n := 16) (N := 16) (by rw [n1]; omega)).trans (if_pos rfl)
    rw [e16] at e
    exact e
  · show h_i (h_si (h_sr (h_mk (h_mk h 2 0 4) 20 16 16) (h_n h) 0 (h_n (h_mk h 2 0 4))) (h_n h) 1 0) 16 1 = 0
    rw [hsi_at, if_pos ⟨e16.symm, rfl⟩]
  · have e : h_k (h_mk (h_mk h 2 0 4) 20 16 16) (h_n (h_mk h 2 0 4)) = 20 := mk_ks (h := h_mk h 2 0 4) (k := 20) (n := 16) (N := 16)
    rw [e17] at e
    exact e
  · have e : h_l (h_mk (h_mk h 2 0 4) 20 16 16) (h_n (h_mk h 2 0 4)) = 16 := mk_ls (h := h_mk h 2 0 4) (k := 20) (n := 16) (N := 16)
    rw [e17] at e
    exact e
  · show h_i (h_si (h_sr (h_mk (h_mk h 2 0 4) 20 16 16) (h_n h) 0 (h_n (h_mk h 2 0 4))) (h_n h) 1 0) 17 j = 0
    rw [hsi_at, if_neg (by omega)]
    have e : h_i (h_mk (h_mk h 2 0 4) 20 16 16) (h_n (h_mk h 2 0 4)) j = 0 := if_pos rfl
    rw [e17] at e
    exact e
theorem T_X3_init (g : GP) {h : AH} (hk : h_k h 8 = 9) (hn : h_n h = 9) (h2 : h_u h + 100 ≤ z_CS) : TrI g m_X3_init 5 [xR 8] h (fun r h' => r = .inl none ∧ XH h h') := by
  refine TrI.ofTr ?_ (fun _ _ z => nomatch z.1)
  refine Tr.ofV (by decide) rfl (fun v hv => by simp only [List.mem_cons, List.not_mem_nil, or_false] at hv; subst hv; exact cat_R) (Nat.le_of_ble_eq_true rfl) ?_
  change V g m_X3_init 5 _ h 0 [xR 8] []
  have hcc : (1000 : Nat) ≤ z_CC := by decide
  refine V_aload_n dX3_init_0 rfl ?_
  refine V_objInit dX3_init_1 w_ob_RX3_1 w_ob1 w_ob2 (by decide) (st4 (Nat.le_of_ble_eq_true rfl)) (by decide) ?_
  refine V_aload_n dX3_init_4 rfl ?_
  refine V_bipush dX3_init_5 (by decide) ?_
  refine V_newa2 (n := 6) dX3_init_7 w_arr2 rfl (by decide) (by rw [hn]; omega) (by omega) ?_
  refine V_putRF dX3_init_9 f_RX3_9 rfl rfl rfl ((mk_k (by rw [hn]; decide)).trans hk) ?_
  have H0 : LI h (h_sr (h_mk h 22 6 6) 8 0 (h_n h)) 0 := by
    refine ⟨⟨(by show h_n h + 1 = 10 + 0; omega), (by show h_u h + 6 ≤ _; omega)⟩, ⟨(mk_k (k := 22) (n := 6) (N := 6) (by rw [hn]; decide)).trans hk, fun j => mk_i (k := 22) (n := 6) (N := 6) (by rw [hn]; decide), ?_⟩, ⟨?_, ?_, fun j => ?_⟩, fun q hq => mk_k (k := 22) (n := 6) (N := 6) (by omega), fun q hq => mk_k (k := 22) (n := 6) (N := 6) (by omega), fun i hi => absurd hi (Nat.not_lt_zero i)⟩
    · rw [hsr_at, if_pos ⟨rfl, rfl⟩]; exact hn
    · have e := mk_ks (h := h) (k := 22) (n := 6) (N := 6)
      rw [hn] at e
      exact e
    · have e := mk_ls (h := h) (k := 22) (n := 6) (N := 6)
      rw [hn] at e
      exact e
    · have e : h_i (h_mk h 22 6 6) (h_n h) j = 0 := if_pos rfl
      rw [hn] at e
      exact e
  generalize h_sr (h_mk h 22 6 6) 8 0 (h_n h) = g0 at H0 ⊢
  refine V_aload_n dX3_init_12 rfl ?_
  refine V_new (N := 3) dX3_init_13 n_RX3_13 rfl (by rw [H0.1.1]; omega) (by have := H0.1.2; omega) ?_
  refine V_dup dX3_init_16 cat_R ?_
  have z0 : h_n g0 ≠ 0 := by rw [H0.1.1]; omega
  refine V_cI (as := []) dX3_init_17 c_RX3_15 rfl (by decide) rfl (Nat.le_of_ble_eq_true rfl) z0 (I_list g (h_n g0) (mk_ks (k := 5) (n := 0) (N := 3)) z0) (fun v9 h9 p9 => ?_)
  obtain ⟨p1, rfl⟩ := p9
  cases p1
  refine V_putRF dX3_init_20 f_RX3_16 rfl rfl rfl ((mk_k (h := g0) (k := 5) (n := 0) (N := 3) (by rw [H0.1.1]; omega)).trans H0.2.1.1) ?_
  have H1 := H0.st (f := 2) (by decide) rfl
  clear H0 z0
  generalize h_sr (h_sr (h_si (h_mk g0 5 0 3) (h_n g0) 0 0) (h_n g0) 1 1) 8 2 (h_n g0) = g1 at H1 ⊢
  refine V_aload_n dX3_init_23 rfl ?_
  refine V_new (N := 3) dX3_init_24 n_RX3_13 rfl (by rw [H1.1.1]; omega) (by have := H1.1.2; omega) ?_
  refine V_dup dX3_init_27 cat_R ?_
  have z1 : h_n g1 ≠ 0 := by rw [H1.1.1]; omega
  refine V_cI (as := []) dX3_init_28 c_RX3_15 rfl (by decide) rfl (Nat.le_of_ble_eq_true rfl) z1 (I_list g (h_n g1) (mk_ks (k := 5) (n := 0) (N := 3)) z1) (fun v9 h9 p9 => ?_)
  obtain ⟨p1, rfl⟩ := p9
  cases p1
  refine V_putRF dX3_init_31 f_RX3_20 rfl rfl rfl ((mk_k (h := g1) (k := 5) (n := 0) (N := 3) (by rw [H1.1.1]; omega)).trans H1.2.1.1) ?_
  have H2 := H1.st (f := 3) (by decide) rfl
  clear H1 z1
  generalize h_sr (h_sr (h_si (h_mk g1 5 0 3) (h_n g1) 0 0) (h_n g1) 1 1) 8 3 (h_n g1) = g2 at H2 ⊢
  refine V_aload_n dX3_init_34 rfl ?_
  refine V_new (N := 3) dX3_init_35 n_RX3_13 rfl (by rw [H2.1.1]; omega) (by have := H2.1.2; omega) ?_
  refine V_dup dX3_init_38 cat_R ?_
  have z2 : h_n g2 ≠ 0 := by rw [H2.1.1]; omega
  refine V_cI (as := []) dX3_init_39 c_RX3_15 rfl (by decide) rfl (Nat.le_of_ble_eq_true rfl) z2 (I_list g (h_n g2) (mk_ks (k := 5) (n := 0) (N := 3)) z2) (fun v9 h9 p9 => ?_)
  obtain ⟨p1, rfl⟩ := p9
  cases p1
  refine V_putRF dX3_init_42 f_RX3_23 rfl rfl rfl ((mk_k (h := g2) (k := 5) (n := 0) (N := 3) (by rw [H2.1.1]; omega)).trans H2.2.1.1) ?_
  have H3 := H2.st (f := 4) (by decide) rfl
  clear H2 z2
  generalize h_sr (h_sr (h_si (h_mk g2 5 0 3) (h_n g2) 0 0) (h_n g2) 1 1) 8 4 (h_n g2) = g3 at H3 ⊢
  refine V_aload_n dX3_init_45 rfl ?_
  refine V_new (N := 3) dX3_init_46 n_RX3_13 rfl (by rw [H3.1.1]; omega) (by have := H3.1.2; omega) ?_
  refine V_dup dX3_init_49 cat_R ?_
  have z3 : h_n g3 ≠ 0 := by rw [H3.1.1]; omega
  refine V_cI (as := []) dX3_init_50 c_RX3_15 rfl (by decide) rfl (Nat.le_of_ble_eq_true rfl) z3 (I_list g (h_n g3) (mk_ks (k := 5) (n := 0) (N := 3)) z3) (fun v9 h9 p9 => ?_)
  obtain ⟨p1, rfl⟩ := p9
  cases p1
  refine V_putRF dX3_init_53 f_RX3_26 rfl rfl rfl ((mk_k (h := g3) (k := 5) (n := 0) (N := 3) (by rw [H3.1.1]; omega)).trans H3.2.1.1) ?_
  have H4 := H3.st (f := 5) (by decide) rfl
  clear H3 z3
  generalize h_sr (h_sr (h_si (h_mk g3 5 0 3) (h_n g3) 0 0) (h_n g3) 1 1) 8 5 (h_n g3) = g4 at H4 ⊢
  refine V_aload_n dX3_init_56 rfl ?_
  refine V_new (N := 3) dX3_init_57 n_RX3_13 rfl (by rw [H4.1.1]; omega) (by have := H4.1.2; omega) ?_
  refine V_dup dX3_init_60 cat_R ?_
  have z4 : h_n g4 ≠ 0 := by rw [H4.1.1]; omega
  refine V_cI (as := []) dX3_init_61 c_RX3_15 rfl (by decide) rfl (Nat.le_of_ble_eq_true rfl) z4 (I_list g (h_n g4) (mk_ks (k := 5) (n := 0) (N := 3)) z4) (fun v9 h9 p9 => ?_)
  obtain ⟨p1, rfl⟩ := p9
  cases p1
  refine V_putRF dX3_init_64 f_RX3_29 rfl rfl rfl ((mk_k (h := g4) (k := 5) (n := 0) (N := 3) (by rw [H4.1.1]; omega)).trans H4.2.1.1) ?_
  have H5 := H4.st (f := 10) (by decide) rfl
  clear H4 z4
  generalize h_sr (h_sr (h_si (h_mk g4 5 0 3) (h_n g4) 0 0) (h_n g4) 1 1) 8 10 (h_n g4) = g5 at H5 ⊢
  refine V_aload_n dX3_init_67 rfl ?_
  refine V_new (N := 3) dX3_init_68 n_RX3_13 rfl (by rw [H5.1.1]; omega) (by have := H5.1.2; omega) ?_
  refine V_dup dX3_init_71 cat_R ?_
  have z5 : h_n g5 ≠ 0 := by rw [H5.1.1]; omega
  refine V_cI (as := []) dX3_init_72 c_RX3_15 rfl (by decide) rfl (Nat.le_of_ble_eq_true rfl) z5 (I_list g (h_n g5) (mk_ks (k := 5) (n := 0) (N := 3)) z5) (fun v9 h9 p9 => ?_)
  obtain ⟨p1, rfl⟩ := p9
  cases p1
  refine V_putRF dX3_init_75 f_RX3_32 rfl rfl rfl ((mk_k (h := g5) (k := 5) (n := 0) (N := 3) (by rw [H5.1.1]; omega)).trans H5.2.1.1) ?_
  have H6 := H5.st (f := 11) (by decide) rfl
  clear H5 z5
  generalize h_sr (h_sr (h_si (h_mk g5 5 0 3) (h_n g5) 0 0) (h_n g5) 1 1) 8 11 (h_n g5) = g6 at H6 ⊢
  refine V_aload_n dX3_init_78 rfl ?_
  refine V_new (N := 4) dX3_init_79 n_RX3_35 rfl (by rw [H6.1.1]; omega) (by have := H6.1.2; omega) ?_
  refine V_dup dX3_init_82 cat_R ?_
  have z6 : h_n g6 ≠ 0 := by rw [H6.1.1]; omega
  refine V_cI (as := []) dX3_init_83 c_RX3_37 rfl (by decide) rfl (Nat.le_of_ble_eq_true rfl) z6 (I_sb g (h_n g6) (mk_ks (k := 2) (n := 0) (N := 4)) z6 (by show h_n g6 ≠ h_n g6 + 1; omega) (by show h_n g6 + 1 + 1 ≤ _; rw [H6.1.1]; omega) (by show h_u g6 + 4 + 16 ≤ _; have := H6.1.2; omega)) (fun v9 h9 p9 => ?_)
  obtain ⟨p1, rfl⟩ := p9
  cases p1
  have k8 : h_k (h_mk (h_mk g6 2 0 4) 20 16 16) 8 = 9 := (mk_k (h := h_mk g6 2 0 4) (k := 20) (n := 16) (N := 16) (by show 8 ≠ h_n g6 + 1; rw [H6.1.1]; omega)).trans ((mk_k (h := g6) (k := 2) (n := 0) (N := 4) (by rw [H6.1.1]; omega)).trans H6.2.1.1)
  refine V_putRF dX3_init_86 f_RX3_38 rfl rfl rfl k8 ?_
  refine V_vret dX3_init_89 rfl ?_
  exact ⟨rfl, H6.xh⟩

-- deps: 09 10 11 12 13 14 15 20 21 30 40
theorem mk_k {h : AH} {k n N q : Nat} (hq : q ≠ h_n h) : h_k (h_mk h k n N) q = h_k h q := u1_n hq
theorem mk_l {h : AH} {k n N q : Nat} (hq : q ≠ h_n h) : h_l (h_mk h k n N) q = h_l h q := u1_n hq
theorem mk_r {h : AH} {k n N q j : Nat} (hq : q ≠ h_n h) : h_r (h_mk h k n N) q j = h_r h q j := if_neg hq
theorem mk_i {h : AH} {k n N q j : Nat} (hq : q ≠ h_n h) : h_i (h_mk h k n N) q j = h_i h q j := if_neg hq
theorem mk_ks {h : AH} {k n N : Nat} : h_k (h_mk h k n N) (h_n h) = k := u1_s
theorem mk_ls {h : AH} {k n N : Nat} : h_l (h_mk h k n N) (h_n h) = n := u1_s
theorem T_cpo3 (g : GP) {h : AH} (b C N : Nat) (hb : h_k h b = 24) (hl : h_l h b = C) (hCN : C < N ∧ N ≤ 1000) (hE : ∀ k, k < C → h_r h b k = 0 ∨ h_k h (h_r h b k) = 6 ∨ h_k h (h_r h b k) = 7 ∨ h_k h (h_r h b k) = 8) (hlt : ∀ q, h_k h q ≠ 0 → q ≠ h_n h) (h1 : h_n h + 1 ≤ z_CC) (h2 : h_u h + N ≤ z_CS) : Tr g m_J7_copyOf_6403c 3 [xR b, xI ((N : Nat) : Int), xR 4] h (fun r h' => r = .inl (some (xR (h_n h))) ∧ h' = h_cr (h_mk h 24 N N) b 0 (h_n h) 0 C) := by
  refine Tr.ofV (by decide) rfl (fun v hv => by simp only [List.mem_cons, List.not_mem_nil, or_false] at hv; rcases hv with rfl | rfl | rfl <;> first | rfl | exact cat_R) (Nat.le_of_ble_eq_true rfl) ?_
  have hbn : b ≠ h_n h := hlt b (by omega)
  change V g m_J7_copyOf_6403c 3 _ h 0 [xR b, xI ((N : Nat) : Int), xR 4, xU] []
  refine V_aload_n dJ7_copyOf_6403c_0 rfl ?_
  refine V_ldcM dJ7_copyOf_6403c_1 w_ldM ?_
  refine V_acmp_ne (tgt := 13) dJ7_copyOf_6403c_3 (by decide) (Or.inl rfl) (fun q => absurd rfl q) (fun _ => ?_)
  refine V_iload_n dJ7_copyOf_6403c_6 rfl ?_
  refine V_newaR (n := N) dJ7_copyOf_6403c_7 w_co_RJ7_2 rfl (by omega) h1 h2 ?_
  refine V_goto (tgt := 24) dJ7_copyOf_6403c_10 (by decide) ?_
  refine V_astore_n (lc' := [_, _, _, _]) dJ7_copyOf_6403c_24 (by decide) rfl ?_
  refine V_aload_n dJ7_copyOf_6403c_25 rfl ?_
  refine V_iconst dJ7_copyOf_6403c_26 ?_
  refine V_aload_n dJ7_copyOf_6403c_27 rfl ?_
  refine V_iconst dJ7_copyOf_6403c_28 ?_
  refine V_aload_n dJ7_copyOf_6403c_29 rfl ?_
  refine V_alen (t := 4) dJ7_copyOf_6403c_30 ((mk_k hbn).trans hb) (by omega) ?_
  rw [mk_l hbn, hl]
  refine V_iload_n dJ7_copyOf_6403c_31 rfl ?_
  refine V_pS (as := [_, _]) dJ7_copyOf_6403c_32 c_RJ7_304 rfl (by decide) rfl (Nat.le_of_ble_eq_true rfl) (T_J9_min_7cf53 g ((C : Nat) : Int) ((N : Nat) : Int) (by omega) (by omega)) ?_
  refine V_cpR (sp := 0) (dp := 0) (n := C) dJ7_copyOf_6403c_35 w_ac0 w_ac1 w_ac2 w_ac3 (by decide) (st4 (Nat.le_of_ble_eq_true rfl)) ((mk_k hbn).trans hb) mk_ks rfl rfl (by rw [if_neg (by omega)]) (by rw [mk_l hbn, hl]; omega) (by rw [mk_ls]; omega) (by rw [mk_l hbn]; omega) (by rw [mk_ls]; omega) (fun i hi => ?_) ?_
  · have hk := hE i hi
    rw [mk_r hbn, Nat.zero_add]
    rcases hk with hk | hk
    · exact Or.inl hk
    · rw [mk_k (hlt _ (by omega))]
      exact Or.inr hk
  refine V_aload_n dJ7_copyOf_6403c_38 rfl ?_
  refine V_aret dJ7_copyOf_6403c_39 rfl (by first | exact Or.inl ⟨_, rfl⟩ | exact Or.inr ⟨_, rfl⟩) ?_
  exact ⟨rfl, rfl⟩
theorem T_cpo2 (g : GP) {h : AH} (b C N : Nat) (hb : h_k h b = 24) (hl : h_l h b = C) (hCN : C < N ∧ N ≤ 1000) (hE : ∀ k, k < C → h_r h b k = 0 ∨ h_k h (h_r h b k) = 6 ∨ h_k h (h_r h b k) = 7 ∨ h_k h (h_r h b k) = 8) (hlt : ∀ q, h_k h q ≠ 0 → q ≠ h_n h) (h1 : h_n h + 1 ≤ z_CC) (h2 : h_u h + N ≤ z_CS) : Tr g m_J7_copyOf_1904c 4 [xR b, xI ((N : Nat) : Int)] h (fun r h' => r = .inl (some (xR (h_n h))) ∧ h' = h_cr (h_mk h 24 N N) b 0 (h_n h) 0 C) := by
  refine Tr.ofV (by decide) rfl (fun v hv => by simp only [List.mem_cons, List.not_mem_nil, or_false] at hv; rcases hv with rfl | rfl <;> first | rfl | exact cat_R) (Nat.le_of_ble_eq_true rfl) ?_
  change V g m_J7_copyOf_1904c 4 _ h 0 [xR b, xI ((N : Nat) : Int)] []
  refine V_aload_n dJ7_copyOf_1904c_0 rfl ?_
  refine V_iload_n dJ7_copyOf_1904c_1 rfl ?_
  refine V_aload_n dJ7_copyOf_1904c_2 rfl ?_
  refine V_getC dJ7_copyOf_1904c_3 (by decide) (st4 (Nat.le_of_ble_eq_true rfl)) w_gc0 w_gc2 w_gc3 w_gc4 hb ?_
  refine V_cS (as := [_, _, _]) dJ7_copyOf_1904c_6 c_RJ7_300 rfl (by decide) rfl (Nat.le_of_ble_eq_true rfl) (T_cpo3 g b C N hb hl hCN hE hlt h1 h2) (fun _ _ z => nomatch z.1) (fun v9 h9 p9 => ?_)
  obtain ⟨p1, rfl⟩ := p9
  cases p1
  refine V_aret dJ7_copyOf_1904c_9 rfl (by first | exact Or.inl ⟨_, rfl⟩ | exact Or.inr ⟨_, rfl⟩) ?_
  exact ⟨rfl, rfl⟩
/-- the new length of a row that grows -/
def gN (C : Nat) : Nat := if C = 0 then 10 else C + (if 1 < C / 2 then C / 2 else 1)
theorem gN_r {C : Nat} (hC : C ≤ 40) : C < gN C ∧ gN C ≤ 60 ∧ 10 ≤ gN C ∨ 0 < C := by
  unfold gN
  split <;> omega
/-- the world behind a list's growth -/
def gH (h : AH) (a b C : Nat) : AH := if C = 0 then h_sr (h_mk h 24 10 10) a 1 (h_n h) else h_sr (h_cr (h_mk h 24 (gN C) (gN C)) b 0 (h_n h) 0 C) a 1 (h_n h)
theorem T_grow1 (g : GP) {h : AH} (a : Nat) (n : Int) (b C : Nat) (E : Int → Nat) (H : LR h a n b C E) (hC : (C : Int) = n) (hC4 : C ≤ 40) (hE : ∀ k, k < C → h_r h b k = 0 ∨ h_k h (h_r h b k) = 6 ∨ h_k h (h_r h b k) = 7 ∨ h_k h (h_r h b k) = 8) (hlt : ∀ q, h_k h q ≠ 0 → q ≠ h_n h) (h1 : h_n h + 1 ≤ z_CC) (h2 : h_u h + 60 ≤ z_CS) : Tr g m_Jx4a65c_grow_92f84 5 [xR a, xI (n + 1)] h (fun r h' => r = .inl (some (xR (h_n h))) ∧ h' = gH h a b C) := by
  refine Tr.ofV (by decide) rfl (fun v hv => by simp only [List.mem_cons, List.not_mem_nil, or_false] at hv; rcases hv with rfl | rfl <;> first | rfl | exact cat_R) (Nat.le_of_ble_eq_true rfl) ?_
  have han : a ≠ h_n h := hlt a (by have := H.1; omega)
  by_cases c0 : C = 0
  · have hb1 : b = 1 := H.2.2.2.2.1 c0
    change V g m_Jx4a65c_grow_92f84 5 _ h 0 [xR a, xI (n + 1), xU, xU] []
    refine V_aload_n dJx4a65c_grow_92f84_0 rfl ?_
    refine V_getRv (v := b) dJx4a65c_grow_92f84_1 fg_RJx4a65c_9 rfl H.1 H.2.1 ?_
    rw [hb1]
    refine V_alenE dJx4a65c_grow_92f84_4 ?_
    refine V_istore_n (lc' := [_, _, _, _]) dJx4a65c_grow_92f84_5 (by decide) rfl ?_
    refine V_iload_n dJx4a65c_grow_92f84_6 rfl ?_
    refine V_if_gt (tgt := 20) dJx4a65c_grow_92f84_7 (by decide) (by decide) (fun q7 => absurd q7 (by decide)) (fun _ => ?_)
    refine V_aload_n dJx4a65c_grow_92f84_10 rfl ?_
    refine V_getRv (v := 1) dJx4a65c_grow_92f84_11 fg_RJx4a65c_9 rfl H.1 (H.2.1.trans hb1) ?_
    refine V_gsE dJx4a65c_grow_92f84_14 rfl w_E0 ?_
    refine V_acmp_eq (tgt := 45) dJx4a65c_grow_92f84_17 (by decide) (Or.inl rfl) (fun _ => ?_) (fun q => absurd rfl q)
    refine V_aload_n dJx4a65c_grow_92f84_45 rfl ?_
    refine V_bipush dJx4a65c_grow_92f84_46 (by decide) ?_
    refine V_iload_n dJx4a65c_grow_92f84_48 rfl ?_
    refine V_pS (as := [_, _]) dJx4a65c_grow_92f84_49 c_RJx4a65c_79 rfl (by decide) rfl (Nat.le_of_ble_eq_true rfl) (T_J9_max_7cf53 g 10 (n + 1) (by omega) (by omega)) ?_
    rw [show (if (10 : Int) < (n + 1) then (n + 1) else 10) = 10 from if_neg (by omega)]
    refine V_newaR (n := 10) dJx4a65c_grow_92f84_52 w_co_RJx4a65c_7 rfl (by omega) h1 (by omega) ?_
    refine V_dup_x1 dJx4a65c_grow_92f84_55 cat_R cat_R ?_
    refine V_putR dJx4a65c_grow_92f84_56 f_RJx4a65c_9 rfl rfl ((mk_k han).trans H.1) ?_
    refine V_aret dJx4a65c_grow_92f84_59 rfl (by first | exact Or.inl ⟨_, rfl⟩ | exact Or.inr ⟨_, rfl⟩) ?_
    refine ⟨rfl, ?_⟩
    unfold gH
    rw [if_pos c0]
  · have hk := H.2.2.2.2.2.1 c0
    change V g m_Jx4a65c_grow_92f84 5 _ h 0 [xR a, xI (n + 1), xU, xU] []
    refine V_aload_n dJx4a65c_grow_92f84_0 rfl ?_
    refine V_getRv (v := b) dJx4a65c_grow_92f84_1 fg_RJx4a65c_9 rfl H.1 H.2.1 ?_
    refine V_alen (t := 4) dJx4a65c_grow_92f84_4 hk.1 (by omega) ?_
    rw [hk.2]
    refine V_istore_n (lc' := [_, _, _, _]) dJx4a65c_grow_92f84_5 (by decide) rfl ?_
    refine V_iload_n dJx4a65c_grow_92f84_6 rfl ?_
    refine V_if_gt (tgt := 20) dJx4a65c_grow_92f84_7 (by decide) (by omega) (fun q7 => ?_) (fun q7 => absurd q7 (by omega))
    refine V_iload_n dJx4a65c_grow_92f84_20 rfl ?_
    refine V_iload_n dJx4a65c_grow_92f84_21 rfl ?_
    refine V_iload_n dJx4a65c_grow_92f84_22 rfl ?_
    refine V_isub dJx4a65c_grow_92f84_23 ?_
    refine V_iload_n dJx4a65c_grow_92f84_24 rfl ?_
    refine V_iconst dJx4a65c_grow_92f84_25 ?_
    refine V_ishr (z := (C : Int) / 2) dJx4a65c_grow_92f84_26 (ishr1 (by omega)) ?_
    refine V_pS (as := [_, _, _]) dJx4a65c_grow_92f84_27 c_RJx4a65c_73 rfl (by decide) rfl (Nat.le_of_ble_eq_true rfl) (T_J8_newLength_cabcc g ((C : Nat) : Int) ((n + 1) - ((C : Nat) : Int)) ((C : Int) / 2) (by omega) (by omega) (by omega) (by omega) (by omega) (by omega)) ?_
    obtain ⟨N, hN⟩ : ∃ N : Nat, (N : Int) = (((C : Nat) : Int) + (if ((n + 1) - ((C : Nat) : Int)) < ((C : Int) / 2) then ((C : Int) / 2) else ((n + 1) - ((C : Nat) : Int)))) := ⟨gN C, by unfold gN; rw [if_neg (by omega)]; (repeat' split) <;> omega⟩
    rw [← hN]
    have eN : N = gN C := by unfold gN; rw [if_neg (by omega)]; (repeat' split at *) <;> omega
    refine V_istore_n (lc' := [_, _, _, _]) dJx4a65c_grow_92f84_30 (by decide) rfl ?_
    refine V_aload_n dJx4a65c_grow_92f84_31 rfl ?_
    refine V_aload_n dJx4a65c_grow_92f84_32 rfl ?_
    refine V_getRv (v := b) dJx4a65c_grow_92f84_33 fg_RJx4a65c_9 rfl H.1 H.2.1 ?_
    refine V_iload_n dJx4a65c_grow_92f84_36 rfl ?_
    refine V_cS (as := [_, _]) dJx4a65c_grow_92f84_37 c_RJx4a65c_66 rfl (by decide) rfl (Nat.le_of_ble_eq_true rfl) (T_cpo2 g b C N hk.1 hk.2 (by unfold gN at eN; rw [if_neg (by omega)] at eN; (repeat' split at eN) <;> omega) hE hlt h1 (by unfold gN at eN; rw [if_neg (by omega)] at eN; (repeat' split at eN) <;> omega)) (fun _ _ z => nomatch z.1) (fun v9 h9 p9 => ?_)
    obtain ⟨p1, rfl⟩ := p9
    cases p1
    refine V_dup_x1 dJx4a65c_grow_92f84_40 cat_R cat_R ?_
    refine V_putR dJx4a65c_grow_92f84_41 f_RJx4a65c_9 rfl rfl ((mk_k (n := N) (N := N) (k := 24) han).trans H.1) ?_
    refine V_aret dJx4a65c_grow_92f84_44 rfl (by first | exact Or.inl ⟨_, rfl⟩ | exact Or.inr ⟨_, rfl⟩) ?_
    refine ⟨rfl, ?_⟩
    unfold gH
    rw [if_neg c0, ← eN]
theorem T_grow0 (g : GP) {h : AH} (a : Nat) (n : Int) (b C : Nat) (E : Int → Nat) (H : LR h a n b C E) (hC : (C : Int) = n) (hC4 : C ≤ 40) (hE : ∀ k, k < C → h_r h b k = 0 ∨ h_k h (h_r h b k) = 6 ∨ h_k h (h_r h b k) = 7 ∨ h_k h (h_r h b k) = 8) (hlt : ∀ q, h_k h q ≠ 0 → q ≠ h_n h) (h1 : h_n h + 1 ≤ z_CC) (h2 : h_u h + 60 ≤ z_CS) : Tr g m_Jx4a65c_grow_d5877 6 [xR a] h (fun r h' => r = .inl (some (xR (h_n h))) ∧ h' = gH h a b C) := by
  refine Tr.ofV (by decide) rfl (fun v hv => by simp only [List.mem_cons, List.not_mem_nil, or_false] at hv; subst hv; exact cat_R) (Nat.le_of_ble_eq_true rfl) ?_
  change V g m_Jx4a65c_grow_d5877 6 _ h 0 [xR a] []
  refine V_aload_n dJx4a65c_grow_d5877_0 rfl ?_
  refine V_aload_n dJx4a65c_grow_d5877_1 rfl ?_
  refine V_getIv (z := n) dJx4a65c_grow_d5877_2 fg_RJx4a65c_48 rfl H.1 H.2.2.1 ?_
  refine V_iconst dJx4a65c_grow_d5877_5 ?_
  refine V_iadd dJx4a65c_grow_d5877_6 ?_
  refine V_cV (as := [_]) dJx4a65c_grow_d5877_7 c_RJx4a65c_69 rfl (by decide) rfl (Nat.le_of_ble_eq_true rfl) H.1 (T_grow1 g a n b C E H hC hC4 hE hlt h1 h2) (fun _ _ z => nomatch z.1) (fun v9 h9 p9 => ?_)
  obtain ⟨p1, rfl⟩ := p9
  cases p1
  refine V_aret dJx4a65c_grow_d5877_10 rfl (by first | exact Or.inl ⟨_, rfl⟩ | exact Or.inr ⟨_, rfl⟩) ?_
  exact ⟨rfl, rfl⟩
theorem gH_k {h : AH} {a b C q : Nat} (hq : q ≠ h_n h) : h_k (gH h a b C) q = h_k h q := by
  unfold gH
  split
  · exact mk_k (k := 24) (n := 10) (N := 10) hq
  · exact mk_k (k := 24) (n := gN C) (N := gN C) hq
theorem gH_ks {h : AH} {a b C : Nat} : h_k (gH h a b C) (h_n h) = 24 := by
  unfold gH
  split
  · exact mk_ks (k := 24) (n := 10) (N := 10)
  · exact mk_ks (k := 24) (n := gN C) (N := gN C)
theorem gH_ls {h : AH} {a b C : Nat} : h_l (gH h a b C) (h_n h) = gN C := by
  unfold gH
  split
  · rename_i c0
    subst c0
    exact mk_ls (k := 24) (n := 10) (N := 10)
  · exact mk_ls (k := 24) (n := gN C) (N := gN C)
/-- the world behind an element put at a list's end -/
def aH (h : AH) (a b : Nat) (n : Int) (C e : Nat) : AH := if (C : Int) = n then h_si (h_sr (gH h a b C) (h_n h) C e) a 2 (n + 1) else h_si (h_sr h b n.toNat e) a 2 (n + 1)
theorem T_add3 (g : GP) {h : AH} (a e : Nat) (n : Int) (b C : Nat) (E : Int → Nat) (H : LR h a n b C E) (hC4 : C ≤ 60) (hn4 : n ≤ 39) (he : h_k h e = 6 ∨ h_k h e = 7 ∨ h_k h e = 8) (hE : ∀ k : Nat, (k : Int) < n → h_r h b k = 0 ∨ h_k h (h_r h b k) = 6 ∨ h_k h (h_r h b k) = 7 ∨ h_k h (h_r h b k) = 8) (hlt : ∀ q, h_k h q ≠ 0 → q ≠ h_n h) (h1 : h_n h + 1 ≤ z_CC) (h2 : h_u h + 60 ≤ z_CS) : Tr g m_Jx4a65c_add_72be8 7 [xR a, xR e, xR b, xI n] h (fun r h' => r = .inl none ∧ h' = aH h a b n C e) := by
  refine Tr.ofV (by decide) rfl (fun v hv => by simp only [List.mem_cons, List.not_mem_nil, or_false] at hv; rcases hv with rfl | rfl | rfl | rfl <;> first | rfl | exact cat_R) (Nat.le_of_ble_eq_true rfl) ?_
  have han : a ≠ h_n h := hlt a (by have := H.1; omega)
  have hb0 := H.2.2.2.1
  by_cases c0 : C = 0
  · obtain rfl : b = 1 := H.2.2.2.2.1 c0
    change V g m_Jx4a65c_add_72be8 7 _ h 0 [xR a, xR e, xR 1, xI n] []
    refine V_iload_n dJx4a65c_add_72be8_0 rfl ?_
    refine V_aload_n dJx4a65c_add_72be8_1 rfl ?_
    refine V_alenE dJx4a65c_add_72be8_2 ?_
    refine V_icmp_ne (tgt := 11) dJx4a65c_add_72be8_3 (by decide) (by omega) (by omega) (fun q3 => absurd q3 (by omega)) (fun q3 => ?_)
    refine V_aload_n dJx4a65c_add_72be8_6 rfl ?_
    refine V_cV (as := []) dJx4a65c_add_72be8_7 c_RJx4a65c_129 rfl (by decide) rfl (Nat.le_of_ble_eq_true rfl) H.1 (T_grow0 g a n _ C E H (by omega) (by omega) (fun k hk9 => hE k (by omega)) hlt h1 h2) (fun _ _ z => nomatch z.1) (fun v9 h9 p9 => ?_)
    obtain ⟨p1, rfl⟩ := p9
    cases p1
    refine V_astore_n (lc' := [_, _, _, _]) dJx4a65c_add_72be8_10 (by decide) rfl ?_
    refine V_aload_n dJx4a65c_add_72be8_11 rfl ?_
    refine V_iload_n dJx4a65c_add_72be8_12 rfl ?_
    refine V_aload_n dJx4a65c_add_72be8_13 rfl ?_
    refine V_aast (j := C) dJx4a65c_add_72be8_14 gH_ks (by rw [gH_k (hlt e (by omega))]; exact he) (by omega) (by rw [gH_ls]; unfold gN; (repeat' split) <;> omega) (by rw [gH_ls]; unfold gN; (repeat' split) <;> omega) ?_
    refine V_aload_n dJx4a65c_add_72be8_15 rfl ?_
    refine V_iload_n dJx4a65c_add_72be8_16 rfl ?_
    refine V_iconst dJx4a65c_add_72be8_17 ?_
    refine V_iadd dJx4a65c_add_72be8_18 ?_
    refine V_putI dJx4a65c_add_72be8_19 f_RJx4a65c_48 rfl ((gH_k han).trans H.1) ?_
    refine V_vret dJx4a65c_add_72be8_22 rfl ?_
    refine ⟨rfl, ?_⟩
    unfold aH
    rw [if_pos (by omega)]
  · have hk := H.2.2.2.2.2.1 c0
    by_cases cn : (C : Int) = n
    · skip
      change V g m_Jx4a65c_add_72be8 7 _ h 0 [xR a, xR e, xR b, xI n] []
      refine V_iload_n dJx4a65c_add_72be8_0 rfl ?_
      refine V_aload_n dJx4a65c_add_72be8_1 rfl ?_
      refine V_alen (t := 4) dJx4a65c_add_72be8_2 hk.1 (by omega) ?_
      rw [hk.2]
      refine V_icmp_ne (tgt := 11) dJx4a65c_add_72be8_3 (by decide) (by omega) (by omega) (fun q3 => absurd q3 (by omega)) (fun q3 => ?_)
      refine V_aload_n dJx4a65c_add_72be8_6 rfl ?_
      refine V_cV (as := []) dJx4a65c_add_72be8_7 c_RJx4a65c_129 rfl (by decide) rfl (Nat.le_of_ble_eq_true rfl) H.1 (T_grow0 g a n _ C E H (by omega) (by omega) (fun k hk9 => hE k (by omega)) hlt h1 h2) (fun _ _ z => nomatch z.1) (fun v9 h9 p9 => ?_)
      obtain ⟨p1, rfl⟩ := p9
      cases p1
      refine V_astore_n (lc' := [_, _, _, _]) dJx4a65c_add_72be8_10 (by decide) rfl ?_
      refine V_aload_n dJx4a65c_add_72be8_11 rfl ?_
      refine V_iload_n dJx4a65c_add_72be8_12 rfl ?_
      refine V_aload_n dJx4a65c_add_72be8_13 rfl ?_
      refine V_aast (j := C) dJx4a65c_add_72be8_14 gH_ks (by rw [gH_k (hlt e (by omega))]; exact he) (by omega) (by rw [gH_ls]; unfold gN; (repeat' split) <;> omega) (by rw [gH_ls]; unfold gN; (repeat' split) <;> omega) ?_
      refine V_aload_n dJx4a65c_add_72be8_15 rfl ?_
      refine V_iload_n dJx4a65c_add_72be8_16 rfl ?_
      refine V_iconst dJx4a65c_add_72be8_17 ?_
      refine V_iadd dJx4a65c_add_72be8_18 ?_
      refine V_putI dJx4a65c_add_72be8_19 f_RJx4a65c_48 rfl ((gH_k han).trans H.1) ?_
      refine V_vret dJx4a65c_add_72be8_22 rfl ?_
      refine ⟨rfl, ?_⟩
      unfold aH
      rw [if_pos cn]
    · skip
      change V g m_Jx4a65c_add_72be8 7 _ h 0 [xR a, xR e, xR b, xI n] []
      refine V_iload_n dJx4a65c_add_72be8_0 rfl ?_
      refine V_aload_n dJx4a65c_add_72be8_1 rfl ?_
      refine V_alen (t := 4) dJx4a65c_add_72be8_2 hk.1 (by omega) ?_
      rw [hk.2]
      refine V_icmp_ne (tgt := 11) dJx4a65c_add_72be8_3 (by decide) (by omega) (by omega) (fun q3 => ?_) (fun q3 => absurd q3 (by omega))
      refine V_aload_n dJx4a65c_add_72be8_11 rfl ?_
      refine V_iload_n dJx4a65c_add_72be8_12 rfl ?_
      refine V_aload_n dJx4a65c_add_72be8_13 rfl ?_
      refine V_aast (j := n.toNat) dJx4a65c_add_72be8_14 hk.1 he (by omega) (by rw [hk.2]; omega) (by rw [hk.2]; omega) ?_
      refine V_aload_n dJx4a65c_add_72be8_15 rfl ?_
      refine V_iload_n dJx4a65c_add_72be8_16 rfl ?_
      refine V_iconst dJx4a65c_add_72be8_17 ?_
      refine V_iadd dJx4a65c_add_72be8_18 ?_
      refine V_putI dJx4a65c_add_72be8_19 f_RJx4a65c_48 rfl H.1 ?_
      refine V_vret dJx4a65c_add_72be8_22 rfl ?_
      refine ⟨rfl, ?_⟩
      unfold aH
      rw [if_neg cn]
theorem LR.mc {h : AH} {a : Nat} {n : Int} {b C : Nat} {E : Int → Nat} {z : Int} (H : LR h a n b C E) : LR (h_si h a 0 z) a n b C E := by
  obtain ⟨q1, q2, q3, q4⟩ := H
  refine ⟨q1, q2, ?_, q4⟩
  rw [hsi_at, if_neg (fun q => by have := q.2; omega)]
  exact q3
theorem T_add1 (g : GP) {h : AH} (a e : Nat) (n : Int) (b C : Nat) (E : Int → Nat) (H : LR h a n b C E) (hC4 : C ≤ 60) (hn4 : n ≤ 39) (he : h_k h e = 6 ∨ h_k h e = 7 ∨ h_k h e = 8) (hE : ∀ k : Nat, (k : Int) < n → h_r h b k = 0 ∨ h_k h (h_r h b k) = 6 ∨ h_k h (h_r h b k) = 7 ∨ h_k h (h_r h b k) = 8) (hlt : ∀ q, h_k h q ≠ 0 → q ≠ h_n h) (h1 : h_n h + 1 ≤ z_CC) (h2 : h_u h + 60 ≤ z_CS) : Tr g m_Jx4a65c_add_9ea2d 8 [xR a, xR e] h (fun r h' => r = .inl (some (xI 1)) ∧ h' = aH (h_si h a 0 (h_i h a 0 + 1)) a b n C e) := by
  refine Tr.ofV (by decide) rfl (fun v hv => by simp only [List.mem_cons, List.not_mem_nil, or_false] at hv; rcases hv with rfl | rfl <;> first | rfl | exact cat_R) (Nat.le_of_ble_eq_true rfl) ?_
  change V g m_Jx4a65c_add_9ea2d 8 _ h 0 [xR a, xR e] []
  refine V_aload_n dJx4a65c_add_9ea2d_0 rfl ?_
  refine V_dup dJx4a65c_add_9ea2d_1 cat_R ?_
  refine V_getIv (z := h_i h a 0) dJx4a65c_add_9ea2d_2 fg_RJx4a65c_63 rfl H.1 rfl ?_
  refine V_iconst dJx4a65c_add_9ea2d_5 ?_
  refine V_iadd dJx4a65c_add_9ea2d_6 ?_
  refine V_putI dJx4a65c_add_9ea2d_7 f_RJx4a65c_63 rfl H.1 ?_
  have H2 : LR (h_si h a 0 (h_i h a 0 + 1)) a n b C E := H.mc
  refine V_aload_n dJx4a65c_add_9ea2d_10 rfl ?_
  refine V_aload_n dJx4a65c_add_9ea2d_11 rfl ?_
  refine V_aload_n dJx4a65c_add_9ea2d_12 rfl ?_
  refine V_getRv (v := b) dJx4a65c_add_9ea2d_13 fg_RJx4a65c_9 rfl H2.1 H2.2.1 ?_
  refine V_aload_n dJx4a65c_add_9ea2d_16 rfl ?_
  refine V_getIv (z := n) dJx4a65c_add_9ea2d_17 fg_RJx4a65c_48 rfl H2.1 H2.2.2.1 ?_
  refine V_cV (as := [_, _, _]) dJx4a65c_add_9ea2d_20 c_RJx4a65c_131 rfl (by decide) rfl (Nat.le_of_ble_eq_true rfl) H2.1 (T_add3 g a e n b C E H2 hC4 hn4 he hE hlt h1 h2) (fun _ _ z => nomatch z.1) (fun v9 h9 p9 => ?_)
  obtain ⟨p1, rfl⟩ := p9
  cases p1
  refine V_iconst dJx4a65c_add_9ea2d_23 ?_
  refine V_zret (by first | exact pI_01 _ | omega) dJx4a65c_add_9ea2d_24 rfl ?_
  exact ⟨rfl, rfl⟩
/-- only list a (its row b) has changed, and holds n now -/
def LSt (h h' : AH) (a b : Nat) (n : Int) : Prop := h_k h' = h_k h ∧ h_l h' = h_l h ∧ h_n h' = h_n h ∧ h_u h' = h_u h ∧ (∀ q j, q ≠ a → h_i h' q j = h_i h q j) ∧ (∀ j, j ≠ 0 → j ≠ 2 → h_i h' a j = h_i h a j) ∧ h_i h' a 2 = n ∧ ∀ q j, q ≠ b → h_r h' q j = h_r h q j
theorem LSt.sr {h h' : AH} {a b : Nat} {n : Int} {j v : Nat} (S : LSt h h' a b n) : LSt h (h_sr h' b j v) a b n := by
  obtain ⟨s1, s2, s3, s4, s5, s6, s7, s8⟩ := S
  refine ⟨s1, s2, s3, s4, s5, s6, s7, fun q i hq => ?_⟩
  exact (hsr_ne (Or.inl hq)).2.trans (s8 q i hq)
theorem LSt.st {h : AH} {a b : Nat} {z n : Int} : LSt h (h_si (h_si h a 0 z) a 2 n) a b n := by
  refine ⟨rfl, rfl, rfl, rfl, fun q j hq => ?_, fun j h0 h2 => ?_, ?_, fun q j _ => rfl⟩
  · rw [hsi_at, if_neg (fun w => hq w.1), hsi_at, if_neg (fun w => hq w.1)]
  · rw [hsi_at, if_neg (fun w => h2 w.2), hsi_at, if_neg (fun w => h0 w.2)]
  · rw [hsi_at, if_pos ⟨rfl, rfl⟩]
theorem T_clear (g : GP) {h : AH} (a : Nat) (n : Int) (b C : Nat) (E : Int → Nat) (H : LR h a n b C E) : Tr g m_Jx4a65c_clear_da8c8 1 [xR a] h (fun r h' => r = .inl none ∧ LSt h h' a b 0) := by
  refine Tr.ofV (by decide) rfl (fun v hv => by simp only [List.mem_cons, List.not_mem_nil, or_false] at hv; subst hv; exact cat_R) (Nat.le_of_ble_eq_true rfl) ?_
  have hb0 := H.2.2.2.1
  have lp : ∀ k : Int, (0 ≤ k ∧ k ≤ n) → ∀ h2, LSt h h2 a b 0 → V g m_Jx4a65c_clear_da8c8 1 (fun r h' => r = .inl none ∧ LSt h h' a b 0) h2 27 [xR a, xR b, xI n, xI k] [] := by
    refine lp_up n (fun k ih => ?_)
    intro hk0 h2 hs
    refine V_iload_n dJx4a65c_clear_da8c8_27 rfl ?_
    refine V_iload_n dJx4a65c_clear_da8c8_28 rfl ?_
    refine V_icmp_ge (tgt := 42) dJx4a65c_clear_da8c8_29 (by decide) (by omega) (by omega) (fun q29 => ?_) (fun q29 => ?_)
    · refine V_vret dJx4a65c_clear_da8c8_42 rfl ?_
      exact ⟨rfl, hs⟩
    · refine V_aload_n dJx4a65c_clear_da8c8_32 rfl ?_
      refine V_iload_n dJx4a65c_clear_da8c8_33 rfl ?_
      refine V_null dJx4a65c_clear_da8c8_34 ?_
      have hk := H.2.2.2.2.2.1 (by omega)
      refine V_aastN (j := k.toNat) dJx4a65c_clear_da8c8_35 (by rw [hs.1]; exact hk.1) (by omega) (by rw [hs.2.1, hk.2]; omega) (by rw [hs.2.1, hk.2]; omega) ?_
      refine V_iinc (lc' := [_, _, _, _]) dJx4a65c_clear_da8c8_36 rfl (by decide) rfl ?_
      refine V_goto (tgt := 27) dJx4a65c_clear_da8c8_39 (by decide) ?_
      exact ih (by omega) ⟨by omega, by omega⟩ _ hs.sr
  change V g m_Jx4a65c_clear_da8c8 1 _ h 0 [xR a, xU, xU, xU] []
  refine V_aload_n dJx4a65c_clear_da8c8_0 rfl ?_
  refine V_dup dJx4a65c_clear_da8c8_1 cat_R ?_
  refine V_getIv (z := h_i h a 0) dJx4a65c_clear_da8c8_2 fg_RJx4a65c_63 rfl H.1 rfl ?_
  refine V_iconst dJx4a65c_clear_da8c8_5 ?_
  refine V_iadd dJx4a65c_clear_da8c8_6 ?_
  refine V_putI dJx4a65c_clear_da8c8_7 f_RJx4a65c_63 rfl H.1 ?_
  have H2 : LR (h_si h a 0 (h_i h a 0 + 1)) a n b C E := H.mc
  refine V_aload_n dJx4a65c_clear_da8c8_10 rfl ?_
  refine V_getRv (v := b) dJx4a65c_clear_da8c8_11 fg_RJx4a65c_9 rfl H2.1 H2.2.1 ?_
  refine V_astore_n (lc' := [_, _, _, _]) dJx4a65c_clear_da8c8_14 (by decide) rfl ?_
  refine V_aload_n dJx4a65c_clear_da8c8_15 rfl ?_
  refine V_getIv (z := n) dJx4a65c_clear_da8c8_16 fg_RJx4a65c_48 rfl H2.1 H2.2.2.1 ?_
  refine V_istore_n (lc' := [_, _, _, _]) dJx4a65c_clear_da8c8_19 (by decide) rfl ?_
  refine V_aload_n dJx4a65c_clear_da8c8_20 rfl ?_
  refine V_iconst dJx4a65c_clear_da8c8_21 ?_
  refine V_dup_x1 dJx4a65c_clear_da8c8_22 rfl cat_R ?_
  refine V_putI dJx4a65c_clear_da8c8_23 f_RJx4a65c_48 rfl H.1 ?_
  refine V_istore_n (lc' := [_, _, _, _]) dJx4a65c_clear_da8c8_26 (by decide) rfl ?_
  exact lp 0 ⟨by omega, by omega⟩ _ LSt.st
theorem LSt.cr {h h' : AH} {a b x : Nat} {n : Int} {sp dp m : Nat} (S : LSt h h' a b n) : LSt h (h_cr h' x sp b dp m) a b n := by
  obtain ⟨s1, s2, s3, s4, s5, s6, s7, s8⟩ := S
  exact ⟨s1, s2, s3, s4, s5, s6, s7, fun q i hq => (if_neg (fun w => hq w.1)).trans (s8 q i hq)⟩
/-- what an element taken out leaves -/
theorem LR.of {h h' : AH} {a b C : Nat} {n n' : Int} {E E' : Int → Nat} (H : LR h a n b C E) (S : LSt h h' a b n') (hab : a ≠ b) (hn : 0 ≤ n' ∧ n' ≤ C) (hE : ∀ k : Nat, (k : Int) < n' → h_r h' b k = E' k) : LR h' a n' b C E' := by
  obtain ⟨q1, q2, q3, q4, q5, q6, q7⟩ := H
  obtain ⟨s1, s2, s3, s4, s5, s6, s7, s8⟩ := S
  refine ⟨by rw [s1]; exact q1, by rw [s8 a 1 hab]; exact q2, s7, by omega, q5, fun c => ?_, hE⟩
  rw [s1, s2]
  exact q6 c
theorem LR.ab {h : AH} {a b C : Nat} {n : Int} {E : Int → Nat} (H : LR h a n b C E) (ha : 8 ≤ a) : a ≠ b := by
  obtain ⟨q1, q2, q3, q4, q5, q6, q7⟩ := H
  by_cases c : C = 0
  · have := q5 c; omega
  · have := (q6 c).1
    intro e
    rw [← e, q1] at this
    omega
def eRm (E : Int → Nat) (i : Int) : Int → Nat := fun k => if k < i then E k else E (k + 1)
theorem rmA {h : AH} {a b C : Nat} {n i z : Int} {E : Int → Nat} (H : LR h a n b C E) (hab : a ≠ b) (hi : 0 ≤ i ∧ i < n) (hc : i < n - 1) : LR (h_sr (h_si (h_cr (h_si h a 0 z) b (i + 1).toNat b i.toNat (n - 1 - i).toNat) a 2 (n - 1)) b (n - 1).toNat 0) a (n - 1) b C (eRm E i) ∧ LSt h (h_sr (h_si (h_cr (h_si h a 0 z) b (i + 1).toNat b i.toNat (n - 1 - i).toNat) a 2 (n - 1)) b (n - 1).toNat 0) a b (n - 1) := by
  have S : LSt h (h_sr (h_si (h_cr (h_si h a 0 z) b (i + 1).toNat b i.toNat (n - 1 - i).toNat) a 2 (n - 1)) b (n - 1).toNat 0) a b (n - 1) := LSt.sr (LSt.cr (LSt.st (z := z)))
  have h4 := H.2.2.2.1
  refine ⟨H.of S hab (by omega) (fun k hk => ?_), S⟩
  refine ((hsr_ne (Or.inr (by omega))).2).trans ?_
  show (if b = b ∧ i.toNat ≤ k ∧ k < i.toNat + (n - 1 - i).toNat then h_r h b ((i + 1).toNat + (k - i.toNat)) else h_r h b k) = eRm E i k
  unfold eRm
  by_cases e : (k : Int) < i
  · rw [if_neg (by omega), if_pos e]
    exact H.2.2.2.2.2.2 k (by omega)
  · rw [if_pos ⟨rfl, by omega, by omega⟩, if_neg e, H.2.2.2.2.2.2 _ (by omega)]
    congr 1
    omega
theorem rmB {h : AH} {a b C : Nat} {n i z : Int} {E : Int → Nat} (H : LR h a n b C E) (hab : a ≠ b) (hi : 0 ≤ i ∧ i < n) (hc : ¬ i < n - 1) : LR (h_sr (h_si (h_si h a 0 z) a 2 (n - 1)) b (n - 1).toNat 0) a (n - 1) b C (eRm E i) ∧ LSt h (h_sr (h_si (h_si h a 0 z) a 2 (n - 1)) b (n - 1).toNat 0) a b (n - 1) := by
  have S : LSt h (h_sr (h_si (h_si h a 0 z) a 2 (n - 1)) b (n - 1).toNat 0) a b (n - 1) := LSt.sr (LSt.st (z := z))
  have h4 := H.2.2.2.1
  refine ⟨H.of S hab (by omega) (fun k hk => ?_), S⟩
  refine ((hsr_ne (Or.inr (by omega))).2).trans ?_
  unfold eRm
  rw [if_pos (by omega)]
  exact H.2.2.2.2.2.2 k (by omega)
theorem T_fastRm (g : GP) {h : AH} (a : Nat) (i n : Int) (b C : Nat) (E : Int → Nat) (H : LR h a n b C E) (ha8 : 8 ≤ a) (hi : 0 ≤ i ∧ i < n) (hE : ∀ k : Nat, (k : Int) < n → h_r h b k = 0 ∨ h_k h (h_r h b k) = 6 ∨ h_k h (h_r h b k) = 7 ∨ h_k h (h_r h b k) = 8) : Tr g m_Jx4a65c_fastRemove_b59b0 1 [xR a, xR b, xI i] h (fun r h' => r = .inl none ∧ LR h' a (n - 1) b C (eRm E i) ∧ LSt h h' a b (n - 1)) := by
  refine Tr.ofV (by decide) rfl (fun v hv => by simp only [List.mem_cons, List.not_mem_nil, or_false] at hv; rcases hv with rfl | rfl | rfl <;> first | rfl | exact cat_R) (Nat.le_of_ble_eq_true rfl) ?_
  have hb0 := H.2.2.2.1
  have hk := H.2.2.2.2.2.1 (by omega)
  have hab := H.ab ha8
  change V g m_Jx4a65c_fastRemove_b59b0 1 _ h 0 [xR a, xR b, xI i, xU] []
  refine V_aload_n dJx4a65c_fastRemove_b59b0_0 rfl ?_
  refine V_dup dJx4a65c_fastRemove_b59b0_1 cat_R ?_
  refine V_getIv (z := h_i h a 0) dJx4a65c_fastRemove_b59b0_2 fg_RJx4a65c_63 rfl H.1 rfl ?_
  refine V_iconst dJx4a65c_fastRemove_b59b0_5 ?_
  refine V_iadd dJx4a65c_fastRemove_b59b0_6 ?_
  refine V_putI dJx4a65c_fastRemove_b59b0_7 f_RJx4a65c_63 rfl H.1 ?_
  have H2 : LR (h_si h a 0 (h_i h a 0 + 1)) a n b C E := H.mc
  refine V_aload_n dJx4a65c_fastRemove_b59b0_10 rfl ?_
  refine V_getIv (z := n) dJx4a65c_fastRemove_b59b0_11 fg_RJx4a65c_48 rfl H2.1 H2.2.2.1 ?_
  refine V_iconst dJx4a65c_fastRemove_b59b0_14 ?_
  refine V_isub dJx4a65c_fastRemove_b59b0_15 ?_
  refine V_dup dJx4a65c_fastRemove_b59b0_16 rfl ?_
  refine V_istore_n (lc' := [_, _, _, _]) dJx4a65c_fastRemove_b59b0_17 (by decide) rfl ?_
  refine V_iload_n dJx4a65c_fastRemove_b59b0_18 rfl ?_
  refine V_icmp_le (tgt := 34) dJx4a65c_fastRemove_b59b0_19 (by decide) (by omega) (by omega) (fun q19 => ?_) (fun q19 => ?_)
  · refine V_aload_n dJx4a65c_fastRemove_b59b0_34 rfl ?_
    refine V_aload_n dJx4a65c_fastRemove_b59b0_35 rfl ?_
    refine V_iload_n dJx4a65c_fastRemove_b59b0_36 rfl ?_
    refine V_dup_x1 dJx4a65c_fastRemove_b59b0_37 rfl cat_R ?_
    refine V_putI dJx4a65c_fastRemove_b59b0_38 f_RJx4a65c_48 rfl H.1 ?_
    refine V_null dJx4a65c_fastRemove_b59b0_41 ?_
    refine V_aastN (j := (n - 1).toNat) dJx4a65c_fastRemove_b59b0_42 hk.1 (by omega) (by show _ < h_l h b; rw [hk.2]; omega) (by show h_l h b ≤ _; rw [hk.2]; omega) ?_
    refine V_vret dJx4a65c_fastRemove_b59b0_43 rfl ?_
    first | (have hcA : i < n - 1 := by omega
             exact ⟨rfl, rmA (z := h_i h a 0 + 1) H hab hi hcA⟩) | exact ⟨rfl, rmB (z := h_i h a 0 + 1) H hab hi (by omega)⟩
  · refine V_aload_n dJx4a65c_fastRemove_b59b0_22 rfl ?_
    refine V_iload_n dJx4a65c_fastRemove_b59b0_23 rfl ?_
    refine V_iconst dJx4a65c_fastRemove_b59b0_24 ?_
    refine V_iadd dJx4a65c_fastRemove_b59b0_25 ?_
    refine V_aload_n dJx4a65c_fastRemove_b59b0_26 rfl ?_
    refine V_iload_n dJx4a65c_fastRemove_b59b0_27 rfl ?_
    refine V_iload_n dJx4a65c_fastRemove_b59b0_28 rfl ?_
    refine V_iload_n dJx4a65c_fastRemove_b59b0_29 rfl ?_
    refine V_isub dJx4a65c_fastRemove_b59b0_30 ?_
    refine V_cpR (sp := (i + 1).toNat) (dp := i.toNat) (n := (n - 1 - i).toNat) dJx4a65c_fastRemove_b59b0_31 w_acL w_ac1 w_ac2 w_ac3 (by decide) (st4 (Nat.le_of_ble_eq_true rfl)) hk.1 hk.1 (by omega) (by omega) (by omega) (by show _ ≤ h_l h b; rw [hk.2]; omega) (by show _ ≤ h_l h b; rw [hk.2]; omega) (by show h_l h b ≤ _; rw [hk.2]; omega) (by show h_l h b ≤ _; rw [hk.2]; omega) (fun x hx => hE _ (by omega)) ?_
    refine V_aload_n dJx4a65c_fastRemove_b59b0_34 rfl ?_
    refine V_aload_n dJx4a65c_fastRemove_b59b0_35 rfl ?_
    refine V_iload_n dJx4a65c_fastRemove_b59b0_36 rfl ?_
    refine V_dup_x1 dJx4a65c_fastRemove_b59b0_37 rfl cat_R ?_
    refine V_putI dJx4a65c_fastRemove_b59b0_38 f_RJx4a65c_48 rfl H.1 ?_
    refine V_null dJx4a65c_fastRemove_b59b0_41 ?_
    refine V_aastN (j := (n - 1).toNat) dJx4a65c_fastRemove_b59b0_42 hk.1 (by omega) (by show _ < h_l h b; rw [hk.2]; omega) (by show h_l h b ≤ _; rw [hk.2]; omega) ?_
    refine V_vret dJx4a65c_fastRemove_b59b0_43 rfl ?_
    first | (have hcA : i < n - 1 := by omega
             exact ⟨rfl, rmA (z := h_i h a 0 + 1) H hab hi hcA⟩) | exact ⟨rfl, rmB (z := h_i h a 0 + 1) H hab hi (by omega)⟩
theorem T_remove (g : GP) {h : AH} (a : Nat) (i n : Int) (b C : Nat) (E : Int → Nat) (H : LR h a n b C E) (ha8 : 8 ≤ a) (hi : 0 ≤ i ∧ i < n) (hE : ∀ k : Nat, (k : Int) < n → h_r h b k = 0 ∨ h_k h (h_r h b k) = 6 ∨ h_k h (h_r h b k) = 7 ∨ h_k h (h_r h b k) = 8) : Tr g m_Jx4a65c_remove_915e3 3 [xR a, xI i] h (fun r h' => r = .inl (some (xR (E i))) ∧ LR h' a (n - 1) b C (eRm E i) ∧ LSt h h' a b (n - 1)) := by
  refine Tr.ofV (by decide) rfl (fun v hv => by simp only [List.mem_cons, List.not_mem_nil, or_false] at hv; rcases hv with rfl | rfl <;> first | rfl | exact cat_R) (Nat.le_of_ble_eq_true rfl) ?_
  have hb0 := H.2.2.2.1
  obtain ⟨w1, w2, w3, w4⟩ := H.row hi
  change V g m_Jx4a65c_remove_915e3 3 _ h 0 [xR a, xI i, xU, xU] []
  refine V_iload_n dJx4a65c_remove_915e3_0 rfl ?_
  refine V_aload_n dJx4a65c_remove_915e3_1 rfl ?_
  refine V_getIv (z := n) dJx4a65c_remove_915e3_2 fg_RJx4a65c_48 rfl H.1 H.2.2.1 ?_
  refine V_pS (as := [_, _]) dJx4a65c_remove_915e3_5 c_RJx4a65c_118 rfl (by decide) rfl (Nat.le_of_ble_eq_true rfl) (T_J15_checkIndex_7cf53 g i n (by omega) (by omega) (by omega)) ?_
  refine V_pop dJx4a65c_remove_915e3_8 rfl ?_
  refine V_aload_n dJx4a65c_remove_915e3_9 rfl ?_
  refine V_getRv (v := b) dJx4a65c_remove_915e3_10 fg_RJx4a65c_9 rfl H.1 H.2.1 ?_
  refine V_astore_n (lc' := [_, _, _, _]) dJx4a65c_remove_915e3_13 (by decide) rfl ?_
  refine V_aload_n dJx4a65c_remove_915e3_14 rfl ?_
  refine V_iload_n dJx4a65c_remove_915e3_15 rfl ?_
  refine V_aaldv (j := (i).toNat) (v := (E i)) dJx4a65c_remove_915e3_16 w1 (by omega) w2 w3 w4 ?_
  refine V_astore_n (lc' := [_, _, _, _]) dJx4a65c_remove_915e3_17 (by decide) rfl ?_
  refine V_aload_n dJx4a65c_remove_915e3_18 rfl ?_
  refine V_aload_n dJx4a65c_remove_915e3_19 rfl ?_
  refine V_iload_n dJx4a65c_remove_915e3_20 rfl ?_
  refine V_cV (as := [_, _]) dJx4a65c_remove_915e3_21 c_RJx4a65c_144 rfl (by decide) rfl (Nat.le_of_ble_eq_true rfl) H.1 (T_fastRm g a i n b C E H ha8 hi hE) (fun _ _ z => nomatch z.1) (fun v9 h9 p9 => ?_)
  obtain ⟨p1, p2⟩ := p9
  cases p1
  refine V_aload_n dJx4a65c_remove_915e3_24 rfl ?_
  refine V_aret dJx4a65c_remove_915e3_25 rfl (by first | exact Or.inl ⟨_, rfl⟩ | exact Or.inr ⟨_, rfl⟩) ?_
  exact ⟨rfl, p2⟩
theorem T_rangeAdd (g : GP) {h : AH} (a : Nat) (i n : Int) (b C : Nat) (E : Int → Nat) (H : LR h a n b C E) (hi : 0 ≤ i ∧ i ≤ n) : Tr g m_Jx4a65c_rangeCheckForAdd_d00df 1 [xR a, xI i] h (fun r h' => r = .inl none ∧ h' = h) := by
  refine Tr.ofV (by decide) rfl (fun v hv => by simp only [List.mem_cons, List.not_mem_nil, or_false] at hv; rcases hv with rfl | rfl <;> first | rfl | exact cat_R) (Nat.le_of_ble_eq_true rfl) ?_
  have hb0 := H.2.2.2.1
  change V g m_Jx4a65c_rangeCheckForAdd_d00df 1 _ h 0 [xR a, xI i] []
  refine V_iload_n dJx4a65c_rangeCheckForAdd_d00df_0 rfl ?_
  refine V_aload_n dJx4a65c_rangeCheckForAdd_d00df_1 rfl ?_
  refine V_getIv (z := n) dJx4a65c_rangeCheckForAdd_d00df_2 fg_RJx4a65c_48 rfl H.1 H.2.2.1 ?_
  refine V_icmp_gt (tgt := 12) dJx4a65c_rangeCheckForAdd_d00df_5 (by decide) (by omega) (by omega) (fun q5 => absurd q5 (by omega)) (fun q5 => ?_)
  refine V_iload_n dJx4a65c_rangeCheckForAdd_d00df_8 rfl ?_
  refine V_if_ge (tgt := 25) dJx4a65c_rangeCheckForAdd_d00df_9 (by decide) (by omega) (fun q9 => ?_) (fun q9 => absurd q9 (by omega))
  refine V_vret dJx4a65c_rangeCheckForAdd_d00df_25 rfl ?_
  exact ⟨rfl, rfl⟩
theorem gH_r {h : AH} {a b C j : Nat} (han : a ≠ h_n h) (hbn : b ≠ h_n h) (hj : j < C) : h_r (gH h a b C) (h_n h) j = h_r h b j := by
  unfold gH
  rw [if_neg (by omega)]
  refine ((hsr_ne (Or.inl (Ne.symm han))).2).trans ?_
  show (if h_n h = h_n h ∧ 0 ≤ j ∧ j < 0 + C then h_r (h_mk h 24 (gN C) (gN C)) b (0 + (j - 0)) else _) = _
  rw [if_pos ⟨rfl, by omega, by omega⟩, mk_r hbn]
  congr 1
  omega
/-- the world behind an element put among a list's -/
def iH (h : AH) (a b : Nat) (n i : Int) (C e : Nat) : AH :=
  if (C : Int) = n then h_si (h_sr (h_cr (gH h a b C) (h_n h) i.toNat (h_n h) (i + 1).toNat (n - i).toNat) (h_n h) i.toNat e) a 2 (n + 1)
  else h_si (h_sr (h_cr h b i.toNat b (i + 1).toNat (n - i).toNat) b i.toNat e) a 2 (n + 1)
theorem T_addI (g : GP) {h9 : AH} (a e : Nat) (i n : Int) (b C : Nat) (E : Int → Nat) (H : LR h9 a n b C E) (hC4 : C ≤ 60) (hn4 : n ≤ 39) (he : h_k h9 e = 6 ∨ h_k h9 e = 7 ∨ h_k h9 e = 8) (hE : ∀ k : Nat, (k : Int) < n → h_r h9 b k = 0 ∨ h_k h9 (h_r h9 b k) = 6 ∨ h_k h9 (h_r h9 b k) = 7 ∨ h_k h9 (h_r h9 b k) = 8) (hlt : ∀ q, h_k h9 q ≠ 0 → q ≠ h_n h9) (h1 : h_n h9 + 1 ≤ z_CC) (h2 : h_u h9 + 60 ≤ z_CS) (hi : 0 ≤ i ∧ i ≤ n) : Tr g m_Jx4a65c_add_7a177 7 [xR a, xI i, xR e] h9 (fun r h' => r = .inl none ∧ h' = iH (h_si h9 a 0 (h_i h9 a 0 + 1)) a b n i C e) := by
  refine Tr.ofV (by decide) rfl (fun v hv => by simp only [List.mem_cons, List.not_mem_nil, or_false] at hv; rcases hv with rfl | rfl | rfl <;> first | rfl | exact cat_R) (Nat.le_of_ble_eq_true rfl) ?_
  have han : a ≠ h_n h9 := hlt a (by have := H.1; omega)
  have hb0 := H.2.2.2.1
  by_cases c0 : C = 0
  · obtain rfl : b = 1 := H.2.2.2.2.1 c0
    change V g m_Jx4a65c_add_7a177 7 _ h9 0 [xR a, xI i, xR e, xU, xU] []
    refine V_aload_n dJx4a65c_add_7a177_0 rfl ?_
    refine V_iload_n dJx4a65c_add_7a177_1 rfl ?_
    refine V_cV (as := [_]) dJx4a65c_add_7a177_2 c_RJx4a65c_135 rfl (by decide) rfl (Nat.le_of_ble_eq_true rfl) H.1 (T_rangeAdd g a i n _ C E H hi) (fun _ _ z => nomatch z.1) (fun v9 h9 p9 => ?_)
    obtain ⟨p1, rfl⟩ := p9
    cases p1
    refine V_aload_n dJx4a65c_add_7a177_5 rfl ?_
    refine V_dup dJx4a65c_add_7a177_6 cat_R ?_
    refine V_getIv (z := h_i h9 a 0) dJx4a65c_add_7a177_7 fg_RJx4a65c_63 rfl H.1 rfl ?_
    refine V_iconst dJx4a65c_add_7a177_10 ?_
    refine V_iadd dJx4a65c_add_7a177_11 ?_
    refine V_putI dJx4a65c_add_7a177_12 f_RJx4a65c_63 rfl H.1 ?_
    have H2 : LR (h_si h9 a 0 (h_i h9 a 0 + 1)) a n _ C E := H.mc
    have hlt2 : ∀ q, h_k (h_si h9 a 0 (h_i h9 a 0 + 1)) q ≠ 0 → q ≠ h_n (h_si h9 a 0 (h_i h9 a 0 + 1)) := hlt
    refine V_aload_n dJx4a65c_add_7a177_15 rfl ?_
    refine V_getIv (z := n) dJx4a65c_add_7a177_16 fg_RJx4a65c_48 rfl H2.1 H2.2.2.1 ?_
    refine V_dup dJx4a65c_add_7a177_19 rfl ?_
    refine V_istore_n (lc' := [_, _, _, _, _]) dJx4a65c_add_7a177_20 (by decide) rfl ?_
    refine V_aload_n dJx4a65c_add_7a177_21 rfl ?_
    refine V_getRv (v := 1) dJx4a65c_add_7a177_22 fg_RJx4a65c_9 rfl H2.1 H2.2.1 ?_
    refine V_dup dJx4a65c_add_7a177_25 cat_R ?_
    refine V_astore (lc' := [_, _, _, _, _]) dJx4a65c_add_7a177_26 (by decide) rfl ?_
    refine V_alenE dJx4a65c_add_7a177_28 ?_
    refine V_icmp_ne (tgt := 38) dJx4a65c_add_7a177_29 (by decide) (by omega) (by omega) (fun q29 => absurd q29 (by omega)) (fun q29 => ?_)
    refine V_aload_n dJx4a65c_add_7a177_32 rfl ?_
    refine V_cV (as := []) dJx4a65c_add_7a177_33 c_RJx4a65c_129 rfl (by decide) rfl (Nat.le_of_ble_eq_true rfl) H2.1 (T_grow0 g a n _ C E H2 (by omega) (by omega) (fun k hk9 => hE k (by omega)) hlt2 h1 h2) (fun _ _ z => nomatch z.1) (fun v8 h8 p8 => ?_)
    obtain ⟨p1, p2⟩ := p8
    cases p1
    have nn : h_n (h_si h9 a 0 (h_i h9 a 0 + 1)) = h_n h9 := rfl
    have kb : h_k h8 (h_n h9) = 24 := by rw [p2]; exact gH_ks
    have lb : h_l h8 (h_n h9) = gN C := by rw [p2]; exact gH_ls
    have gg : C < gN C ∧ gN C ≤ 1000 := by unfold gN; (repeat' split) <;> omega
    have kq : ∀ q, q ≠ h_n h9 → h_k h8 q = h_k h9 q := fun q hq => by rw [p2]; exact gH_k hq
    rw [nn]
    refine V_astore (lc' := [_, _, _, _, _]) dJx4a65c_add_7a177_36 (by decide) rfl ?_
    refine V_aload dJx4a65c_add_7a177_38 rfl ?_
    refine V_iload_n dJx4a65c_add_7a177_40 rfl ?_
    refine V_aload dJx4a65c_add_7a177_41 rfl ?_
    refine V_iload_n dJx4a65c_add_7a177_43 rfl ?_
    refine V_iconst dJx4a65c_add_7a177_44 ?_
    refine V_iadd dJx4a65c_add_7a177_45 ?_
    refine V_iload_n dJx4a65c_add_7a177_46 rfl ?_
    refine V_iload_n dJx4a65c_add_7a177_47 rfl ?_
    refine V_isub dJx4a65c_add_7a177_48 ?_
    refine V_cpR (sp := i.toNat) (dp := (i + 1).toNat) (n := (n - i).toNat) dJx4a65c_add_7a177_49 w_acL w_ac1 w_ac2 w_ac3 (by decide) (st4 (Nat.le_of_ble_eq_true rfl)) kb kb (by omega) (by omega) (by omega) (by rw [lb]; omega) (by rw [lb]; omega) (by rw [lb]; omega) (by rw [lb]; omega) (fun x hx => by omega) ?_
    refine V_aload dJx4a65c_add_7a177_52 rfl ?_
    refine V_iload_n dJx4a65c_add_7a177_54 rfl ?_
    refine V_aload_n dJx4a65c_add_7a177_55 rfl ?_
    refine V_aast (j := i.toNat) dJx4a65c_add_7a177_56 kb (by show h_k h8 e = 6 ∨ h_k h8 e = 7 ∨ h_k h8 e = 8; rw [kq e (hlt e (by omega))]; exact he) (by omega) (by show _ < h_l h8 (h_n h9); rw [lb]; omega) (by show h_l h8 (h_n h9) ≤ _; rw [lb]; omega) ?_
    refine V_aload_n dJx4a65c_add_7a177_57 rfl ?_
    refine V_iload_n dJx4a65c_add_7a177_58 rfl ?_
    refine V_iconst dJx4a65c_add_7a177_59 ?_
    refine V_iadd dJx4a65c_add_7a177_60 ?_
    refine V_putI dJx4a65c_add_7a177_61 f_RJx4a65c_48 rfl ((kq a han).trans H.1) ?_
    refine V_vret dJx4a65c_add_7a177_64 rfl ?_
    refine ⟨rfl, ?_⟩
    unfold iH
    rw [if_pos (by omega), p2]
    try rfl
  · have hk := H.2.2.2.2.2.1 c0
    by_cases cn : (C : Int) = n
    · skip
      change V g m_Jx4a65c_add_7a177 7 _ h9 0 [xR a, xI i, xR e, xU, xU] []
      refine V_aload_n dJx4a65c_add_7a177_0 rfl ?_
      refine V_iload_n dJx4a65c_add_7a177_1 rfl ?_
      refine V_cV (as := [_]) dJx4a65c_add_7a177_2 c_RJx4a65c_135 rfl (by decide) rfl (Nat.le_of_ble_eq_true rfl) H.1 (T_rangeAdd g a i n _ C E H hi) (fun _ _ z => nomatch z.1) (fun v9 h9 p9 => ?_)
      obtain ⟨p1, rfl⟩ := p9
      cases p1
      refine V_aload_n dJx4a65c_add_7a177_5 rfl ?_
      refine V_dup dJx4a65c_add_7a177_6 cat_R ?_
      refine V_getIv (z := h_i h9 a 0) dJx4a65c_add_7a177_7 fg_RJx4a65c_63 rfl H.1 rfl ?_
      refine V_iconst dJx4a65c_add_7a177_10 ?_
      refine V_iadd dJx4a65c_add_7a177_11 ?_
      refine V_putI dJx4a65c_add_7a177_12 f_RJx4a65c_63 rfl H.1 ?_
      have H2 : LR (h_si h9 a 0 (h_i h9 a 0 + 1)) a n _ C E := H.mc
      have hlt2 : ∀ q, h_k (h_si h9 a 0 (h_i h9 a 0 + 1)) q ≠ 0 → q ≠ h_n (h_si h9 a 0 (h_i h9 a 0 + 1)) := hlt
      refine V_aload_n dJx4a65c_add_7a177_15 rfl ?_
      refine V_getIv (z := n) dJx4a65c_add_7a177_16 fg_RJx4a65c_48 rfl H2.1 H2.2.2.1 ?_
      refine V_dup dJx4a65c_add_7a177_19 rfl ?_
      refine V_istore_n (lc' := [_, _, _, _, _]) dJx4a65c_add_7a177_20 (by decide) rfl ?_
      refine V_aload_n dJx4a65c_add_7a177_21 rfl ?_
      refine V_getRv (v := b) dJx4a65c_add_7a177_22 fg_RJx4a65c_9 rfl H2.1 H2.2.1 ?_
      refine V_dup dJx4a65c_add_7a177_25 cat_R ?_
      refine V_astore (lc' := [_, _, _, _, _]) dJx4a65c_add_7a177_26 (by decide) rfl ?_
      have hl2 : h_l (h_si h9 a 0 (h_i h9 a 0 + 1)) b = C := hk.2
      refine V_alen (t := 4) dJx4a65c_add_7a177_28 hk.1 (by omega) ?_
      rw [hl2]
      refine V_icmp_ne (tgt := 38) dJx4a65c_add_7a177_29 (by decide) (by omega) (by omega) (fun q29 => absurd q29 (by omega)) (fun q29 => ?_)
      refine V_aload_n dJx4a65c_add_7a177_32 rfl ?_
      refine V_cV (as := []) dJx4a65c_add_7a177_33 c_RJx4a65c_129 rfl (by decide) rfl (Nat.le_of_ble_eq_true rfl) H2.1 (T_grow0 g a n _ C E H2 (by omega) (by omega) (fun k hk9 => hE k (by omega)) hlt2 h1 h2) (fun _ _ z => nomatch z.1) (fun v8 h8 p8 => ?_)
      obtain ⟨p1, p2⟩ := p8
      cases p1
      have nn : h_n (h_si h9 a 0 (h_i h9 a 0 + 1)) = h_n h9 := rfl
      have kb : h_k h8 (h_n h9) = 24 := by rw [p2]; exact gH_ks
      have lb : h_l h8 (h_n h9) = gN C := by rw [p2]; exact gH_ls
      have gg : C < gN C ∧ gN C ≤ 1000 := by unfold gN; (repeat' split) <;> omega
      have kq : ∀ q, q ≠ h_n h9 → h_k h8 q = h_k h9 q := fun q hq => by rw [p2]; exact gH_k hq
      rw [nn]
      refine V_astore (lc' := [_, _, _, _, _]) dJx4a65c_add_7a177_36 (by decide) rfl ?_
      refine V_aload dJx4a65c_add_7a177_38 rfl ?_
      refine V_iload_n dJx4a65c_add_7a177_40 rfl ?_
      refine V_aload dJx4a65c_add_7a177_41 rfl ?_
      refine V_iload_n dJx4a65c_add_7a177_43 rfl ?_
      refine V_iconst dJx4a65c_add_7a177_44 ?_
      refine V_iadd dJx4a65c_add_7a177_45 ?_
      refine V_iload_n dJx4a65c_add_7a177_46 rfl ?_
      refine V_iload_n dJx4a65c_add_7a177_47 rfl ?_
      refine V_isub dJx4a65c_add_7a177_48 ?_
      refine V_cpR (sp := i.toNat) (dp := (i + 1).toNat) (n := (n - i).toNat) dJx4a65c_add_7a177_49 w_acL w_ac1 w_ac2 w_ac3 (by decide) (st4 (Nat.le_of_ble_eq_true rfl)) kb kb (by omega) (by omega) (by omega) (by rw [lb]; omega) (by rw [lb]; omega) (by rw [lb]; omega) (by rw [lb]; omega) (fun x hx => by
        have er : h_r h8 (h_n h9) (i.toNat + x) = h_r h9 b (i.toNat + x) := by rw [p2]; exact gH_r han (hlt b (by omega)) (by omega)
        rw [er]
        rcases hE (i.toNat + x) (by omega) with hz | hz
        · exact Or.inl hz
        · rw [kq _ (hlt _ (by omega))]
          exact Or.inr hz) ?_
      refine V_aload dJx4a65c_add_7a177_52 rfl ?_
      refine V_iload_n dJx4a65c_add_7a177_54 rfl ?_
      refine V_aload_n dJx4a65c_add_7a177_55 rfl ?_
      refine V_aast (j := i.toNat) dJx4a65c_add_7a177_56 kb (by show h_k h8 e = 6 ∨ h_k h8 e = 7 ∨ h_k h8 e = 8; rw [kq e (hlt e (by omega))]; exact he) (by omega) (by show _ < h_l h8 (h_n h9); rw [lb]; omega) (by show h_l h8 (h_n h9) ≤ _; rw [lb]; omega) ?_
      refine V_aload_n dJx4a65c_add_7a177_57 rfl ?_
      refine V_iload_n dJx4a65c_add_7a177_58 rfl ?_
      refine V_iconst dJx4a65c_add_7a177_59 ?_
      refine V_iadd dJx4a65c_add_7a177_60 ?_
      refine V_putI dJx4a65c_add_7a177_61 f_RJx4a65c_48 rfl ((kq a han).trans H.1) ?_
      refine V_vret dJx4a65c_add_7a177_64 rfl ?_
      refine ⟨rfl, ?_⟩
      unfold iH
      rw [if_pos cn, p2]
      try rfl
    · skip
      change V g m_Jx4a65c_add_7a177 7 _ h9 0 [xR a, xI i, xR e, xU, xU] []
      refine V_aload_n dJx4a65c_add_7a177_0 rfl ?_
      refine V_iload_n dJx4a65c_add_7a177_1 rfl ?_
      refine V_cV (as := [_]) dJx4a65c_add_7a177_2 c_RJx4a65c_135 rfl (by decide) rfl (Nat.le_of_ble_eq_true rfl) H.1 (T_rangeAdd g a i n _ C E H hi) (fun _ _ z => nomatch z.1) (fun v9 h9 p9 => ?_)
      obtain ⟨p1, rfl⟩ := p9
      cases p1
      refine V_aload_n dJx4a65c_add_7a177_5 rfl ?_
      refine V_dup dJx4a65c_add_7a177_6 cat_R ?_
      refine V_getIv (z := h_i h9 a 0) dJx4a65c_add_7a177_7 fg_RJx4a65c_63 rfl H.1 rfl ?_
      refine V_iconst dJx4a65c_add_7a177_10 ?_
      refine V_iadd dJx4a65c_add_7a177_11 ?_
      refine V_putI dJx4a65c_add_7a177_12 f_RJx4a65c_63 rfl H.1 ?_
      have H2 : LR (h_si h9 a 0 (h_i h9 a 0 + 1)) a n _ C E := H.mc
      have hlt2 : ∀ q, h_k (h_si h9 a 0 (h_i h9 a 0 + 1)) q ≠ 0 → q ≠ h_n (h_si h9 a 0 (h_i h9 a 0 + 1)) := hlt
      refine V_aload_n dJx4a65c_add_7a177_15 rfl ?_
      refine V_getIv (z := n) dJx4a65c_add_7a177_16 fg_RJx4a65c_48 rfl H2.1 H2.2.2.1 ?_
      refine V_dup dJx4a65c_add_7a177_19 rfl ?_
      refine V_istore_n (lc' := [_, _, _, _, _]) dJx4a65c_add_7a177_20 (by decide) rfl ?_
      refine V_aload_n dJx4a65c_add_7a177_21 rfl ?_
      refine V_getRv (v := b) dJx4a65c_add_7a177_22 fg_RJx4a65c_9 rfl H2.1 H2.2.1 ?_
      refine V_dup dJx4a65c_add_7a177_25 cat_R ?_
      refine V_astore (lc' := [_, _, _, _, _]) dJx4a65c_add_7a177_26 (by decide) rfl ?_
      have hl2 : h_l (h_si h9 a 0 (h_i h9 a 0 + 1)) b = C := hk.2
      refine V_alen (t := 4) dJx4a65c_add_7a177_28 hk.1 (by omega) ?_
      rw [hl2]
      refine V_icmp_ne (tgt := 38) dJx4a65c_add_7a177_29 (by decide) (by omega) (by omega) (fun q29 => ?_) (fun q29 => absurd q29 (by omega))
      refine V_aload dJx4a65c_add_7a177_38 rfl ?_
      refine V_iload_n dJx4a65c_add_7a177_40 rfl ?_
      refine V_aload dJx4a65c_add_7a177_41 rfl ?_
      refine V_iload_n dJx4a65c_add_7a177_43 rfl ?_
      refine V_iconst dJx4a65c_add_7a177_44 ?_
      refine V_iadd dJx4a65c_add_7a177_45 ?_
      refine V_iload_n dJx4a65c_add_7a177_46 rfl ?_
      refine V_iload_n dJx4a65c_add_7a177_47 rfl ?_
      refine V_isub dJx4a65c_add_7a177_48 ?_
      refine V_cpR (sp := i.toNat) (dp := (i + 1).toNat) (n := (n - i).toNat) dJx4a65c_add_7a177_49 w_acL w_ac1 w_ac2 w_ac3 (by decide) (st4 (Nat.le_of_ble_eq_true rfl)) hk.1 hk.1 (by omega) (by omega) (by omega) (by show _ ≤ h_l h9 b; rw [hk.2]; omega) (by show _ ≤ h_l h9 b; rw [hk.2]; omega) (by show h_l h9 b ≤ _; rw [hk.2]; omega) (by show h_l h9 b ≤ _; rw [hk.2]; omega) (fun x hx => hE _ (by omega)) ?_
      refine V_aload dJx4a65c_add_7a177_52 rfl ?_
      refine V_iload_n dJx4a65c_add_7a177_54 rfl ?_
      refine V_aload_n dJx4a65c_add_7a177_55 rfl ?_
      refine V_aast (j := i.toNat) dJx4a65c_add_7a177_56 hk.1 he (by omega) (by show _ < h_l h9 b; rw [hk.2]; omega) (by show h_l h9 b ≤ _; rw [hk.2]; omega) ?_
      refine V_aload_n dJx4a65c_add_7a177_57 rfl ?_
      refine V_iload_n dJx4a65c_add_7a177_58 rfl ?_
      refine V_iconst dJx4a65c_add_7a177_59 ?_
      refine V_iadd dJx4a65c_add_7a177_60 ?_
      refine V_putI dJx4a65c_add_7a177_61 f_RJx4a65c_48 rfl H.1 ?_
      refine V_vret dJx4a65c_add_7a177_64 rfl ?_
      refine ⟨rfl, ?_⟩
      unfold iH
      rw [if_neg cn]
theorem I_coll (g : GP) {h : AH} (a : Nat) (ha : a ≠ 0) : TrI g m_Jxa1e45_init_da8c8 1 [xR a] h (fun r h' => r = .inl none ∧ h' = h) := by
  refine TrI.ofTr ?_ (fun _ _ z => nomatch z.1)
  refine Tr.ofV (by decide) rfl (fun v hv => by simp only [List.mem_cons, List.not_mem_nil, or_false] at hv; subst hv; exact cat_R) (Nat.le_of_ble_eq_true rfl) ?_
  change V g m_Jxa1e45_init_da8c8 1 _ h 0 [xR a] []
  refine V_aload_n dJxa1e45_init_da8c8_0 rfl ?_
  refine V_objInit dJxa1e45_init_da8c8_1 w_ob_RJxa1e45_1 w_ob1 w_ob2 (by decide) (st4 (Nat.le_of_ble_eq_true rfl)) ha ?_
  refine V_vret dJxa1e45_init_da8c8_4 rfl ?_
  exact ⟨rfl, rfl⟩
theorem I_alist (g : GP) {h : AH} (a : Nat) (ha : h_k h a = 5) (ha0 : a ≠ 0) : TrI g m_Jxc12de_init_da8c8 2 [xR a] h (fun r h' => r = .inl none ∧ h' = h_si h a 0 0) := by
  refine TrI.ofTr ?_ (fun _ _ z => nomatch z.1)
  refine Tr.ofV (by decide) rfl (fun v hv => by simp only [List.mem_cons, List.not_mem_nil, or_false] at hv; subst hv; exact cat_R) (Nat.le_of_ble_eq_true rfl) ?_
  change V g m_Jxc12de_init_da8c8 2 _ h 0 [xR a] []
  refine V_aload_n dJxc12de_init_da8c8_0 rfl ?_
  refine V_cI (as := []) dJxc12de_init_da8c8_1 c_RJxc12de_1 rfl (by decide) rfl (Nat.le_of_ble_eq_true rfl) ha0 (I_coll g a ha0) (fun v9 h9 p9 => ?_)
  obtain ⟨p1, rfl⟩ := p9
  cases p1
  refine V_aload_n dJxc12de_init_da8c8_4 rfl ?_
  refine V_iconst dJxc12de_init_da8c8_5 ?_
  refine V_putI dJxc12de_init_da8c8_6 f_RJxc12de_7 rfl ha ?_
  refine V_vret dJxc12de_init_da8c8_9 rfl ?_
  exact ⟨rfl, rfl⟩
theorem I_list (g : GP) {h : AH} (a : Nat) (ha : h_k h a = 5) (ha0 : a ≠ 0) : TrI g m_Jx4a65c_init_da8c8 3 [xR a] h (fun r h' => r = .inl none ∧ h' = h_sr (h_si h a 0 0) a 1 1) := by
  refine TrI.ofTr ?_ (fun _ _ z => nomatch z.1)
  refine Tr.ofV (by decide) rfl (fun v hv => by simp only [List.mem_cons, List.not_mem_nil, or_false] at hv; subst hv; exact cat_R) (Nat.le_of_ble_eq_true rfl) ?_
  change V g m_Jx4a65c_init_da8c8 3 _ h 0 [xR a] []
  refine V_aload_n dJx4a65c_init_da8c8_0 rfl ?_
  refine V_cI (as := []) dJx4a65c_init_da8c8_1 c_RJx4a65c_1 rfl (by decide) rfl (Nat.le_of_ble_eq_true rfl) ha0 (I_alist g a ha ha0) (fun v9 h9 p9 => ?_)
  obtain ⟨p1, rfl⟩ := p9
  cases p1
  refine V_aload_n dJx4a65c_init_da8c8_4 rfl ?_
  refine V_gsE dJx4a65c_init_da8c8_5 rfl w_E0 ?_
  refine V_putR dJx4a65c_init_da8c8_8 f_RJx4a65c_9 rfl rfl ha ?_
  refine V_vret dJx4a65c_init_da8c8_11 rfl ?_
  exact ⟨rfl, rfl⟩

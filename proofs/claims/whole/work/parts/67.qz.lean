theorem dHoN_q {D : MS} {l v : Int} : ∀ n : Nat, OnlyF [28] D (dHoN D l v n) ∧ True := by
  intro n
  refine ⟨?_, trivial⟩
  induction n with
  | zero => exact OnlyF.rf
  | succ n ih => exact ih.st (by decide)
theorem dLa_q {D : MS} (p : Int) (_ : 0 ≤ p ∧ p < D 91 0) : OnlyF [28, 70] D (dLa D p) ∧ True := ⟨((dHoN_q (l := 3 + p) (v := 0) _).1.w (by decide)).st (by decide), trivial⟩
noncomputable def dSp (D : MS) (s : Int) : MS := dSet (dAd (dHoN D (15 + s) 1 (D 70 (15 + s)).toNat) 47 s)
theorem XX {D : MS} (s : Int) : OnlyF [28, 70, 71] D D ∧ True := ⟨OnlyF.rf, trivial⟩
theorem dAd_c {D : MS} {f : Nat} {k z s : Int} (h1 : f ≠ 71) (h2 : ¬ (f = 70 ∧ k = 47)) : dAd (mset D f k z) 47 s = mset (dAd D 47 s) f k z := by
  have e : mset D f k z 70 47 = D 70 47 := if_neg (fun w => h2 ⟨w.1.symm, w.2.symm⟩)
  funext g j
  show mset (mset (mset D f k z) 71 (40 * 47 + mset D f k z 70 47) s) 70 47 (mset D f k z 70 47 + 1) g j = mset (mset (mset D 71 (40 * 47 + D 70 47) s) 70 47 (D 70 47 + 1)) f k z g j
  rw [e]
  simp only [mset2]
  by_cases a : g = 70 ∧ j = 47
  · rw [if_pos a, if_pos a, if_neg (fun w => h2 ⟨w.1.symm.trans a.1, w.2.symm.trans a.2⟩)]
  · rw [if_neg a, if_neg a]
    by_cases b : g = 71 ∧ j = 40 * 47 + D 70 47
    · rw [if_pos b, if_pos b, if_neg (fun w => h1 (w.1.symm.trans b.1))]
    · rw [if_neg b, if_neg b]
theorem IDp_HoN {D : MS} {s l v : Int} (h : ID (dAd D 47 s)) (hv : v = 0 ∨ v = 1) : ∀ n : Nat, ID (dAd (dHoN D l v n) 47 s) := by
  intro n
  induction n with
  | zero => exact h
  | succ n ih =>
    show ID (dAd (mset (dHoN D l v n) 28 _ v) 47 s)
    rw [dAd_c (by decide) (by omega)]
    exact ih.s28 hv
theorem IDp_Cls {D : MS} {s p : Int} (h : ID (dAd D 47 s)) (hp : 0 ≤ p ∧ p < 12) : ID (dAd (dCls D p) 47 s) := by
  show ID (dAd (mset (mset (dHoN D (3 + p) 0 _) 70 (3 + p) 0) 54 p 1) 47 s)
  rw [dAd_c (by decide) (by omega), dAd_c (by decide) (by omega)]
  exact ((IDp_HoN h (Or.inl rfl) _).cl (by omega)).s54 (Or.inr rfl)
theorem dMs_I {D : MS} {l : Int} (h : ID D) (hn : D 92 0 ≤ 29) (h27 : D 70 l ≤ 27) : ID (dAd (dMs D l) 47 (D 92 0)) := by
  have nn := h.n
  have c := h.c
  have hz := h.a70 47
  have hl0 := h.a70 l
  have e45 : dMs D l 70 47 = D 70 47 := dMs_d (by omega) (by omega) (by omega) (by omega) (by omega)
  have e70 : ∀ k, k ≠ 47 → dAd (dMs D l) 47 (D 92 0) 70 k = if k = 15 + D 92 0 then D 70 l else D 70 k := fun k hk => by
    show mset (mset _ 71 _ _) 70 47 _ 70 k = _
    rw [mset_k hk, mset_n (by decide)]
    unfold dMs
    rw [if_neg (by omega), if_neg (by omega), if_neg (by omega), if_neg (by omega)]
    by_cases e : k = 15 + D 92 0
    · rw [if_pos ⟨rfl, e⟩, if_pos e]
    · rw [if_neg (fun w => e w.2), if_neg e, if_neg (by omega)]
  have e70b : dAd (dMs D l) 47 (D 92 0) 70 47 = D 70 47 + 1 := by
    show mset _ 70 47 (dMs D l 70 47 + 1) 70 47 = _
    rw [mset_s, e45]
  have e71 : ∀ k, 1800 ≤ k → dAd (dMs D l) 47 (D 92 0) 71 k = if k = 40 * 47 + D 70 47 then D 92 0 else D 71 k := fun k hk => by
    show mset (mset _ 71 (40 * 47 + dMs D l 70 47) _) 70 47 _ 71 k = _
    rw [mset_n (by decide), mset_f, e45]
    split
    · rfl
    · exact dMs_d (by omega) (by omega) (by omega) (by omega) (by omega)
  have e90 : dAd (dMs D l) 47 (D 92 0) 90 0 = D 90 0 := (dAd_n (by decide) (by decide)).trans (dMs_d (by omega) (by omega) (by omega) (by omega) (by omega))
  have e91 : dAd (dMs D l) 47 (D 92 0) 91 0 = D 91 0 := (dAd_n (by decide) (by decide)).trans (dMs_d (by omega) (by omega) (by omega) (by omega) (by omega))
  have e92 : dAd (dMs D l) 47 (D 92 0) 92 0 = D 92 0 + 1 := (dAd_n (by decide) (by decide)).trans (if_pos ⟨rfl, rfl⟩)
  have ee : ∀ f k, f ≠ 70 ∧ f ≠ 71 ∧ f ≠ 92 ∧ f ≠ 60 ∧ f ≠ 61 ∧ f ≠ 62 → dAd (dMs D l) 47 (D 92 0) f k = D f k := fun f k x => (dAd_n x.1 x.2.1).trans (dMs_d (by omega) (by omega) (by omega) (by omega) (by omega))
  refine ⟨⟨?_, fun k a b => ⟨?_, ?_⟩, fun k a b => ?_, fun k a b => ?_, ?_, fun p a b => ?_, fun s a b => ?_⟩, ?_, fun k => ?_⟩
  · rw [e90, e91, e92, e70b, e70 45 (by omega), e70 46 (by omega), if_neg (by omega), if_neg (by omega)]
    omega
  · rw [e90] at b
    rw [e71 _ (by omega), if_neg (by omega)]
    exact h.q ⟨a, b⟩
  · rw [e90] at b
    rw [ee 20 k (by decide)]
    exact h.a20 ⟨a, b⟩
  · rw [e91] at b
    rw [e71 _ (by omega), if_neg (by omega)]
    exact h.p ⟨a, b⟩
  · rw [e92] at b
    rw [e71 _ (by omega)]
    by_cases e : k = D 92 0
    · rw [if_pos (by omega), e]
    · rw [if_neg (by omega)]
      exact h.s ⟨a, by omega⟩
  · rw [e90, e91, e92]
    omega
  · rw [e70 _ (by omega), if_neg (by omega)]
    exact h.l9 ⟨a, b⟩
  · rw [e70 _ (by omega)]
    have := h.l27 ⟨a, b⟩
    split <;> omega
  · rw [ee 1 0 (by decide), ee 6 0 (by decide), ee 7 0 (by decide), ee 8 0 (by decide), ee 9 0 (by decide), ee 80 0 (by decide)]
    exact h.2.1
  · refine ⟨?_, ?_, ?_, ?_, ?_, ?_, ?_, ?_, ?_, ?_, ?_, ?_, ?_, ?_, ?_, ?_, ?_, ?_, ?_⟩
    · rw [ee 0 k (by decide)]; exact h.a0 k
    · rw [ee 22 k (by decide)]; exact h.a22 k
    · rw [ee 23 k (by decide)]; exact h.a23 k
    · rw [ee 25 k (by decide)]; exact h.a25 k
    · rw [ee 26 k (by decide)]; exact h.a26 k
    · rw [ee 27 k (by decide)]; exact h.a27 k
    · rw [ee 28 k (by decide)]; exact h.a28 k
    · rw [ee 30 k (by decide)]; exact h.a30 k
    · rw [ee 40 k (by decide)]; exact h.a40 k
    · rw [ee 41 k (by decide)]; exact h.a41 k
    · rw [ee 42 k (by decide)]; exact h.a42 k
    · rw [ee 50 k (by decide)]; exact h.a50 k
    · rw [ee 51 k (by decide)]; exact h.a51 k
    · rw [ee 52 k (by decide)]; exact h.a52 k
    · rw [ee 54 k (by decide)]; exact h.a54 k
    · rw [dAd_n (by decide) (by decide)]; have := h.a60 k; unfold dMs; (repeat' split) <;> omega
    · rw [dAd_n (by decide) (by decide)]; have := h.a61 k; unfold dMs; (repeat' split) <;> omega
    · rw [dAd_n (by decide) (by decide)]; have := h.a62 k; unfold dMs; (repeat' split) <;> omega
    · have := h.a70 k
      by_cases e : k = 47
      · rw [e, e70b]; omega
      · rw [e70 k e]
        split <;> omega
noncomputable def d_quiz (D : MS) (sd ne nm nh : Int) : Res × MS := if (sd < 0 ∨ 1008 < sd) ∨ (ne < 0 ∨ 9 < ne) ∨ (nm < 0 ∨ 9 < nm) ∨ (nh < 0 ∨ 9 < nh) then (.inr eIA, D) else if ne + nm + nh = 0 then (.inr eIA, D) else
  if ¬ (dDr D sd ne nm (ne + nm + nh).toNat).2.2 = 1 then (.inr eNS, (dDr D sd ne nm (ne + nm + nh).toNat).1) else if 30 ≤ D 92 0 then (.inr eIS, (dDr D sd ne nm (ne + nm + nh).toNat).1) else (rI (D 92 0), dSp (dMs (dDr D sd ne nm (ne + nm + nh).toNat).1 1) (D 92 0))
noncomputable def d_quizOf (D : MS) (p : Int) : Res × MS := if ¬ iP D p then (.inr eIO, D) else if D 50 p ≠ D 6 0 ∨ D 54 p ≠ 0 ∨ D 70 (3 + p) = 0 then (.inr eUO, D) else if 30 ≤ D 92 0 then (.inr eIS, D) else (rI (D 92 0), dSp (dCls (dMs D (3 + p)) p) (D 92 0))
theorem T_X3_letGoAllP (g : GP) (A : AD) (N U : Nat) (D : MS) (p : Int)  (h1 : 0 ≤ p ∧ p < D 91 0) : TD g m_X3_letGoAll 4 [xR (A 3 p)] A N U D none (dLa D p) := by
  refine TD.of (by decide) rfl (fun v hv => ?_) (Nat.le_of_ble_eq_true rfl) ?_
  · simp only [List.mem_cons, List.not_mem_nil, or_false] at hv
    subst hv; first | exact Or.inl ⟨_, rfl⟩ | exact Or.inr ⟨_, rfl⟩
  intro h0 h hM hF
  obtain ⟨⟨z90, c90⟩, ⟨z91, c91⟩, z92, c92⟩ := hM.b.2.2.1
  change V g m_X3_letGoAll 4 _ h 0 [xR (A 3 p), xU] []
  have b70 := (hM.le (vLp (by omega) : vL D (3 + p))).1
  refine V_iconst dX3_letGoAll_0 ?_
  refine V_istore_n (lc' := [_, _]) dX3_letGoAll_1 (by decide) rfl ?_
  have lp2 : ∀ k2 : Int, ∀ M2 : MS, (0 ≤ k2 ∧ k2 ≤ D 70 (3 + p) ∧ M2 = dHoN D (3 + p) 0 k2.toNat) → ∀ h, DR h A M2 N U → FD h0 h → V g m_X3_letGoAll 4 (Qd h0 A N U none (dLa D p)) h 2 [xR (A 3 p), xI k2] [] := by
    refine lp_up (D 70 (3 + p)) (fun k2 ih2 => ?_)
    intro M2 hk h hM hF
    obtain ⟨k2l, k2u, k2e⟩ := hk
    have oI2 := dHoN_q (D := D) (l := 3 + p) (v := 0) k2.toNat
    rw [← k2e] at oI2
    obtain ⟨o2, hI2⟩ := oI2
    obtain ⟨e90_2, e91_2, e92_2, -⟩ : dST D M2 := (dST.rf.tr (dST.of o2 (by decide)))
    refine V_iload_n dX3_letGoAll_2 rfl ?_
    refine V_aload_n dX3_letGoAll_3 rfl ?_
    refine V_dgr (f := 3) (i := p) (b := (A 6 (3 + p))) dX3_letGoAll_4 fg_RX3_183 rfl rfl rfl hM ((dST.rf.tr (dST.of o2 (by decide))).A.mpr (vAp (by omega))) (hM.s.2.2.2.1 p (by rw [((dST.rf.tr (dST.of o2 (by decide))) : dST D M2).2.1]; omega)) ?_
    refine V_dSz (l := (3 + p)) (w := D 70 (3 + p)) dX3_letGoAll_7 c_RX3_69 rfl (by decide) (Nat.le_of_ble_eq_true rfl) rfl hM ((dST.rf.tr (dST.of o2 (by decide))).L.mpr (vLp (by omega))) ((o2 70 _ (by decide)).trans rfl) (fun r7 => ?_)
    refine V_icmp_ge (tgt := 34) dX3_letGoAll_10 (by decide) (by omega) (by omega) (fun q10 => ?_) (fun q10 => ?_)
    · refine V_aload_n dX3_letGoAll_34 rfl ?_
      refine V_dgr (f := 3) (i := p) (b := (A 6 (3 + p))) dX3_letGoAll_35 fg_RX3_183 rfl rfl rfl hM ((dST.rf.tr (dST.of o2 (by decide))).A.mpr (vAp (by omega))) (hM.s.2.2.2.1 p (by rw [((dST.rf.tr (dST.of o2 (by decide))) : dST D M2).2.1]; omega)) ?_
      refine V_dCl (l := (3 + p)) dX3_letGoAll_38 c_RX3_129 rfl (by decide) (Nat.le_of_ble_eq_true rfl) rfl hM hF ((dST.rf.tr (dST.of o2 (by decide))).L.mpr (vLp (by omega))) (fun h hM hF => ?_)
      refine V_vret dX3_letGoAll_41 rfl ?_
      exact dretV hM hF (by rw [k2e, show k2 = D 70 (3 + p) by omega]; rfl)
    · refine V_aload_n dX3_letGoAll_13 rfl ?_
      refine V_dgr (f := 3) (i := p) (b := (A 6 (3 + p))) dX3_letGoAll_14 fg_RX3_183 rfl rfl rfl hM ((dST.rf.tr (dST.of o2 (by decide))).A.mpr (vAp (by omega))) (hM.s.2.2.2.1 p (by rw [((dST.rf.tr (dST.of o2 (by decide))) : dST D M2).2.1]; omega)) ?_
      refine V_iload_n dX3_letGoAll_17 rfl ?_
      refine V_dGq (l := (3 + p)) dX3_letGoAll_18 c_RX3_132 rfl (by decide) (Nat.le_of_ble_eq_true rfl) rfl hM ((dST.rf.tr (dST.of o2 (by decide))).L.mpr (vLp (by omega))) (by rw [show M2 70 (3 + p) = D 70 (3 + p) from ((o2 70 _ (by decide)).trans rfl)]; omega) (by omega) (fun g18 => ?_)
      rw [((dST.rf.tr (dST.of o2 (by decide))) : dST D M2).1] at g18
      rw [show M2 71 (40 * (3 + p) + k2) = D 71 (40 * (3 + p) + k2) from ((o2 71 _ (by decide)).trans rfl)] at g18 ⊢
      refine V_ckc dX3_letGoAll_21 k_RX3_75 (hM.kd (f := 0) ((dST.rf.tr (dST.of o2 (by decide))).A.mpr (vAq (by decide) (by omega)))) ?_
      refine V_iconst dX3_letGoAll_24 ?_
      refine V_dpz (f := 0) (F := 28) (i := D 71 (40 * (3 + p) + k2)) (t := D 71 (40 * (3 + p) + k2)) dX3_letGoAll_25 f_RX3_254 rfl rfl rfl rfl hM hF ((dST.rf.tr (dST.of o2 (by decide))).F.mpr (vFq (by decide) (by omega))) (by decide) (fun h hM hF => ?_)
      refine V_iinc (lc' := [_, _]) dX3_letGoAll_28 rfl (by decide) rfl ?_
      refine V_goto (tgt := 2) dX3_letGoAll_31 (by decide) ?_
      exact ih2 (by omega) (mset M2 28 (D 71 (40 * (3 + p) + k2)) 0) ⟨by omega, by omega, by rw [dHoN_s k2l, ← k2e]⟩ h hM hF
  exact lp2 0 D ⟨by omega, by omega, rfl⟩ h hM hF
theorem T_X3_closeP (g : GP) (A : AD) (N U : Nat) (D : MS) (p : Int)  (h1 : 0 ≤ p ∧ p < D 91 0) : TD g m_X3_close 5 [xR (A 3 p)] A N U D none (dCls D p) := by
  refine TD.of (by decide) rfl (fun v hv => ?_) (Nat.le_of_ble_eq_true rfl) ?_
  · simp only [List.mem_cons, List.not_mem_nil, or_false] at hv
    subst hv; first | exact Or.inl ⟨_, rfl⟩ | exact Or.inr ⟨_, rfl⟩
  intro h0 h hM hF
  obtain ⟨⟨z90, c90⟩, ⟨z91, c91⟩, z92, c92⟩ := hM.b.2.2.1
  change V g m_X3_close 5 _ h 0 [xR (A 3 p)] []
  refine V_aload_n dX3_close_0 rfl ?_
  refine V_dS (as := [_]) dX3_close_1 c_RX3_327 rfl (by decide) rfl (Nat.le_of_ble_eq_true rfl) hM hF (T_X3_letGoAllP g A N U D p (by omega)) (fun h hM hF => ?_)
  obtain ⟨N1, eN1⟩ : ∃ X, X = dLa D p := ⟨_, rfl⟩
  rw [← eN1] at hM
  obtain ⟨oN1, hIN1⟩ := dLa_q (D := D) p (by omega)
  rw [← eN1] at oN1
  obtain ⟨e90_1, e91_1, e92_1, -⟩ : dST D N1 := (dST.rf.tr (dST.of oN1 (by decide)))
  refine V_aload_n dX3_close_4 rfl ?_
  refine V_iconst dX3_close_5 ?_
  refine V_dpz (f := 3) (F := 54) (i := p) (t := p) dX3_close_6 f_RX3_177 rfl rfl rfl rfl hM hF ((dST.rf.tr (dST.of oN1 (by decide))).F.mpr (vFp (by decide) (by omega))) (by decide) (fun h hM hF => ?_)
  refine V_vret dX3_close_9 rfl ?_
  exact dretV hM hF (by rw [eN1]; rfl)
theorem T_X3_spool (g : GP) (A : AD) (N U : Nat) (D : MS) (s : Int)  (hp : ID (dAd D 47 s)) (h1 : s = D 70 47 ∧ D 92 0 = s + 1) : TD g m_X3_spool 11 [xR 8, xR (A 4 s)] A N U D (some (xI s)) (dSp D s) := by
  refine TD.of (by decide) rfl (fun v hv => ?_) (Nat.le_of_ble_eq_true rfl) ?_
  · simp only [List.mem_cons, List.not_mem_nil, or_false] at hv
    rcases hv with rfl | rfl <;> first | exact Or.inl ⟨_, rfl⟩ | exact Or.inr ⟨_, rfl⟩
  intro h0 h hM hF
  obtain ⟨⟨z90, c90⟩, ⟨z91, c91⟩, z92, c92⟩ := hM.b.2.2.1
  change V g m_X3_spool 11 _ h 0 [xR 8, xR (A 4 s), xU] []
  have b47 := (hM.le (vL4 (by decide) : vL D 47)).1
  have b70 := (hM.le (vLs (by omega) : vL D (15 + s))).1
  refine V_iconst dX3_spool_0 ?_
  refine V_istore_n (lc' := [_, _, _]) dX3_spool_1 (by decide) rfl ?_
  have lp2 : ∀ k2 : Int, ∀ M2 : MS, (0 ≤ k2 ∧ k2 ≤ D 70 (15 + s) ∧ M2 = dHoN D (15 + s) 1 k2.toNat) → ∀ h, DR h A M2 N U → FD h0 h → V g m_X3_spool 11 (Qd h0 A N U (some (xI s)) (dSp D s)) h 2 [xR 8, xR (A 4 s), xI k2] [] := by
    refine lp_up (D 70 (15 + s)) (fun k2 ih2 => ?_)
    intro M2 hk h hM hF
    obtain ⟨k2l, k2u, k2e⟩ := hk
    have oI2 := dHoN_q (D := D) (l := 15 + s) (v := 1) k2.toNat
    rw [← k2e] at oI2
    obtain ⟨o2, hI2⟩ := oI2
    obtain ⟨e90_2, e91_2, e92_2, -⟩ : dST D M2 := (dST.rf.tr (dST.of o2 (by decide)))
    refine V_iload_n dX3_spool_2 rfl ?_
    refine V_aload_n dX3_spool_3 rfl ?_
    refine V_dgr (f := 4) (i := s) (b := (A 6 (15 + s))) dX3_spool_4 fg_RX3_239 rfl rfl rfl hM ((dST.rf.tr (dST.of o2 (by decide))).A.mpr (vAs (by decide) (by omega))) (hM.s.2.2.2.2 s (by rw [((dST.rf.tr (dST.of o2 (by decide))) : dST D M2).2.2.1]; omega)).1 ?_
    refine V_dSz (l := (15 + s)) (w := D 70 (15 + s)) dX3_spool_7 c_RX3_69 rfl (by decide) (Nat.le_of_ble_eq_true rfl) rfl hM ((dST.rf.tr (dST.of o2 (by decide))).L.mpr (vLs (by omega))) ((o2 70 _ (by decide)).trans rfl) (fun r7 => ?_)
    refine V_icmp_ge (tgt := 34) dX3_spool_10 (by decide) (by omega) (by omega) (fun q10 => ?_) (fun q10 => ?_)
    · refine V_aload_n dX3_spool_34 rfl ?_
      refine V_dgr (f := 8) (i := 0) (b := 13) dX3_spool_35 fg_RX3_26 rfl rfl hM.fx.1 hM ((dST.rf.tr (dST.of o2 (by decide))).A.mpr (vAx (by decide))) hM.s.1.2.2.2.2.1 ?_
      refine V_aload_n dX3_spool_38 rfl ?_
      refine V_dAd (l := 47) (z := s) dX3_spool_39 c_RX3_86 rfl (by decide) (Nat.le_of_ble_eq_true rfl) hM.fx.2.2.2.2.2.2.1 rfl hM hF ((dST.rf.tr (dST.of o2 (by decide))).L.mpr (vL4 (by decide))) (by rw [show M2 70 47 = D 70 47 from o2 70 47 (by decide)]; omega) ((dST.of o2 (by decide)).E.mpr (by unfold vE; rw [if_neg (by decide), if_pos rfl]; omega)) (fun h hM hF => ?_)
      obtain ⟨N39, eN39⟩ : ∃ X, X = (dAd M2 47 s) := ⟨_, rfl⟩
      rw [← eN39] at hM
      have oN39 : OnlyF [70, 71] M2 N39 := by rw [eN39]; exact dAd_o
      refine V_pop dX3_spool_42 rfl ?_
      refine V_aload_n dX3_spool_43 rfl ?_
      have hJ44 : ID N39 := (by rw [eN39, k2e]; exact IDp_HoN hp (Or.inr rfl) _)
      refine V_dC (as := []) dX3_spool_44 c_RX3_90 rfl (by decide) rfl (Nat.le_of_ble_eq_true rfl) hM.kx hM hF (T_X3_settlePlans g A N U N39  hJ44) (fun h hM hF => ?_)
      obtain ⟨N44, eN44⟩ : ∃ X, X = dSet N39 := ⟨_, rfl⟩
      rw [← eN44] at hM
      obtain ⟨oN44, hIN44⟩ := dSet_o (D := N39)  hJ44
      rw [← eN44] at oN44 hIN44
      obtain ⟨e90_44, e91_44, e92_44, -⟩ : dST D N44 := (((dST.rf.tr (dST.of o2 (by decide))).tr (dST.of oN39 (by decide))).tr (dST.of oN44 (by decide)))
      have n44 := hIN44.n
      refine V_aload_n dX3_spool_47 rfl ?_
      refine V_dgr (f := 8) (i := 0) (b := 13) dX3_spool_48 fg_RX3_26 rfl rfl hM.fx.1 hM ((((dST.rf.tr (dST.of o2 (by decide))).tr (dST.of oN39 (by decide))).tr (dST.of oN44 (by decide))).A.mpr (vAx (by decide))) hM.s.1.2.2.2.2.1 ?_
      refine V_dSz (l := 47) (w := N44 70 47) dX3_spool_51 c_RX3_69 rfl (by decide) (Nat.le_of_ble_eq_true rfl) hM.fx.2.2.2.2.2.2.1 hM ((((dST.rf.tr (dST.of o2 (by decide))).tr (dST.of oN39 (by decide))).tr (dST.of oN44 (by decide))).L.mpr (vL4 (by decide))) rfl (fun r51 => ?_)
      refine V_iconst dX3_spool_54 ?_
      refine V_isub dX3_spool_55 ?_
      refine V_iret dX3_spool_56 rfl ?_
      have e9 : N39 70 47 = s + 1 := by
        rw [eN39]
        show mset _ 70 47 (M2 70 47 + 1) 70 47 = _
        rw [mset_s, show M2 70 47 = D 70 47 from o2 70 47 (by decide)]
        omega
      have e8 : N44 70 47 = s + 1 := by rw [eN44, dSet_S hJ44 70 47 (by decide) (by omega) (by omega), e9]
      exact dret hM hF (by omega) (by rw [eN44, eN39, k2e, show k2 = D 70 (15 + s) by omega]; rfl)
    · refine V_aload_n dX3_spool_13 rfl ?_
      refine V_dgr (f := 4) (i := s) (b := (A 6 (15 + s))) dX3_spool_14 fg_RX3_239 rfl rfl rfl hM ((dST.rf.tr (dST.of o2 (by decide))).A.mpr (vAs (by decide) (by omega))) (hM.s.2.2.2.2 s (by rw [((dST.rf.tr (dST.of o2 (by decide))) : dST D M2).2.2.1]; omega)).1 ?_
      refine V_iload_n dX3_spool_17 rfl ?_
      refine V_dGq (l := (15 + s)) dX3_spool_18 c_RX3_132 rfl (by decide) (Nat.le_of_ble_eq_true rfl) rfl hM ((dST.rf.tr (dST.of o2 (by decide))).L.mpr (vLs (by omega))) (by rw [show M2 70 (15 + s) = D 70 (15 + s) from ((o2 70 _ (by decide)).trans rfl)]; omega) (by omega) (fun g18 => ?_)
      rw [((dST.rf.tr (dST.of o2 (by decide))) : dST D M2).1] at g18
      rw [show M2 71 (40 * (15 + s) + k2) = D 71 (40 * (15 + s) + k2) from ((o2 71 _ (by decide)).trans rfl)] at g18 ⊢
      refine V_ckc dX3_spool_21 k_RX3_75 (hM.kd (f := 0) ((dST.rf.tr (dST.of o2 (by decide))).A.mpr (vAq (by decide) (by omega)))) ?_
      refine V_iconst dX3_spool_24 ?_
      refine V_dpz (f := 0) (F := 28) (i := D 71 (40 * (15 + s) + k2)) (t := D 71 (40 * (15 + s) + k2)) dX3_spool_25 f_RX3_254 rfl rfl rfl rfl hM hF ((dST.rf.tr (dST.of o2 (by decide))).F.mpr (vFq (by decide) (by omega))) (by decide) (fun h hM hF => ?_)
      refine V_iinc (lc' := [_, _, _]) dX3_spool_28 rfl (by decide) rfl ?_
      refine V_goto (tgt := 2) dX3_spool_31 (by decide) ?_
      exact ih2 (by omega) (mset M2 28 (D 71 (40 * (15 + s) + k2)) 1) ⟨by omega, by omega, by rw [dHoN_s k2l, ← k2e]⟩ h hM hF
  exact lp2 0 D ⟨by omega, by omega, rfl⟩ h hM hF
theorem T_X3_quiz (g : GP) (N U : Nat) (D : MS) (sd : Int) (ne : Int) (nm : Int) (nh : Int) (r_sd : -2147483648 ≤ sd ∧ sd ≤ 2147483647) (r_ne : -2147483648 ≤ ne ∧ ne ≤ 2147483647) (r_nm : -2147483648 ≤ nm ∧ nm ≤ 2147483647) (r_nh : -2147483648 ≤ nh ∧ nh ≤ 2147483647) (hI : ID D) (hN : N + 200 ≤ z_CC) (hU : U + 5000 ≤ z_CS) : TX g m_X3_quiz 12 [xR 8, xI sd, xI ne, xI nm, xI nh] N U D (d_quiz D sd ne nm nh) := by
  refine TX.of (by decide) rfl (fun v hv => ?_) (Nat.le_of_ble_eq_true rfl) ?_
  · simp only [List.mem_cons, List.not_mem_nil, or_false] at hv
    rcases hv with rfl | rfl | rfl | rfl | rfl <;> first | exact Or.inl ⟨_, rfl⟩ | exact Or.inr ⟨_, rfl⟩
  intro A h0 h hM hF
  obtain ⟨i90, i91, i92⟩ := hI.n
  obtain ⟨c90, c91, c92⟩ := hI.c
  obtain ⟨⟨z90, -⟩, ⟨z91, -⟩, z92, -⟩ := hM.b.2.2.1
  change V g m_X3_quiz 12 _ h 0 [xR 8, xI sd, xI ne, xI nm, xI nh] []
  refine V_iload_n dX3_quiz_0 rfl ?_
  refine V_iconst dX3_quiz_1 ?_
  refine V_sipush dX3_quiz_2 (by decide) ?_
  refine V_pS (as := [_, _, _]) dX3_quiz_5 c_RX3_42 rfl (by decide) rfl (Nat.le_of_ble_eq_true rfl) (T_X3_isOutside g hM sd 0 1008 (by omega) (by omega) (by omega)) ?_
  refine V_ifb_ne (tgt := 42) dX3_quiz_8 (by decide) (fun q8 => ?_) (fun q8 => ?_)
  · refine V_throw dX3_quiz_42 dX3_quiz_45 dX3_quiz_46 dX3_quiz_48 dX3_quiz_51 t_RX3_46_205 rfl (by decide) (by have := hM.room; omega) (by have := hM.room; omega) (fun n9 n9a n9b => ?_)
    exact qthr hM hF hN hU n9a n9b (by unfold d_quiz; (repeat' split) <;> first | rfl | (exfalso; omega)) rfl
  · refine V_iload_n dX3_quiz_11 rfl ?_
    refine V_iconst dX3_quiz_12 ?_
    refine V_bipush dX3_quiz_13 (by decide) ?_
    refine V_pS (as := [_, _, _]) dX3_quiz_15 c_RX3_42 rfl (by decide) rfl (Nat.le_of_ble_eq_true rfl) (T_X3_isOutside g hM ne 0 9 (by omega) (by omega) (by omega)) ?_
    refine V_ifb_ne (tgt := 42) dX3_quiz_18 (by decide) (fun q18 => ?_) (fun q18 => ?_)
    · refine V_throw dX3_quiz_42 dX3_quiz_45 dX3_quiz_46 dX3_quiz_48 dX3_quiz_51 t_RX3_46_205 rfl (by decide) (by have := hM.room; omega) (by have := hM.room; omega) (fun n9 n9a n9b => ?_)
      exact qthr hM hF hN hU n9a n9b (by unfold d_quiz; (repeat' split) <;> first | rfl | (exfalso; omega)) rfl
    · refine V_iload_n dX3_quiz_21 rfl ?_
      refine V_iconst dX3_quiz_22 ?_
      refine V_bipush dX3_quiz_23 (by decide) ?_
      refine V_pS (as := [_, _, _]) dX3_quiz_25 c_RX3_42 rfl (by decide) rfl (Nat.le_of_ble_eq_true rfl) (T_X3_isOutside g hM nm 0 9 (by omega) (by omega) (by omega)) ?_
      refine V_ifb_ne (tgt := 42) dX3_quiz_28 (by decide) (fun q28 => ?_) (fun q28 => ?_)
      · refine V_throw dX3_quiz_42 dX3_quiz_45 dX3_quiz_46 dX3_quiz_48 dX3_quiz_51 t_RX3_46_205 rfl (by decide) (by have := hM.room; omega) (by have := hM.room; omega) (fun n9 n9a n9b => ?_)
        exact qthr hM hF hN hU n9a n9b (by unfold d_quiz; (repeat' split) <;> first | rfl | (exfalso; omega)) rfl
      · refine V_iload dX3_quiz_31 rfl ?_
        refine V_iconst dX3_quiz_33 ?_
        refine V_bipush dX3_quiz_34 (by decide) ?_
        refine V_pS (as := [_, _, _]) dX3_quiz_36 c_RX3_42 rfl (by decide) rfl (Nat.le_of_ble_eq_true rfl) (T_X3_isOutside g hM nh 0 9 (by omega) (by omega) (by omega)) ?_
        refine V_ifb_eq (tgt := 52) dX3_quiz_39 (by decide) (fun q39 => ?_) (fun q39 => ?_)
        · refine V_iload_n dX3_quiz_52 rfl ?_
          refine V_iload_n dX3_quiz_53 rfl ?_
          refine V_iadd dX3_quiz_54 ?_
          refine V_iload dX3_quiz_55 rfl ?_
          refine V_iadd dX3_quiz_57 ?_
          refine V_if_ne (tgt := 71) dX3_quiz_58 (by decide) (by omega) (fun q58 => ?_) (fun q58 => ?_)
          · refine V_aload_n dX3_quiz_71 rfl ?_
            refine V_iload_n dX3_quiz_72 rfl ?_
            refine V_iload_n dX3_quiz_73 rfl ?_
            refine V_iload_n dX3_quiz_74 rfl ?_
            refine V_iload dX3_quiz_75 rfl ?_
            refine V_dC (as := [_, _, _, _]) dX3_quiz_77 c_RX3_209 rfl (by decide) rfl (Nat.le_of_ble_eq_true rfl) hM.kx hM hF (T_X3_drawQuestions g A N U D sd ne nm nh (by omega) (by omega) (by omega) (by omega) hI (by omega) (by omega) (by omega) (by omega)) (fun h hM hF => ?_)
            obtain ⟨N77, eN77⟩ : ∃ X, X = (dDr D sd ne nm (ne + nm + nh).toNat).1 := ⟨_, rfl⟩
            rw [← eN77] at hM
            obtain ⟨oN77, hIN77⟩ := dDr_o (D := D) sd ne nm nh hI (by omega) (by omega) (by omega) (by omega)
            rw [← eN77] at oN77 hIN77
            obtain ⟨e90_77, e91_77, e92_77, -⟩ : dST D N77 := (dST.rf.tr (dST.of oN77 (by decide)))
            have n77 := hIN77.n
            refine V_ifb_ne (tgt := 93) dX3_quiz_80 (by decide) (fun q80 => ?_) (fun q80 => ?_)
            · refine V_aload_n dX3_quiz_93 rfl ?_
              refine V_dgr (f := 8) (i := 0) (b := 13) dX3_quiz_94 fg_RX3_26 rfl rfl hM.fx.1 hM ((dST.rf.tr (dST.of oN77 (by decide))).A.mpr (vAx (by decide))) hM.s.1.2.2.2.2.1 ?_
              refine V_dSz (l := 47) (w := N77 70 47) dX3_quiz_97 c_RX3_69 rfl (by decide) (Nat.le_of_ble_eq_true rfl) hM.fx.2.2.2.2.2.2.1 hM ((dST.rf.tr (dST.of oN77 (by decide))).L.mpr (vL4 (by decide))) rfl (fun r97 => ?_)
              refine V_bipush dX3_quiz_100 (by decide) ?_
              refine V_icmp_lt (tgt := 115) dX3_quiz_102 (by decide) (by omega) (by omega) (fun q102 => ?_) (fun q102 => ?_)
              · refine V_aload_n dX3_quiz_115 rfl ?_
                have hb := hM.b
                have h41 := hb.2.1
                have hrm := hM.room
                have n1 : h_n (h_mk h 8 0 3) = h_n h + 1 := rfl
                have u1 : h_u (h_mk h 8 0 3) = h_u h + 3 := rfl
                have k8 : h_k (h_mk h 8 0 3) 8 = 9 := (mk_k (k := 8) (n := 0) (N := 3) (by omega)).trans hM.kx
                obtain ⟨-, -, -, d77, f77⟩ := dDrN_o (e := ne) (m := nm) hI (seed := sd) (by omega) (ne + nm + nh).toNat (by omega)
                rw [← eN77] at d77 f77
                have d77 : N77 70 1 ≤ 27 := by
                  rcases d77 with w | w
                  · rw [w] at q80
                    exact absurd q80 (by decide)
                  · have := w.2; omega
                refine V_new (N := 3) dX3_quiz_116 n_RX3_217 rfl (by omega) (by omega) ?_
                show V g m_X3_quiz _ _ (h_mk h 8 0 3) _ _ _
                refine V_dup dX3_quiz_119 cat_R ?_
                refine V_aload_n dX3_quiz_120 rfl ?_
                refine V_getRv (v := A 6 1) dX3_quiz_121 fg_RX3_29 rfl k8 ((mk_r (k := 8) (n := 0) (N := 3) (by omega)).trans (hM.s.1.2.2.2.2.2.1.trans hM.fx.2.2.2.2.2.2.2.1.symm)) ?_
                refine V_cI (as := [_]) dX3_quiz_124 c_RX3_219 rfl (by decide) rfl (Nat.le_of_ble_eq_true rfl) (by omega) (T_X2_init g hM 1 (vL0 (by decide)) (by decide) d77 (by omega) hN hU) (fun v9 h9 p9 => ?_)
                obtain ⟨p1, a1, a2, hM2, x2⟩ := p9
                cases p1
                have e4 : aMs A N77 (h_n h) a1 a2 4 (N77 92 0) = h_n h := if_pos ⟨rfl, rfl⟩
                have hp := dMs_I (l := 1) hIN77 (by omega) d77
                have e47 : dMs N77 1 70 47 = N77 70 47 := dMs_d (by omega) (by omega) (by omega) (by omega) (by omega)
                have e92 : dMs N77 1 92 0 = N77 92 0 + 1 := if_pos ⟨rfl, rfl⟩
                show V g m_X3_quiz _ _ h9 127 _ [xR (h_n h), xR 8]
                rw [← e4]
                refine V_dC (as := [_]) dX3_quiz_127 c_RX3_222 rfl (by decide) rfl (Nat.le_of_ble_eq_true rfl) hM2.kx hM2 (x2.fd h41 hF) (T_X3_spool g _ _ _ _ (N77 92 0) hp (by omega)) (fun h hM hF => ?_)
                refine V_iret dX3_quiz_130 rfl ?_
                have ex : (dDr D sd ne nm (ne + nm + nh).toNat).2.2 = 1 := q80
                have ed : d_quiz D sd ne nm nh = (rI (D 92 0), dSp (dMs N77 1) (D 92 0)) := by
                  unfold d_quiz
                  rw [if_neg (by omega), if_neg (by omega), if_neg (fun w => w ex), if_neg (by omega), ← eN77]
                rw [ed, ← e92_77]
                exact ⟨rfl, ⟨_, hM⟩, hF⟩
              · refine V_throw dX3_quiz_105 dX3_quiz_108 dX3_quiz_109 dX3_quiz_111 dX3_quiz_114 t_RX3_57_215 rfl (by decide) (by have := hM.room; omega) (by have := hM.room; omega) (fun n9 n9a n9b => ?_)
                exact qthr hM hF hN hU n9a n9b (by unfold d_quiz; rw [if_neg (by omega), if_neg (by omega), if_neg (fun w => w q80), if_pos (by omega), ← eN77]) rfl
            · refine V_throwN dX3_quiz_83 dX3_quiz_86 dX3_quiz_87 dX3_quiz_89 dX3_quiz_92 t_RX3_113_213 rfl (by decide) (by have := hM.room; omega) (by have := hM.room; omega) (fun n9 n9a n9b => ?_)
              exact qthr hM hF hN hU n9a n9b (by unfold d_quiz; rw [if_neg (by omega), if_neg (by omega), if_pos q80, ← eN77]; rfl) rfl
          · refine V_throw dX3_quiz_61 dX3_quiz_64 dX3_quiz_65 dX3_quiz_67 dX3_quiz_70 t_RX3_46_207 rfl (by decide) (by have := hM.room; omega) (by have := hM.room; omega) (fun n9 n9a n9b => ?_)
            exact qthr hM hF hN hU n9a n9b (by unfold d_quiz; (repeat' split) <;> first | rfl | (exfalso; omega)) rfl
        · refine V_throw dX3_quiz_42 dX3_quiz_45 dX3_quiz_46 dX3_quiz_48 dX3_quiz_51 t_RX3_46_205 rfl (by decide) (by have := hM.room; omega) (by have := hM.room; omega) (fun n9 n9a n9b => ?_)
          exact qthr hM hF hN hU n9a n9b (by unfold d_quiz; (repeat' split) <;> first | rfl | (exfalso; omega)) rfl
theorem T_X3_quizOf (g : GP) (N U : Nat) (D : MS) (p : Int) (r_p : -2147483648 ≤ p ∧ p ≤ 2147483647) (hI : ID D) (hN : N + 200 ≤ z_CC) (hU : U + 5000 ≤ z_CS) : TX g m_X3_quizOf 12 [xR 8, xI p] N U D (d_quizOf D p) := by
  refine TX.of (by decide) rfl (fun v hv => ?_) (Nat.le_of_ble_eq_true rfl) ?_
  · simp only [List.mem_cons, List.not_mem_nil, or_false] at hv
    rcases hv with rfl | rfl <;> first | exact Or.inl ⟨_, rfl⟩ | exact Or.inr ⟨_, rfl⟩
  intro A h0 h hM hF
  obtain ⟨i90, i91, i92⟩ := hI.n
  obtain ⟨c90, c91, c92⟩ := hI.c
  obtain ⟨⟨z90, -⟩, ⟨z91, -⟩, z92, -⟩ := hM.b.2.2.1
  change V g m_X3_quizOf 12 _ h 0 [xR 8, xI p, xU, xU] []
  have b70 := hI.a70 (3 + p)
  refine V_aload_n dX3_quizOf_0 rfl ?_
  refine V_iload_n dX3_quizOf_1 rfl ?_
  rcases (Classical.em (0 ≤ p ∧ p < D 70 46)).symm with w2 | w2
  · refine V_cV (as := [_]) dX3_quizOf_2 c_RX3_173 rfl (by decide) rfl (Nat.le_of_ble_eq_true rfl) hM.kx (X_X3_planOf g hM p (by omega) hI w2) (fun E9 h9 z9 => ?_) (fun v9 h9 z9 => nomatch z9.1)
    obtain ⟨z8, n9, n9a, n9b, rfl⟩ := z9
    cases z8
    exact qthr hM hF hN hU n9a n9b (by unfold d_quizOf; (repeat' split) <;> first | rfl | (exfalso; omega)) rfl
  refine V_pV (as := [_]) dX3_quizOf_2 c_RX3_173 rfl (by decide) rfl (Nat.le_of_ble_eq_true rfl) hM.kx (T_X3_planOf g hM p (by omega) hI (by omega)) ?_
  refine V_astore_n (lc' := [_, _, _, _]) dX3_quizOf_5 (by decide) rfl ?_
  refine V_aload_n dX3_quizOf_6 rfl ?_
  refine V_dg (f := 3) (F := 50) (i := p) (t := p) (w := D 50 p) dX3_quizOf_7 fg_RX3_226 rfl rfl rfl rfl hM (vFp (by decide) (by omega)) rfl (fun r7 => ?_)
  have b7 := hI.a50 p
  refine V_aload_n dX3_quizOf_10 rfl ?_
  refine V_dg (f := 8) (F := 6) (i := 0) (t := 0) (w := D 6 0) dX3_quizOf_11 fg_RX3_155 rfl rfl rfl hM.fx.1 hM (vFx (by decide)) rfl (fun r11 => ?_)
  have b11 := hI.a6
  refine V_icmp_ne (tgt := 34) dX3_quizOf_14 (by decide) (by omega) (by omega) (fun q14 => ?_) (fun q14 => ?_)
  · refine V_throw dX3_quizOf_34 dX3_quizOf_37 dX3_quizOf_38 dX3_quizOf_40 dX3_quizOf_43 t_RX3_64_233 rfl (by decide) (by have := hM.room; omega) (by have := hM.room; omega) (fun n9 n9a n9b => ?_)
    exact qthr hM hF hN hU n9a n9b (by unfold d_quizOf; (repeat' split) <;> first | rfl | (exfalso; omega)) rfl
  · refine V_aload_n dX3_quizOf_17 rfl ?_
    refine V_dg (f := 3) (F := 54) (i := p) (t := p) (w := D 54 p) dX3_quizOf_18 fg_RX3_177 rfl rfl rfl rfl hM (vFp (by decide) (by omega)) rfl (fun r18 => ?_)
    have b18 := hI.a54 p
    refine V_if_ne (tgt := 34) dX3_quizOf_21 (by decide) (by omega) (fun q21 => ?_) (fun q21 => ?_)
    · refine V_throw dX3_quizOf_34 dX3_quizOf_37 dX3_quizOf_38 dX3_quizOf_40 dX3_quizOf_43 t_RX3_64_233 rfl (by decide) (by have := hM.room; omega) (by have := hM.room; omega) (fun n9 n9a n9b => ?_)
      exact qthr hM hF hN hU n9a n9b (by unfold d_quizOf; (repeat' split) <;> first | rfl | (exfalso; omega)) rfl
    · refine V_aload_n dX3_quizOf_24 rfl ?_
      refine V_dgr (f := 3) (i := p) (b := (A 6 (3 + p))) dX3_quizOf_25 fg_RX3_183 rfl rfl rfl hM (vAp (by omega)) (hM.s.2.2.2.1 p (by omega)) ?_
      refine V_dEm (l := (3 + p)) dX3_quizOf_28 c_RX3_229 rfl (by decide) (Nat.le_of_ble_eq_true rfl) rfl hM (vLp (by omega)) ?_
      refine V_ifb_eq (tgt := 44) dX3_quizOf_31 (by decide) (fun q31 => ?_) (fun q31 => ?_)
      · refine V_aload_n dX3_quizOf_44 rfl ?_
        refine V_dgr (f := 8) (i := 0) (b := 13) dX3_quizOf_45 fg_RX3_26 rfl rfl hM.fx.1 hM (vAx (by decide)) hM.s.1.2.2.2.2.1 ?_
        refine V_dSz (l := 47) (w := D 70 47) dX3_quizOf_48 c_RX3_69 rfl (by decide) (Nat.le_of_ble_eq_true rfl) hM.fx.2.2.2.2.2.2.1 hM (vL4 (by decide)) rfl (fun r48 => ?_)
        refine V_bipush dX3_quizOf_51 (by decide) ?_
        refine V_icmp_lt (tgt := 66) dX3_quizOf_53 (by decide) (by omega) (by omega) (fun q53 => ?_) (fun q53 => ?_)
        · have hb := hM.b
          have h41 := hb.2.1
          have hrm := hM.room
          have n1 : h_n (h_mk h 8 0 3) = h_n h + 1 := rfl
          have u1 : h_u (h_mk h 8 0 3) = h_u h + 3 := rfl
          have vp : vA D 3 p := vAp (by omega)
          have gp := hM.ge vp
          have kp : h_k (h_mk h 8 0 3) (A 3 p) = 6 := (mk_k (k := 8) (n := 0) (N := 3) (by omega)).trans (hM.kd vp)
          have b9 := hI.l9 (p := p) (by omega)
          refine V_new (N := 3) dX3_quizOf_66 n_RX3_217 rfl (by omega) (by omega) ?_
          show V g m_X3_quizOf _ _ (h_mk h 8 0 3) _ _ _
          refine V_dup dX3_quizOf_69 cat_R ?_
          refine V_aload_n dX3_quizOf_70 rfl ?_
          refine V_getRv (v := A 6 (3 + p)) dX3_quizOf_71 fg_RX3_183 rfl kp ((mk_r (k := 8) (n := 0) (N := 3) (by omega)).trans (hM.s.2.2.2.1 p (by omega))) ?_
          refine V_cI (as := [_]) dX3_quizOf_74 c_RX3_219 rfl (by decide) rfl (Nat.le_of_ble_eq_true rfl) (by omega) (T_X2_init g hM (3 + p) (vLp (by omega)) (by omega) (by omega) (by omega) hN hU) (fun v9 h9 p9 => ?_)
          obtain ⟨p1, a1, a2, hM2, x2⟩ := p9
          cases p1
          have e4 : aMs A D (h_n h) a1 a2 4 (D 92 0) = h_n h := if_pos ⟨rfl, rfl⟩
          have e3 : aMs A D (h_n h) a1 a2 3 p = A 3 p := by
            unfold aMs
            rw [if_neg (by omega), if_neg (by omega), if_neg (by omega)]
          have hp := dMs_I (l := 3 + p) hI (by omega) (by omega)
          have e91 : dMs D (3 + p) 91 0 = D 91 0 := dMs_d (by omega) (by omega) (by omega) (by omega) (by omega)
          have e47 : dMs D (3 + p) 70 47 = D 70 47 := dMs_d (by omega) (by omega) (by omega) (by omega) (by omega)
          have e92 : dMs D (3 + p) 92 0 = D 92 0 + 1 := if_pos ⟨rfl, rfl⟩
          show V g m_X3_quizOf _ _ h9 77 [xR 8, xI p, xR (A 3 p), xU] [xR (h_n h)]
          rw [← e4, ← e3]
          refine V_astore_n (lc' := [_, _, _, _]) dX3_quizOf_77 (by decide) rfl ?_
          refine V_aload_n dX3_quizOf_78 rfl ?_
          refine V_dS (as := [_]) dX3_quizOf_79 c_RX3_186 rfl (by decide) rfl (Nat.le_of_ble_eq_true rfl) hM2 (x2.fd h41 hF) (T_X3_closeP g _ _ _ _ p (by omega)) (fun h hM hF => ?_)
          refine V_aload_n dX3_quizOf_82 rfl ?_
          refine V_aload_n dX3_quizOf_83 rfl ?_
          have c47 : dCls (dMs D (3 + p)) p 70 47 = D 70 47 := (dCls_S (by omega) 70 47 (by decide) (by decide) (by omega) (by omega)).trans e47
          have c92 : dCls (dMs D (3 + p)) p 92 0 = D 92 0 + 1 := (dCls_S (by omega) 92 0 (by decide) (by decide) (by omega) (by omega)).trans e92
          refine V_dC (as := [_]) dX3_quizOf_84 c_RX3_222 rfl (by decide) rfl (Nat.le_of_ble_eq_true rfl) hM.kx hM hF (T_X3_spool g _ _ _ _ (D 92 0) (IDp_Cls hp (by omega)) (by omega)) (fun h hM hF => ?_)
          refine V_iret dX3_quizOf_87 rfl ?_
          have ed : d_quizOf D p = (rI (D 92 0), dSp (dCls (dMs D (3 + p)) p) (D 92 0)) := by
            unfold d_quizOf
            rw [if_neg (by omega), if_neg (by omega), if_neg (by omega)]
          rw [ed]
          exact ⟨rfl, ⟨_, hM⟩, hF⟩
        · refine V_throw dX3_quizOf_56 dX3_quizOf_59 dX3_quizOf_60 dX3_quizOf_62 dX3_quizOf_65 t_RX3_57_215 rfl (by decide) (by have := hM.room; omega) (by have := hM.room; omega) (fun n9 n9a n9b => ?_)
          exact qthr hM hF hN hU n9a n9b (by unfold d_quizOf; (repeat' split) <;> first | rfl | (exfalso; omega)) rfl
      · refine V_throw dX3_quizOf_34 dX3_quizOf_37 dX3_quizOf_38 dX3_quizOf_40 dX3_quizOf_43 t_RX3_64_233 rfl (by decide) (by have := hM.room; omega) (by have := hM.room; omega) (fun n9 n9a n9b => ?_)
        exact qthr hM hF hN hU n9a n9b (by unfold d_quizOf; (repeat' split) <;> first | rfl | (exfalso; omega)) rfl

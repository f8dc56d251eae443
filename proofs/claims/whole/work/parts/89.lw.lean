theorem V_i2lw {g : GP} {m : MT} {d : Nat} {Q : Res → AH → Prop} {h : AH} {pc : Nat} {lc st : List AV} {z : Int} (hd : decode m.2.1 pc = .ok (.i2l, 1)) (k : V g m d Q h (pc + 1) lc (xV (.long (Int32.ofInt z).toInt64) :: st)) : V g m d Q h pc lc (xI z :: st) := by
  intro p lch e R s mi args below meth c H locs cells slots ls C P S L
  exact lv_i2l C.1 C.2.1 hd rfl (k p lch e R s mi args below meth c H locs cells slots ls C P S L)
theorem V_icmp_eqS {g : GP} {m : MT} {d : Nat} {Q : Res → AH → Prop} {h : AH} {pc : Nat} {lc st : List AV} {x : Int} {off : Int} {tgt : Nat} (hd : decode m.2.1 pc = .ok (.if_icmp .eq off, 3)) (ht : (pc : Int) + off = (tgt : Int)) (kt : V g m d Q h tgt lc st) : V g m d Q h pc lc (xI x :: xI x :: st) := by
  intro p lch e R s mi args below meth c H locs cells slots ls C P S L
  exact lv_icmp_eq C.1 C.2.1 hd ht (fun _ => kt p lch e R s mi args below meth c H locs cells slots ls C P S L) (fun q => absurd rfl q)
/-- what is made beside the developers' things may change -/
theorem DR.oth {h h' : AH} {A : AD} {D : MS} {N U : Nat} (H : DR h A D N U) (e : ∀ q, q < 18 ∨ 41 ≤ q → h_k h' q = h_k h q ∧ h_l h' q = h_l h q ∧ (∀ j, h_i h' q j = h_i h q j) ∧ ∀ j, h_r h' q j = h_r h q j) (hn : h_n h' = h_n h) (hu : h_u h' = h_u h) : DR h' A D N U := by
  obtain ⟨tg, bw, cp, bt, ct, ⟨b1, b2, b3, b4, b5⟩, bA, ⟨⟨s0, s2, s3, s4, s5, s6, s7, s8⟩, s9, sq, sp, ss⟩, bN, bL, ⟨⟨t1, t2, t3, t4, t5, ⟨t6, t7⟩, t8, t9⟩, t10, t11, t12⟩, ⟨w1, w2, w3, w4, w5⟩⟩ := H
  have eA : ∀ f i, vA D f i → h_k h' (A f i) = h_k h (A f i) ∧ h_l h' (A f i) = h_l h (A f i) ∧ (∀ j, h_i h' (A f i) j = h_i h (A f i) j) ∧ ∀ j, h_r h' (A f i) j = h_r h (A f i) j := fun f i hv => e (A f i) (by have := (bA f i hv).2.2; omega)
  have e8 := (e 8 (Or.inl (by decide))).2.2.2
  have e9 := e 9 (Or.inl (by decide))
  have e16 := e 16 (Or.inl (by decide))
  have ebt := e bt (by omega)
  refine ⟨tg, bw, cp, bt, ct, ⟨fun q hq => ?_, by omega, b3, b4, b5⟩, fun f i hv => ⟨(eA f i hv).1.trans (bA f i hv).1, (bA f i hv).2⟩, ⟨⟨(e8 _).trans s0, (e8 _).trans s2, (e8 _).trans s3, (e8 _).trans s4, (e8 _).trans s5, (e8 _).trans s6, (e8 _).trans s7, (e8 _).trans s8⟩, e9.2.1.trans s9, fun q hq => ?_, fun p hp => ?_, fun s hs => ?_⟩, fun F t hv => ?_, fun l hv => ?_, ⟨⟨e16.1.trans t1, (e16.2.2.2 _).trans t2, (e16.2.2.1 _).trans t3, t4, (e16.2.2.1 _).trans t5, ⟨ebt.1.trans t6, ebt.2.1.trans t7⟩, fun k hk => (ebt.2.2.1 k).trans (t8 k hk), fun k hk => by rw [ebt.2.2.1]; exact t9 k hk⟩, t10, t11, t12⟩, ⟨w1, by rw [hn]; exact w2, by rw [hu]; exact w3, w4, w5⟩⟩
  · rw [hn]
    by_cases c : q < 18 ∨ 41 ≤ q
    · rw [(e q c).1] at hq
      exact b1 q hq
    · omega
  · have h0 := eA 0 q (Or.inl ⟨by decide, hq.1, hq.2⟩)
    have h1 := eA 1 q (Or.inl ⟨by decide, hq.1, hq.2⟩)
    have h2 := eA 2 q (Or.inl ⟨by decide, hq.1, hq.2⟩)
    obtain ⟨a, b, c, d, f⟩ := sq q hq
    exact ⟨(h0.2.2.2 _).trans a, (h0.2.2.2 _).trans b, by rw [h1.2.1]; exact c, d, h2.2.1.trans f⟩
  · have h0 := eA 3 p (Or.inr (Or.inl ⟨rfl, hp.1, hp.2⟩))
    exact (h0.2.2.2 _).trans (sp p hp)
  · have h0 := eA 4 s (Or.inr (Or.inr (Or.inl ⟨Or.inl rfl, hs.1, hs.2⟩)))
    have h1 := eA 5 s (Or.inr (Or.inr (Or.inl ⟨Or.inr rfl, hs.1, hs.2⟩)))
    obtain ⟨a, b, c, d⟩ := ss s hs
    exact ⟨(h0.2.2.2 _).trans a, (h0.2.2.2 _).trans b, by rw [h1.2.1]; exact c, d⟩
  · exact ((eA _ _ (vF_p hv).1).2.2.1 _).trans (bN F t hv)
  · obtain ⟨⟨m1, m2, m3, m4, m5, m6, m7⟩, c, d, f⟩ := bL l hv
    have h6 := eA 6 l (Or.inr (Or.inr (Or.inr (Or.inl ⟨rfl, hv⟩))))
    refine ⟨⟨h6.1.trans m1, (h6.2.2.2 _).trans m2, (h6.2.2.1 _).trans m3, m4, m5, fun c0 => ?_, fun k hk => ?_⟩, c, d, f⟩
    · have hb := e (bw l) (by have := (d c0).2; omega)
      exact ⟨hb.1.trans (m6 c0).1, hb.2.1.trans (m6 c0).2⟩
    · have c0 : cp l ≠ 0 := by omega
      have hb := e (bw l) (by have := (d c0).2; omega)
      exact (hb.2.2.2 _).trans (m7 k hk)
theorem DR.o {h : AH} {D : MS} {N U j : Nat} {z : Int} (H : ∃ A, DR h A D N U) : ∃ A, DR (h_si h 39 j z) A D N U := by
  obtain ⟨A, H⟩ := H
  exact ⟨A, H.oth (fun q hq => ⟨rfl, rfl, fun i => by rw [hsi_at, if_neg (by omega)], fun _ => rfl⟩) rfl rfl⟩
theorem DR.o4 {h : AH} {D : MS} {N U j : Nat} {z : Int} (H : ∃ A, DR h A D N U) : ∃ A, DR (h_si h 40 j z) A D N U := by
  obtain ⟨A, H⟩ := H
  exact ⟨A, H.oth (fun q hq => ⟨rfl, rfl, fun i => by rw [hsi_at, if_neg (by omega)], fun _ => rfl⟩) rfl rfl⟩
def OW (h : AH) : Prop := h_k h 39 = 25 ∧ h_l h 39 = 1 ∧ h_k h 40 = 26 ∧ h_l h 40 = 1
/-- the model's things are as before, the answers' rows are there -/
def FO (h h' : AH) : Prop := (∀ q, 18 ≤ q → q < 39 → h_k h' q = h_k h q ∧ h_l h' q = h_l h q ∧ (∀ j, h_i h' q j = h_i h q j) ∧ ∀ j, h_r h' q j = h_r h q j) ∧ ∀ q, 39 ≤ q → q < 41 → h_k h' q = h_k h q ∧ h_l h' q = h_l h q
theorem FO.of {h h' : AH} (F : FD h h') : FO h h' := ⟨fun q a b => F q a (by omega), fun q a b => ⟨(F q (by omega) b).1, (F q (by omega) b).2.1⟩⟩
theorem FO.si {h h' : AH} {j : Nat} {z : Int} (F : FO h h') : FO h (h_si h' 39 j z) := ⟨fun q a b => ⟨(F.1 q a b).1, (F.1 q a b).2.1, fun i => by rw [hsi_at, if_neg (by omega)]; exact (F.1 q a b).2.2.1 i, (F.1 q a b).2.2.2⟩, F.2⟩
theorem FO.si4 {h h' : AH} {j : Nat} {z : Int} (F : FO h h') : FO h (h_si h' 40 j z) := ⟨fun q a b => ⟨(F.1 q a b).1, (F.1 q a b).2.1, fun i => by rw [hsi_at, if_neg (by omega)]; exact (F.1 q a b).2.2.1 i, (F.1 q a b).2.2.2⟩, F.2⟩
theorem FO.ow {h h' : AH} (F : FO h h') (o : OW h) : OW h' := ⟨(F.2 39 (by decide) (by decide)).1.trans o.1, (F.2 39 (by decide) (by decide)).2.trans o.2.1, (F.2 40 (by decide) (by decide)).1.trans o.2.2.1, (F.2 40 (by decide) (by decide)).2.trans o.2.2.2⟩
theorem FO.mr {h h' : AH} {M : MS} (F : FO h h') (H : MR h M) : MR h' M := by
  obtain ⟨m1, m2, m3, m4⟩ := H
  have e8 := F.1 18 (by decide) (by decide)
  refine ⟨e8.1.trans m1, fun f hf hr => ?_, fun f hf hr => (e8.2.2.1 f).trans (m3 f hf hr), m4⟩
  have g := ar_ge hf hr
  have e := F.1 (ar f) (by omega) g.2
  obtain ⟨a, b, c, d⟩ := m2 f hf hr
  exact ⟨(e8.2.2.2 f).trans a, e.1.trans b, e.2.1.trans c, fun k hk => (e.2.2.1 k).trans (d k hk)⟩
theorem FR.dr {h h' : AH} {A : AD} {D : MS} {N U : Nat} (F : FR h h') (H : DR h A D N U) : DR h' A D N U := H.oth (fun q hq => F.1 q (by omega)) F.2.1 F.2.2
theorem FR.ow {h h' : AH} (F : FR h h') (o : OW h) : OW h' := ⟨(F.1 39 (Or.inr (by decide))).1.trans o.1, (F.1 39 (Or.inr (by decide))).2.1.trans o.2.1, (F.1 40 (Or.inr (by decide))).1.trans o.2.2.1, (F.1 40 (Or.inr (by decide))).2.1.trans o.2.2.2⟩
/-- what a wrapper answers -/
def HX (x : Res × MS) (es : List String) : Prop := (∃ v, x.1 = rI v) ∨ ∃ (n : Nat) (e : String), es[n]? = some e ∧ x.1 = .inr e
def QL (h0 : AH) (N U : Nat) (x : Res × MS) (es : List String) : Res → AH → Prop := fun r h' => (∃ A', DR h' A' x.2 (N + 4) (U + 200)) ∧ FO h0 h' ∧ ∃ z : Int, r = .inl (some (xI z)) ∧ ((z = 0 ∧ ∃ v, x.1 = rI v ∧ h_i h' 39 0 = (Int32.ofInt v).toInt64.toInt) ∨ ∃ (n : Nat) (e : String), es[n]? = some e ∧ x.1 = .inr e ∧ z = n + 1)
theorem e_RL_13 : Cond.classLink RL 13 "java/lang/IllegalArgumentException" ∈ GW := gwi 306 (by decide +kernel) (by decide +kernel)
theorem e_RL_15 : Cond.classLink RL 15 "java/lang/IllegalStateException" ∈ GW := gwi 307 (by decide +kernel) (by decide +kernel)
theorem e_RL_20 : Cond.classLink RL 20 "java/lang/UnsupportedOperationException" ∈ GW := gwi 350 (by decide +kernel) (by decide +kernel)
theorem e_RL_26 : Cond.classLink RL 26 "java/lang/IndexOutOfBoundsException" ∈ GW := gwi 534 (by decide +kernel) (by decide +kernel)
theorem e_RL_35 : Cond.classLink RL 35 "java/util/NoSuchElementException" ∈ GW := gwi 598 (by decide +kernel) (by decide +kernel)
theorem e_RL_114 : Cond.classLink RL 114 "java/lang/ArithmeticException" ∈ GW := gwi 1183 (by decide +kernel) (by decide +kernel)
theorem T_L_type (g : GP) {h : AH} {N U : Nat} {x : Res × MS} (p0 : Int) (ho : OW h) (h8 : h_k h 8 = 9) (hx : HX x [eIA, eIS]) (hT : Tr g m_X3_type 8 [xR 8, xI p0] h (Qp h N U x)) : TrH g m_L_type 14 [xR 8, xI p0, xR 39] h (QL h N U x [eIA, eIS]) := by
  refine TrH.ofV (by decide) (fun v hv => by simp only [List.mem_cons, List.not_mem_nil, or_false] at hv; rcases hv with rfl | rfl | rfl <;> first | rfl | exact cat_R) (Nat.le_of_ble_eq_true rfl) ?_
  change V g m_L_type 14 _ h 0 [xR 8, xI p0, xR 39, xU] []
  refine V_aload_n dL_type_0 rfl ?_
  refine V_iconst dL_type_1 ?_
  refine V_aload_n dL_type_2 rfl ?_
  refine V_iload_n dL_type_3 rfl ?_
  refine V_cC (as := [_]) dL_type_4 c_RL_7 (by decide) rfl (Nat.le_of_ble_eq_true rfl) h8 hT (fun E h1 q => ?_) (fun v h1 q => ?_)
  · obtain ⟨q1, q2, q3⟩ := q
    rcases hx with ⟨v, hv⟩ | ⟨n, e, he, hv⟩
    · rw [hv] at q1; cases q1
    · rw [hv] at q1; cases q1
      rcases n with _ | _ | n
      · cases he
        refine ⟨[], (0, 9, 12, 13), [(0, 9, 15, 15)], _, rfl, (fun z hz => nomatch hz), ⟨by decide, by decide⟩, by decide, e_RL_13, by simp [z_cast], fun q => ?_⟩
        refine V_astore_nX (lc' := [_, _, _, _]) dL_type_12 (by decide) rfl ?_
        refine V_iconst dL_type_13 ?_
        refine V_iret dL_type_14 rfl ?_
        exact ⟨q2, FO.of q3, 1, rfl, Or.inr ⟨0, _, rfl, hv, rfl⟩⟩
      · cases he
        refine ⟨[(0, 9, 12, 13)], (0, 9, 15, 15), [], _, rfl, (fun z hz => by simp only [List.mem_cons, List.not_mem_nil, or_false] at hz; rcases hz with rfl <;> first | exact ⟨by decide, _, e_RL_13, by simp [z_ncast]⟩), ⟨by decide, by decide⟩, by decide, e_RL_15, by simp [z_cast], fun q => ?_⟩
        refine V_astore_nX (lc' := [_, _, _, _]) dL_type_15 (by decide) rfl ?_
        refine V_iconst dL_type_16 ?_
        refine V_iret dL_type_17 rfl ?_
        exact ⟨q2, FO.of q3, 2, rfl, Or.inr ⟨1, _, rfl, hv, rfl⟩⟩
      · cases he
  · obtain ⟨q1, q2, q3⟩ := q
    rcases hx with ⟨v9, hv⟩ | ⟨n, e, he, hv⟩
    · rw [hv] at q1; cases q1
      have k9 : h_k h1 39 = 25 := (q3 39 (by decide) (by decide)).1.trans ho.1
      have l9 : h_l h1 39 = 1 := (q3 39 (by decide) (by decide)).2.1.trans ho.2.1
      refine V_i2lw dL_type_7 ?_
      refine V_last (j := 0) dL_type_8 k9 rfl (by rw [l9]; decide) (by rw [l9]; decide) ?_
      refine V_goto (tgt := 18) dL_type_9 (by decide) ?_
      refine V_iconst dL_type_18 ?_
      refine V_iret dL_type_19 rfl ?_
      exact ⟨DR.o q2, (FO.of q3).si, 0, rfl, Or.inl ⟨rfl, _, hv, by rw [hsi_at, if_pos ⟨rfl, rfl⟩]⟩⟩
    · rw [hv] at q1; cases q1
theorem T_L_add (g : GP) {h : AH} {N U : Nat} {x : Res × MS} (p0 : Int) (ho : OW h) (h8 : h_k h 8 = 9) (hx : HX x [eIA, eUO, eIS]) (hT : Tr g m_X3_add 11 [xR 8, xI p0] h (Qp h N U x)) : TrH g m_L_add 14 [xR 8, xI p0, xR 39] h (QL h N U x [eIA, eUO, eIS]) := by
  refine TrH.ofV (by decide) (fun v hv => by simp only [List.mem_cons, List.not_mem_nil, or_false] at hv; rcases hv with rfl | rfl | rfl <;> first | rfl | exact cat_R) (Nat.le_of_ble_eq_true rfl) ?_
  change V g m_L_add 14 _ h 0 [xR 8, xI p0, xR 39, xU] []
  refine V_aload_n dL_add_0 rfl ?_
  refine V_iconst dL_add_1 ?_
  refine V_aload_n dL_add_2 rfl ?_
  refine V_iload_n dL_add_3 rfl ?_
  refine V_cC (as := [_]) dL_add_4 c_RL_17 (by decide) rfl (Nat.le_of_ble_eq_true rfl) h8 hT (fun E h1 q => ?_) (fun v h1 q => ?_)
  · obtain ⟨q1, q2, q3⟩ := q
    rcases hx with ⟨v, hv⟩ | ⟨n, e, he, hv⟩
    · rw [hv] at q1; cases q1
    · rw [hv] at q1; cases q1
      rcases n with _ | _ | _ | n
      · cases he
        refine ⟨[], (0, 9, 12, 13), [(0, 9, 15, 20), (0, 9, 18, 15)], _, rfl, (fun z hz => nomatch hz), ⟨by decide, by decide⟩, by decide, e_RL_13, by simp [z_cast], fun q => ?_⟩
        refine V_astore_nX (lc' := [_, _, _, _]) dL_add_12 (by decide) rfl ?_
        refine V_iconst dL_add_13 ?_
        refine V_iret dL_add_14 rfl ?_
        exact ⟨q2, FO.of q3, 1, rfl, Or.inr ⟨0, _, rfl, hv, rfl⟩⟩
      · cases he
        refine ⟨[(0, 9, 12, 13)], (0, 9, 15, 20), [(0, 9, 18, 15)], _, rfl, (fun z hz => by simp only [List.mem_cons, List.not_mem_nil, or_false] at hz; rcases hz with rfl <;> first | exact ⟨by decide, _, e_RL_13, by simp [z_ncast]⟩), ⟨by decide, by decide⟩, by decide, e_RL_20, by simp [z_cast], fun q => ?_⟩
        refine V_astore_nX (lc' := [_, _, _, _]) dL_add_15 (by decide) rfl ?_
        refine V_iconst dL_add_16 ?_
        refine V_iret dL_add_17 rfl ?_
        exact ⟨q2, FO.of q3, 2, rfl, Or.inr ⟨1, _, rfl, hv, rfl⟩⟩
      · cases he
        refine ⟨[(0, 9, 12, 13), (0, 9, 15, 20)], (0, 9, 18, 15), [], _, rfl, (fun z hz => by simp only [List.mem_cons, List.not_mem_nil, or_false] at hz; rcases hz with rfl | rfl <;> first | exact ⟨by decide, _, e_RL_13, by simp [z_ncast]⟩ | exact ⟨by decide, _, e_RL_20, by simp [z_ncast]⟩), ⟨by decide, by decide⟩, by decide, e_RL_15, by simp [z_cast], fun q => ?_⟩
        refine V_astore_nX (lc' := [_, _, _, _]) dL_add_18 (by decide) rfl ?_
        refine V_iconst dL_add_19 ?_
        refine V_iret dL_add_20 rfl ?_
        exact ⟨q2, FO.of q3, 3, rfl, Or.inr ⟨2, _, rfl, hv, rfl⟩⟩
      · cases he
  · obtain ⟨q1, q2, q3⟩ := q
    rcases hx with ⟨v9, hv⟩ | ⟨n, e, he, hv⟩
    · rw [hv] at q1; cases q1
      have k9 : h_k h1 39 = 25 := (q3 39 (by decide) (by decide)).1.trans ho.1
      have l9 : h_l h1 39 = 1 := (q3 39 (by decide) (by decide)).2.1.trans ho.2.1
      refine V_i2lw dL_add_7 ?_
      refine V_last (j := 0) dL_add_8 k9 rfl (by rw [l9]; decide) (by rw [l9]; decide) ?_
      refine V_goto (tgt := 21) dL_add_9 (by decide) ?_
      refine V_iconst dL_add_21 ?_
      refine V_iret dL_add_22 rfl ?_
      exact ⟨DR.o q2, (FO.of q3).si, 0, rfl, Or.inl ⟨rfl, _, hv, by rw [hsi_at, if_pos ⟨rfl, rfl⟩]⟩⟩
    · rw [hv] at q1; cases q1
theorem T_L_twin (g : GP) {h : AH} {N U : Nat} {x : Res × MS} (p0 : Int) (p1 : Int) (ho : OW h) (h8 : h_k h 8 = 9) (hx : HX x [eIO, eIA]) (hT : Tr g m_X3_twin 11 [xR 8, xI p0, xI p1] h (Qp h N U x)) : TrH g m_L_twin 14 [xR 8, xI p0, xI p1, xR 39] h (QL h N U x [eIO, eIA]) := by
  refine TrH.ofV (by decide) (fun v hv => by simp only [List.mem_cons, List.not_mem_nil, or_false] at hv; rcases hv with rfl | rfl | rfl | rfl <;> first | rfl | exact cat_R) (Nat.le_of_ble_eq_true rfl) ?_
  change V g m_L_twin 14 _ h 0 [xR 8, xI p0, xI p1, xR 39, xU] []
  refine V_aload_n dL_twin_0 rfl ?_
  refine V_iconst dL_twin_1 ?_
  refine V_aload_n dL_twin_2 rfl ?_
  refine V_iload_n dL_twin_3 rfl ?_
  refine V_iload_n dL_twin_4 rfl ?_
  refine V_cC (as := [_, _]) dL_twin_5 c_RL_22 (by decide) rfl (Nat.le_of_ble_eq_true rfl) h8 hT (fun E h1 q => ?_) (fun v h1 q => ?_)
  · obtain ⟨q1, q2, q3⟩ := q
    rcases hx with ⟨v, hv⟩ | ⟨n, e, he, hv⟩
    · rw [hv] at q1; cases q1
    · rw [hv] at q1; cases q1
      rcases n with _ | _ | n
      · cases he
        refine ⟨[], (0, 10, 13, 26), [(0, 10, 17, 13)], _, rfl, (fun z hz => nomatch hz), ⟨by decide, by decide⟩, by decide, e_RL_26, by simp [z_cast], fun q => ?_⟩
        refine V_astoreX (lc' := [_, _, _, _, _]) dL_twin_13 (by decide) rfl ?_
        refine V_iconst dL_twin_15 ?_
        refine V_iret dL_twin_16 rfl ?_
        exact ⟨q2, FO.of q3, 1, rfl, Or.inr ⟨0, _, rfl, hv, rfl⟩⟩
      · cases he
        refine ⟨[(0, 10, 13, 26)], (0, 10, 17, 13), [], _, rfl, (fun z hz => by simp only [List.mem_cons, List.not_mem_nil, or_false] at hz; rcases hz with rfl <;> first | exact ⟨by decide, _, e_RL_26, by simp [z_ncast]⟩), ⟨by decide, by decide⟩, by decide, e_RL_13, by simp [z_cast], fun q => ?_⟩
        refine V_astoreX (lc' := [_, _, _, _, _]) dL_twin_17 (by decide) rfl ?_
        refine V_iconst dL_twin_19 ?_
        refine V_iret dL_twin_20 rfl ?_
        exact ⟨q2, FO.of q3, 2, rfl, Or.inr ⟨1, _, rfl, hv, rfl⟩⟩
      · cases he
  · obtain ⟨q1, q2, q3⟩ := q
    rcases hx with ⟨v9, hv⟩ | ⟨n, e, he, hv⟩
    · rw [hv] at q1; cases q1
      have k9 : h_k h1 39 = 25 := (q3 39 (by decide) (by decide)).1.trans ho.1
      have l9 : h_l h1 39 = 1 := (q3 39 (by decide) (by decide)).2.1.trans ho.2.1
      refine V_i2lw dL_twin_8 ?_
      refine V_last (j := 0) dL_twin_9 k9 rfl (by rw [l9]; decide) (by rw [l9]; decide) ?_
      refine V_goto (tgt := 21) dL_twin_10 (by decide) ?_
      refine V_iconst dL_twin_21 ?_
      refine V_iret dL_twin_22 rfl ?_
      exact ⟨DR.o q2, (FO.of q3).si, 0, rfl, Or.inl ⟨rfl, _, hv, by rw [hsi_at, if_pos ⟨rfl, rfl⟩]⟩⟩
    · rw [hv] at q1; cases q1
theorem T_L_areTwins (g : GP) {h : AH} {N U : Nat} {x : Res × MS} (p0 : Int) (p1 : Int) (ho : OW h) (h8 : h_k h 8 = 9) (hx : HX x [eIO]) (hb : ∀ v, x.1 = rI v → v = 0 ∨ v = 1) (hT : Tr g m_X3_areTwins 9 [xR 8, xI p0, xI p1] h (Qp h N U x)) : TrH g m_L_areTwins 14 [xR 8, xI p0, xI p1, xR 39] h (QL h N U x [eIO]) := by
  refine TrH.ofV (by decide) (fun v hv => by simp only [List.mem_cons, List.not_mem_nil, or_false] at hv; rcases hv with rfl | rfl | rfl | rfl <;> first | rfl | exact cat_R) (Nat.le_of_ble_eq_true rfl) ?_
  change V g m_L_areTwins 14 _ h 0 [xR 8, xI p0, xI p1, xR 39, xU] []
  refine V_aload_n dL_areTwins_0 rfl ?_
  refine V_iconst dL_areTwins_1 ?_
  refine V_aload_n dL_areTwins_2 rfl ?_
  refine V_iload_n dL_areTwins_3 rfl ?_
  refine V_iload_n dL_areTwins_4 rfl ?_
  refine V_cC (as := [_, _]) dL_areTwins_5 c_RL_28 (by decide) rfl (Nat.le_of_ble_eq_true rfl) h8 hT (fun E h1 q => ?_) (fun v h1 q => ?_)
  · obtain ⟨q1, q2, q3⟩ := q
    rcases hx with ⟨v, hv⟩ | ⟨n, e, he, hv⟩
    · rw [hv] at q1; cases q1
    · rw [hv] at q1; cases q1
      rcases n with _ | n
      · cases he
        refine ⟨[], (0, 17, 20, 26), [], _, rfl, (fun z hz => nomatch hz), ⟨by decide, by decide⟩, by decide, e_RL_26, by simp [z_cast], fun q => ?_⟩
        refine V_astoreX (lc' := [_, _, _, _, _]) dL_areTwins_20 (by decide) rfl ?_
        refine V_iconst dL_areTwins_22 ?_
        refine V_iret dL_areTwins_23 rfl ?_
        exact ⟨q2, FO.of q3, 1, rfl, Or.inr ⟨0, _, rfl, hv, rfl⟩⟩
      · cases he
  · obtain ⟨q1, q2, q3⟩ := q
    rcases hx with ⟨v9, hv⟩ | ⟨n, e, he, hv⟩
    · rw [hv] at q1; cases q1
      have k9 : h_k h1 39 = 25 := (q3 39 (by decide) (by decide)).1.trans ho.1
      have l9 : h_l h1 39 = 1 := (q3 39 (by decide) (by decide)).2.1.trans ho.2.1
      rcases hb v9 hv with rfl | rfl
      · refine V_if_eq (tgt := 15) dL_areTwins_8 (by decide) (by decide) (fun _ => ?_) (fun w => absurd rfl w)
        refine V_lconst (v := (0 : Int64)) dL_areTwins_15 (by decide) ?_
        refine V_last (j := 0) dL_areTwins_16 k9 rfl (by rw [l9]; decide) (by rw [l9]; decide) ?_
        refine V_goto (tgt := 24) dL_areTwins_17 (by decide) ?_
        refine V_iconst dL_areTwins_24 ?_
        refine V_iret dL_areTwins_25 rfl ?_
        exact ⟨DR.o q2, (FO.of q3).si, 0, rfl, Or.inl ⟨rfl, _, hv, by rw [hsi_at, if_pos ⟨rfl, rfl⟩]; rfl⟩⟩
      · refine V_if_eq (tgt := 15) dL_areTwins_8 (by decide) (by decide) (fun w => absurd w (by decide)) (fun _ => ?_)
        refine V_lconst (v := (1 : Int64)) dL_areTwins_11 (by decide) ?_
        refine V_goto (tgt := 16) dL_areTwins_12 (by decide) ?_
        refine V_last (j := 0) dL_areTwins_16 k9 rfl (by rw [l9]; decide) (by rw [l9]; decide) ?_
        refine V_goto (tgt := 24) dL_areTwins_17 (by decide) ?_
        refine V_iconst dL_areTwins_24 ?_
        refine V_iret dL_areTwins_25 rfl ?_
        exact ⟨DR.o q2, (FO.of q3).si, 0, rfl, Or.inl ⟨rfl, _, hv, by rw [hsi_at, if_pos ⟨rfl, rfl⟩]; rfl⟩⟩
    · rw [hv] at q1; cases q1
theorem T_L_wordAt (g : GP) {h : AH} {N U : Nat} {x : Res × MS} (p0 : Int) (p1 : Int) (ho : OW h) (h8 : h_k h 8 = 9) (hx : HX x [eIO, eNS]) (hT : Tr g m_X3_wordAt 9 [xR 8, xI p0, xI p1] h (Qp h N U x)) : TrH g m_L_wordAt 14 [xR 8, xI p0, xI p1, xR 39] h (QL h N U x [eIO, eNS]) := by
  refine TrH.ofV (by decide) (fun v hv => by simp only [List.mem_cons, List.not_mem_nil, or_false] at hv; rcases hv with rfl | rfl | rfl | rfl <;> first | rfl | exact cat_R) (Nat.le_of_ble_eq_true rfl) ?_
  change V g m_L_wordAt 14 _ h 0 [xR 8, xI p0, xI p1, xR 39, xU] []
  refine V_aload_n dL_wordAt_0 rfl ?_
  refine V_iconst dL_wordAt_1 ?_
  refine V_aload_n dL_wordAt_2 rfl ?_
  refine V_iload_n dL_wordAt_3 rfl ?_
  refine V_iload_n dL_wordAt_4 rfl ?_
  refine V_cC (as := [_, _]) dL_wordAt_5 c_RL_32 (by decide) rfl (Nat.le_of_ble_eq_true rfl) h8 hT (fun E h1 q => ?_) (fun v h1 q => ?_)
  · obtain ⟨q1, q2, q3⟩ := q
    rcases hx with ⟨v, hv⟩ | ⟨n, e, he, hv⟩
    · rw [hv] at q1; cases q1
    · rw [hv] at q1; cases q1
      rcases n with _ | _ | n
      · cases he
        refine ⟨[], (0, 10, 13, 26), [(0, 10, 17, 35)], _, rfl, (fun z hz => nomatch hz), ⟨by decide, by decide⟩, by decide, e_RL_26, by simp [z_cast], fun q => ?_⟩
        refine V_astoreX (lc' := [_, _, _, _, _]) dL_wordAt_13 (by decide) rfl ?_
        refine V_iconst dL_wordAt_15 ?_
        refine V_iret dL_wordAt_16 rfl ?_
        exact ⟨q2, FO.of q3, 1, rfl, Or.inr ⟨0, _, rfl, hv, rfl⟩⟩
      · cases he
        refine ⟨[(0, 10, 13, 26)], (0, 10, 17, 35), [], _, rfl, (fun z hz => by simp only [List.mem_cons, List.not_mem_nil, or_false] at hz; rcases hz with rfl <;> first | exact ⟨by decide, _, e_RL_26, by simp [z_ncast]⟩), ⟨by decide, by decide⟩, by decide, e_RL_35, by simp [z_cast], fun q => ?_⟩
        refine V_astoreX (lc' := [_, _, _, _, _]) dL_wordAt_17 (by decide) rfl ?_
        refine V_iconst dL_wordAt_19 ?_
        refine V_iret dL_wordAt_20 rfl ?_
        exact ⟨q2, FO.of q3, 2, rfl, Or.inr ⟨1, _, rfl, hv, rfl⟩⟩
      · cases he
  · obtain ⟨q1, q2, q3⟩ := q
    rcases hx with ⟨v9, hv⟩ | ⟨n, e, he, hv⟩
    · rw [hv] at q1; cases q1
      have k9 : h_k h1 39 = 25 := (q3 39 (by decide) (by decide)).1.trans ho.1
      have l9 : h_l h1 39 = 1 := (q3 39 (by decide) (by decide)).2.1.trans ho.2.1
      refine V_i2lw dL_wordAt_8 ?_
      refine V_last (j := 0) dL_wordAt_9 k9 rfl (by rw [l9]; decide) (by rw [l9]; decide) ?_
      refine V_goto (tgt := 21) dL_wordAt_10 (by decide) ?_
      refine V_iconst dL_wordAt_21 ?_
      refine V_iret dL_wordAt_22 rfl ?_
      exact ⟨DR.o q2, (FO.of q3).si, 0, rfl, Or.inl ⟨rfl, _, hv, by rw [hsi_at, if_pos ⟨rfl, rfl⟩]⟩⟩
    · rw [hv] at q1; cases q1
theorem T_L_level (g : GP) {h : AH} {N U : Nat} {x : Res × MS} (p0 : Int) (ho : OW h) (h8 : h_k h 8 = 9) (hx : HX x [eIO]) (hT : Tr g m_X3_level 9 [xR 8, xI p0] h (Qp h N U x)) : TrH g m_L_level 14 [xR 8, xI p0, xR 39] h (QL h N U x [eIO]) := by
  refine TrH.ofV (by decide) (fun v hv => by simp only [List.mem_cons, List.not_mem_nil, or_false] at hv; rcases hv with rfl | rfl | rfl <;> first | rfl | exact cat_R) (Nat.le_of_ble_eq_true rfl) ?_
  change V g m_L_level 14 _ h 0 [xR 8, xI p0, xR 39, xU] []
  refine V_aload_n dL_level_0 rfl ?_
  refine V_iconst dL_level_1 ?_
  refine V_aload_n dL_level_2 rfl ?_
  refine V_iload_n dL_level_3 rfl ?_
  refine V_cC (as := [_]) dL_level_4 c_RL_37 (by decide) rfl (Nat.le_of_ble_eq_true rfl) h8 hT (fun E h1 q => ?_) (fun v h1 q => ?_)
  · obtain ⟨q1, q2, q3⟩ := q
    rcases hx with ⟨v, hv⟩ | ⟨n, e, he, hv⟩
    · rw [hv] at q1; cases q1
    · rw [hv] at q1; cases q1
      rcases n with _ | n
      · cases he
        refine ⟨[], (0, 9, 12, 26), [], _, rfl, (fun z hz => nomatch hz), ⟨by decide, by decide⟩, by decide, e_RL_26, by simp [z_cast], fun q => ?_⟩
        refine V_astore_nX (lc' := [_, _, _, _]) dL_level_12 (by decide) rfl ?_
        refine V_iconst dL_level_13 ?_
        refine V_iret dL_level_14 rfl ?_
        exact ⟨q2, FO.of q3, 1, rfl, Or.inr ⟨0, _, rfl, hv, rfl⟩⟩
      · cases he
  · obtain ⟨q1, q2, q3⟩ := q
    rcases hx with ⟨v9, hv⟩ | ⟨n, e, he, hv⟩
    · rw [hv] at q1; cases q1
      have k9 : h_k h1 39 = 25 := (q3 39 (by decide) (by decide)).1.trans ho.1
      have l9 : h_l h1 39 = 1 := (q3 39 (by decide) (by decide)).2.1.trans ho.2.1
      refine V_i2lw dL_level_7 ?_
      refine V_last (j := 0) dL_level_8 k9 rfl (by rw [l9]; decide) (by rw [l9]; decide) ?_
      refine V_goto (tgt := 15) dL_level_9 (by decide) ?_
      refine V_iconst dL_level_15 ?_
      refine V_iret dL_level_16 rfl ?_
      exact ⟨DR.o q2, (FO.of q3).si, 0, rfl, Or.inl ⟨rfl, _, hv, by rw [hsi_at, if_pos ⟨rfl, rfl⟩]⟩⟩
    · rw [hv] at q1; cases q1
theorem T_L_levelAnew (g : GP) {h : AH} {N U : Nat} {x : Res × MS} (p0 : Int) (ho : OW h) (h8 : h_k h 8 = 9) (hx : HX x [eIO]) (hT : Tr g m_X3_levelAnew 9 [xR 8, xI p0] h (Qp h N U x)) : TrH g m_L_levelAnew 14 [xR 8, xI p0, xR 39] h (QL h N U x [eIO]) := by
  refine TrH.ofV (by decide) (fun v hv => by simp only [List.mem_cons, List.not_mem_nil, or_false] at hv; rcases hv with rfl | rfl | rfl <;> first | rfl | exact cat_R) (Nat.le_of_ble_eq_true rfl) ?_
  change V g m_L_levelAnew 14 _ h 0 [xR 8, xI p0, xR 39, xU] []
  refine V_aload_n dL_levelAnew_0 rfl ?_
  refine V_iconst dL_levelAnew_1 ?_
  refine V_aload_n dL_levelAnew_2 rfl ?_
  refine V_iload_n dL_levelAnew_3 rfl ?_
  refine V_cC (as := [_]) dL_levelAnew_4 c_RL_40 (by decide) rfl (Nat.le_of_ble_eq_true rfl) h8 hT (fun E h1 q => ?_) (fun v h1 q => ?_)
  · obtain ⟨q1, q2, q3⟩ := q
    rcases hx with ⟨v, hv⟩ | ⟨n, e, he, hv⟩
    · rw [hv] at q1; cases q1
    · rw [hv] at q1; cases q1
      rcases n with _ | n
      · cases he
        refine ⟨[], (0, 9, 12, 26), [], _, rfl, (fun z hz => nomatch hz), ⟨by decide, by decide⟩, by decide, e_RL_26, by simp [z_cast], fun q => ?_⟩
        refine V_astore_nX (lc' := [_, _, _, _]) dL_levelAnew_12 (by decide) rfl ?_
        refine V_iconst dL_levelAnew_13 ?_
        refine V_iret dL_levelAnew_14 rfl ?_
        exact ⟨q2, FO.of q3, 1, rfl, Or.inr ⟨0, _, rfl, hv, rfl⟩⟩
      · cases he
  · obtain ⟨q1, q2, q3⟩ := q
    rcases hx with ⟨v9, hv⟩ | ⟨n, e, he, hv⟩
    · rw [hv] at q1; cases q1
      have k9 : h_k h1 39 = 25 := (q3 39 (by decide) (by decide)).1.trans ho.1
      have l9 : h_l h1 39 = 1 := (q3 39 (by decide) (by decide)).2.1.trans ho.2.1
      refine V_i2lw dL_levelAnew_7 ?_
      refine V_last (j := 0) dL_levelAnew_8 k9 rfl (by rw [l9]; decide) (by rw [l9]; decide) ?_
      refine V_goto (tgt := 15) dL_levelAnew_9 (by decide) ?_
      refine V_iconst dL_levelAnew_15 ?_
      refine V_iret dL_levelAnew_16 rfl ?_
      exact ⟨DR.o q2, (FO.of q3).si, 0, rfl, Or.inl ⟨rfl, _, hv, by rw [hsi_at, if_pos ⟨rfl, rfl⟩]⟩⟩
    · rw [hv] at q1; cases q1
theorem T_L_kind (g : GP) {h : AH} {N U : Nat} {x : Res × MS} (p0 : Int) (ho : OW h) (h8 : h_k h 8 = 9) (hx : HX x [eIO]) (hT : Tr g m_X3_kind 9 [xR 8, xI p0] h (Qp h N U x)) : TrH g m_L_kind 14 [xR 8, xI p0, xR 39] h (QL h N U x [eIO]) := by
  refine TrH.ofV (by decide) (fun v hv => by simp only [List.mem_cons, List.not_mem_nil, or_false] at hv; rcases hv with rfl | rfl | rfl <;> first | rfl | exact cat_R) (Nat.le_of_ble_eq_true rfl) ?_
  change V g m_L_kind 14 _ h 0 [xR 8, xI p0, xR 39, xU] []
  refine V_aload_n dL_kind_0 rfl ?_
  refine V_iconst dL_kind_1 ?_
  refine V_aload_n dL_kind_2 rfl ?_
  refine V_iload_n dL_kind_3 rfl ?_
  refine V_cC (as := [_]) dL_kind_4 c_RL_43 (by decide) rfl (Nat.le_of_ble_eq_true rfl) h8 hT (fun E h1 q => ?_) (fun v h1 q => ?_)
  · obtain ⟨q1, q2, q3⟩ := q
    rcases hx with ⟨v, hv⟩ | ⟨n, e, he, hv⟩
    · rw [hv] at q1; cases q1
    · rw [hv] at q1; cases q1
      rcases n with _ | n
      · cases he
        refine ⟨[], (0, 9, 12, 26), [], _, rfl, (fun z hz => nomatch hz), ⟨by decide, by decide⟩, by decide, e_RL_26, by simp [z_cast], fun q => ?_⟩
        refine V_astore_nX (lc' := [_, _, _, _]) dL_kind_12 (by decide) rfl ?_
        refine V_iconst dL_kind_13 ?_
        refine V_iret dL_kind_14 rfl ?_
        exact ⟨q2, FO.of q3, 1, rfl, Or.inr ⟨0, _, rfl, hv, rfl⟩⟩
      · cases he
  · obtain ⟨q1, q2, q3⟩ := q
    rcases hx with ⟨v9, hv⟩ | ⟨n, e, he, hv⟩
    · rw [hv] at q1; cases q1
      have k9 : h_k h1 39 = 25 := (q3 39 (by decide) (by decide)).1.trans ho.1
      have l9 : h_l h1 39 = 1 := (q3 39 (by decide) (by decide)).2.1.trans ho.2.1
      refine V_i2lw dL_kind_7 ?_
      refine V_last (j := 0) dL_kind_8 k9 rfl (by rw [l9]; decide) (by rw [l9]; decide) ?_
      refine V_goto (tgt := 15) dL_kind_9 (by decide) ?_
      refine V_iconst dL_kind_15 ?_
      refine V_iret dL_kind_16 rfl ?_
      exact ⟨DR.o q2, (FO.of q3).si, 0, rfl, Or.inl ⟨rfl, _, hv, by rw [hsi_at, if_pos ⟨rfl, rfl⟩]⟩⟩
    · rw [hv] at q1; cases q1
theorem T_L_search (g : GP) {h : AH} {N U : Nat} {x : Res × MS} (ho : OW h) (h8 : h_k h 8 = 9) (hx : HX x [eUO]) (hT : Tr g m_X3_search 8 [xR 8] h (Qp h N U x)) : TrH g m_L_search 14 [xR 8, xR 39] h (QL h N U x [eUO]) := by
  refine TrH.ofV (by decide) (fun v hv => by simp only [List.mem_cons, List.not_mem_nil, or_false] at hv; rcases hv with rfl | rfl <;> first | rfl | exact cat_R) (Nat.le_of_ble_eq_true rfl) ?_
  change V g m_L_search 14 _ h 0 [xR 8, xR 39, xU] []
  refine V_aload_n dL_search_0 rfl ?_
  refine V_iconst dL_search_1 ?_
  refine V_aload_n dL_search_2 rfl ?_
  refine V_cC (as := []) dL_search_3 c_RL_47 (by decide) rfl (Nat.le_of_ble_eq_true rfl) h8 hT (fun E h1 q => ?_) (fun v h1 q => ?_)
  · obtain ⟨q1, q2, q3⟩ := q
    rcases hx with ⟨v, hv⟩ | ⟨n, e, he, hv⟩
    · rw [hv] at q1; cases q1
    · rw [hv] at q1; cases q1
      rcases n with _ | n
      · cases he
        refine ⟨[], (0, 8, 11, 20), [], _, rfl, (fun z hz => nomatch hz), ⟨by decide, by decide⟩, by decide, e_RL_20, by simp [z_cast], fun q => ?_⟩
        refine V_astore_nX (lc' := [_, _, _]) dL_search_11 (by decide) rfl ?_
        refine V_iconst dL_search_12 ?_
        refine V_iret dL_search_13 rfl ?_
        exact ⟨q2, FO.of q3, 1, rfl, Or.inr ⟨0, _, rfl, hv, rfl⟩⟩
      · cases he
  · obtain ⟨q1, q2, q3⟩ := q
    rcases hx with ⟨v9, hv⟩ | ⟨n, e, he, hv⟩
    · rw [hv] at q1; cases q1
      have k9 : h_k h1 39 = 25 := (q3 39 (by decide) (by decide)).1.trans ho.1
      have l9 : h_l h1 39 = 1 := (q3 39 (by decide) (by decide)).2.1.trans ho.2.1
      refine V_i2lw dL_search_6 ?_
      refine V_last (j := 0) dL_search_7 k9 rfl (by rw [l9]; decide) (by rw [l9]; decide) ?_
      refine V_goto (tgt := 14) dL_search_8 (by decide) ?_
      refine V_iconst dL_search_14 ?_
      refine V_iret dL_search_15 rfl ?_
      exact ⟨DR.o q2, (FO.of q3).si, 0, rfl, Or.inl ⟨rfl, _, hv, by rw [hsi_at, if_pos ⟨rfl, rfl⟩]⟩⟩
    · rw [hv] at q1; cases q1
theorem T_L_hitAt (g : GP) {h : AH} {N U : Nat} {x : Res × MS} (p0 : Int) (ho : OW h) (h8 : h_k h 8 = 9) (hx : HX x [eNS]) (hT : Tr g m_X3_hitAt 10 [xR 8, xI p0] h (Qp h N U x)) : TrH g m_L_hitAt 14 [xR 8, xI p0, xR 39] h (QL h N U x [eNS]) := by
  refine TrH.ofV (by decide) (fun v hv => by simp only [List.mem_cons, List.not_mem_nil, or_false] at hv; rcases hv with rfl | rfl | rfl <;> first | rfl | exact cat_R) (Nat.le_of_ble_eq_true rfl) ?_
  change V g m_L_hitAt 14 _ h 0 [xR 8, xI p0, xR 39, xU] []
  refine V_aload_n dL_hitAt_0 rfl ?_
  refine V_iconst dL_hitAt_1 ?_
  refine V_aload_n dL_hitAt_2 rfl ?_
  refine V_iload_n dL_hitAt_3 rfl ?_
  refine V_cC (as := [_]) dL_hitAt_4 c_RL_51 (by decide) rfl (Nat.le_of_ble_eq_true rfl) h8 hT (fun E h1 q => ?_) (fun v h1 q => ?_)
  · obtain ⟨q1, q2, q3⟩ := q
    rcases hx with ⟨v, hv⟩ | ⟨n, e, he, hv⟩
    · rw [hv] at q1; cases q1
    · rw [hv] at q1; cases q1
      rcases n with _ | n
      · cases he
        refine ⟨[], (0, 9, 12, 35), [], _, rfl, (fun z hz => nomatch hz), ⟨by decide, by decide⟩, by decide, e_RL_35, by simp [z_cast], fun q => ?_⟩
        refine V_astore_nX (lc' := [_, _, _, _]) dL_hitAt_12 (by decide) rfl ?_
        refine V_iconst dL_hitAt_13 ?_
        refine V_iret dL_hitAt_14 rfl ?_
        exact ⟨q2, FO.of q3, 1, rfl, Or.inr ⟨0, _, rfl, hv, rfl⟩⟩
      · cases he
  · obtain ⟨q1, q2, q3⟩ := q
    rcases hx with ⟨v9, hv⟩ | ⟨n, e, he, hv⟩
    · rw [hv] at q1; cases q1
      have k9 : h_k h1 39 = 25 := (q3 39 (by decide) (by decide)).1.trans ho.1
      have l9 : h_l h1 39 = 1 := (q3 39 (by decide) (by decide)).2.1.trans ho.2.1
      refine V_i2lw dL_hitAt_7 ?_
      refine V_last (j := 0) dL_hitAt_8 k9 rfl (by rw [l9]; decide) (by rw [l9]; decide) ?_
      refine V_goto (tgt := 15) dL_hitAt_9 (by decide) ?_
      refine V_iconst dL_hitAt_15 ?_
      refine V_iret dL_hitAt_16 rfl ?_
      exact ⟨DR.o q2, (FO.of q3).si, 0, rfl, Or.inl ⟨rfl, _, hv, by rw [hsi_at, if_pos ⟨rfl, rfl⟩]⟩⟩
    · rw [hv] at q1; cases q1
theorem T_L_rankAt (g : GP) {h : AH} {N U : Nat} {x : Res × MS} (p0 : Int) (ho : OW h) (h8 : h_k h 8 = 9) (hx : HX x [eNS]) (hT : Tr g m_X3_rankAt 10 [xR 8, xI p0] h (Qp h N U x)) : TrH g m_L_rankAt 14 [xR 8, xI p0, xR 39] h (QL h N U x [eNS]) := by
  refine TrH.ofV (by decide) (fun v hv => by simp only [List.mem_cons, List.not_mem_nil, or_false] at hv; rcases hv with rfl | rfl | rfl <;> first | rfl | exact cat_R) (Nat.le_of_ble_eq_true rfl) ?_
  change V g m_L_rankAt 14 _ h 0 [xR 8, xI p0, xR 39, xU] []
  refine V_aload_n dL_rankAt_0 rfl ?_
  refine V_iconst dL_rankAt_1 ?_
  refine V_aload_n dL_rankAt_2 rfl ?_
  refine V_iload_n dL_rankAt_3 rfl ?_
  refine V_cC (as := [_]) dL_rankAt_4 c_RL_54 (by decide) rfl (Nat.le_of_ble_eq_true rfl) h8 hT (fun E h1 q => ?_) (fun v h1 q => ?_)
  · obtain ⟨q1, q2, q3⟩ := q
    rcases hx with ⟨v, hv⟩ | ⟨n, e, he, hv⟩
    · rw [hv] at q1; cases q1
    · rw [hv] at q1; cases q1
      rcases n with _ | n
      · cases he
        refine ⟨[], (0, 9, 12, 35), [], _, rfl, (fun z hz => nomatch hz), ⟨by decide, by decide⟩, by decide, e_RL_35, by simp [z_cast], fun q => ?_⟩
        refine V_astore_nX (lc' := [_, _, _, _]) dL_rankAt_12 (by decide) rfl ?_
        refine V_iconst dL_rankAt_13 ?_
        refine V_iret dL_rankAt_14 rfl ?_
        exact ⟨q2, FO.of q3, 1, rfl, Or.inr ⟨0, _, rfl, hv, rfl⟩⟩
      · cases he
  · obtain ⟨q1, q2, q3⟩ := q
    rcases hx with ⟨v9, hv⟩ | ⟨n, e, he, hv⟩
    · rw [hv] at q1; cases q1
      have k9 : h_k h1 39 = 25 := (q3 39 (by decide) (by decide)).1.trans ho.1
      have l9 : h_l h1 39 = 1 := (q3 39 (by decide) (by decide)).2.1.trans ho.2.1
      refine V_i2lw dL_rankAt_7 ?_
      refine V_last (j := 0) dL_rankAt_8 k9 rfl (by rw [l9]; decide) (by rw [l9]; decide) ?_
      refine V_goto (tgt := 15) dL_rankAt_9 (by decide) ?_
      refine V_iconst dL_rankAt_15 ?_
      refine V_iret dL_rankAt_16 rfl ?_
      exact ⟨DR.o q2, (FO.of q3).si, 0, rfl, Or.inl ⟨rfl, _, hv, by rw [hsi_at, if_pos ⟨rfl, rfl⟩]⟩⟩
    · rw [hv] at q1; cases q1
theorem T_L_nextWeek (g : GP) {h : AH} {N U : Nat} {x : Res × MS} (ho : OW h) (h8 : h_k h 8 = 9) (hx : HX x [eIS]) (hT : Tr g m_X3_nextWeek 11 [xR 8] h (Qp h N U x)) : TrH g m_L_nextWeek 14 [xR 8, xR 39] h (QL h N U x [eIS]) := by
  refine TrH.ofV (by decide) (fun v hv => by simp only [List.mem_cons, List.not_mem_nil, or_false] at hv; rcases hv with rfl | rfl <;> first | rfl | exact cat_R) (Nat.le_of_ble_eq_true rfl) ?_
  change V g m_L_nextWeek 14 _ h 0 [xR 8, xR 39, xU] []
  refine V_aload_n dL_nextWeek_0 rfl ?_
  refine V_iconst dL_nextWeek_1 ?_
  refine V_aload_n dL_nextWeek_2 rfl ?_
  refine V_cC (as := []) dL_nextWeek_3 c_RL_57 (by decide) rfl (Nat.le_of_ble_eq_true rfl) h8 hT (fun E h1 q => ?_) (fun v h1 q => ?_)
  · obtain ⟨q1, q2, q3⟩ := q
    rcases hx with ⟨v, hv⟩ | ⟨n, e, he, hv⟩
    · rw [hv] at q1; cases q1
    · rw [hv] at q1; cases q1
      rcases n with _ | n
      · cases he
        refine ⟨[], (0, 8, 11, 15), [], _, rfl, (fun z hz => nomatch hz), ⟨by decide, by decide⟩, by decide, e_RL_15, by simp [z_cast], fun q => ?_⟩
        refine V_astore_nX (lc' := [_, _, _]) dL_nextWeek_11 (by decide) rfl ?_
        refine V_iconst dL_nextWeek_12 ?_
        refine V_iret dL_nextWeek_13 rfl ?_
        exact ⟨q2, FO.of q3, 1, rfl, Or.inr ⟨0, _, rfl, hv, rfl⟩⟩
      · cases he
  · obtain ⟨q1, q2, q3⟩ := q
    rcases hx with ⟨v9, hv⟩ | ⟨n, e, he, hv⟩
    · rw [hv] at q1; cases q1
      have k9 : h_k h1 39 = 25 := (q3 39 (by decide) (by decide)).1.trans ho.1
      have l9 : h_l h1 39 = 1 := (q3 39 (by decide) (by decide)).2.1.trans ho.2.1
      refine V_i2lw dL_nextWeek_6 ?_
      refine V_last (j := 0) dL_nextWeek_7 k9 rfl (by rw [l9]; decide) (by rw [l9]; decide) ?_
      refine V_goto (tgt := 14) dL_nextWeek_8 (by decide) ?_
      refine V_iconst dL_nextWeek_14 ?_
      refine V_iret dL_nextWeek_15 rfl ?_
      exact ⟨DR.o q2, (FO.of q3).si, 0, rfl, Or.inl ⟨rfl, _, hv, by rw [hsi_at, if_pos ⟨rfl, rfl⟩]⟩⟩
    · rw [hv] at q1; cases q1
theorem T_L_plan (g : GP) {h : AH} {N U : Nat} {x : Res × MS} (p0 : Int) (p1 : Int) (p2 : Int) (ho : OW h) (h8 : h_k h 8 = 9) (hx : HX x [eIA, eIS]) (hT : Tr g m_X3_plan 11 [xR 8, xI p0, xI p1, xI p2] h (Qp h N U x)) : TrH g m_L_plan 14 [xR 8, xI p0, xI p1, xI p2, xR 39] h (QL h N U x [eIA, eIS]) := by
  refine TrH.ofV (by decide) (fun v hv => by simp only [List.mem_cons, List.not_mem_nil, or_false] at hv; rcases hv with rfl | rfl | rfl | rfl | rfl <;> first | rfl | exact cat_R) (Nat.le_of_ble_eq_true rfl) ?_
  change V g m_L_plan 14 _ h 0 [xR 8, xI p0, xI p1, xI p2, xR 39, xU] []
  refine V_aload dL_plan_0 rfl ?_
  refine V_iconst dL_plan_2 ?_
  refine V_aload_n dL_plan_3 rfl ?_
  refine V_iload_n dL_plan_4 rfl ?_
  refine V_iload_n dL_plan_5 rfl ?_
  refine V_iload_n dL_plan_6 rfl ?_
  refine V_cC (as := [_, _, _]) dL_plan_7 c_RL_60 (by decide) rfl (Nat.le_of_ble_eq_true rfl) h8 hT (fun E h1 q => ?_) (fun v h1 q => ?_)
  · obtain ⟨q1, q2, q3⟩ := q
    rcases hx with ⟨v, hv⟩ | ⟨n, e, he, hv⟩
    · rw [hv] at q1; cases q1
    · rw [hv] at q1; cases q1
      rcases n with _ | _ | n
      · cases he
        refine ⟨[], (0, 12, 15, 13), [(0, 12, 19, 15)], _, rfl, (fun z hz => nomatch hz), ⟨by decide, by decide⟩, by decide, e_RL_13, by simp [z_cast], fun q => ?_⟩
        refine V_astoreX (lc' := [_, _, _, _, _, _]) dL_plan_15 (by decide) rfl ?_
        refine V_iconst dL_plan_17 ?_
        refine V_iret dL_plan_18 rfl ?_
        exact ⟨q2, FO.of q3, 1, rfl, Or.inr ⟨0, _, rfl, hv, rfl⟩⟩
      · cases he
        refine ⟨[(0, 12, 15, 13)], (0, 12, 19, 15), [], _, rfl, (fun z hz => by simp only [List.mem_cons, List.not_mem_nil, or_false] at hz; rcases hz with rfl <;> first | exact ⟨by decide, _, e_RL_13, by simp [z_ncast]⟩), ⟨by decide, by decide⟩, by decide, e_RL_15, by simp [z_cast], fun q => ?_⟩
        refine V_astoreX (lc' := [_, _, _, _, _, _]) dL_plan_19 (by decide) rfl ?_
        refine V_iconst dL_plan_21 ?_
        refine V_iret dL_plan_22 rfl ?_
        exact ⟨q2, FO.of q3, 2, rfl, Or.inr ⟨1, _, rfl, hv, rfl⟩⟩
      · cases he
  · obtain ⟨q1, q2, q3⟩ := q
    rcases hx with ⟨v9, hv⟩ | ⟨n, e, he, hv⟩
    · rw [hv] at q1; cases q1
      have k9 : h_k h1 39 = 25 := (q3 39 (by decide) (by decide)).1.trans ho.1
      have l9 : h_l h1 39 = 1 := (q3 39 (by decide) (by decide)).2.1.trans ho.2.1
      refine V_i2lw dL_plan_10 ?_
      refine V_last (j := 0) dL_plan_11 k9 rfl (by rw [l9]; decide) (by rw [l9]; decide) ?_
      refine V_goto (tgt := 23) dL_plan_12 (by decide) ?_
      refine V_iconst dL_plan_23 ?_
      refine V_iret dL_plan_24 rfl ?_
      exact ⟨DR.o q2, (FO.of q3).si, 0, rfl, Or.inl ⟨rfl, _, hv, by rw [hsi_at, if_pos ⟨rfl, rfl⟩]⟩⟩
    · rw [hv] at q1; cases q1
theorem T_L_drop (g : GP) {h : AH} {N U : Nat} {x : Res × MS} (p0 : Int) (ho : OW h) (h8 : h_k h 8 = 9) (hx : HX x [eIO, eUO]) (hT : Tr g m_X3_drop 11 [xR 8, xI p0] h (Qp h N U x)) : TrH g m_L_drop 14 [xR 8, xI p0, xR 39] h (QL h N U x [eIO, eUO]) := by
  refine TrH.ofV (by decide) (fun v hv => by simp only [List.mem_cons, List.not_mem_nil, or_false] at hv; rcases hv with rfl | rfl | rfl <;> first | rfl | exact cat_R) (Nat.le_of_ble_eq_true rfl) ?_
  change V g m_L_drop 14 _ h 0 [xR 8, xI p0, xR 39, xU] []
  refine V_aload_n dL_drop_0 rfl ?_
  refine V_iconst dL_drop_1 ?_
  refine V_aload_n dL_drop_2 rfl ?_
  refine V_iload_n dL_drop_3 rfl ?_
  refine V_cC (as := [_]) dL_drop_4 c_RL_64 (by decide) rfl (Nat.le_of_ble_eq_true rfl) h8 hT (fun E h1 q => ?_) (fun v h1 q => ?_)
  · obtain ⟨q1, q2, q3⟩ := q
    rcases hx with ⟨v, hv⟩ | ⟨n, e, he, hv⟩
    · rw [hv] at q1; cases q1
    · rw [hv] at q1; cases q1
      rcases n with _ | _ | n
      · cases he
        refine ⟨[], (0, 9, 12, 26), [(0, 9, 15, 20)], _, rfl, (fun z hz => nomatch hz), ⟨by decide, by decide⟩, by decide, e_RL_26, by simp [z_cast], fun q => ?_⟩
        refine V_astore_nX (lc' := [_, _, _, _]) dL_drop_12 (by decide) rfl ?_
        refine V_iconst dL_drop_13 ?_
        refine V_iret dL_drop_14 rfl ?_
        exact ⟨q2, FO.of q3, 1, rfl, Or.inr ⟨0, _, rfl, hv, rfl⟩⟩
      · cases he
        refine ⟨[(0, 9, 12, 26)], (0, 9, 15, 20), [], _, rfl, (fun z hz => by simp only [List.mem_cons, List.not_mem_nil, or_false] at hz; rcases hz with rfl <;> first | exact ⟨by decide, _, e_RL_26, by simp [z_ncast]⟩), ⟨by decide, by decide⟩, by decide, e_RL_20, by simp [z_cast], fun q => ?_⟩
        refine V_astore_nX (lc' := [_, _, _, _]) dL_drop_15 (by decide) rfl ?_
        refine V_iconst dL_drop_16 ?_
        refine V_iret dL_drop_17 rfl ?_
        exact ⟨q2, FO.of q3, 2, rfl, Or.inr ⟨1, _, rfl, hv, rfl⟩⟩
      · cases he
  · obtain ⟨q1, q2, q3⟩ := q
    rcases hx with ⟨v9, hv⟩ | ⟨n, e, he, hv⟩
    · rw [hv] at q1; cases q1
      have k9 : h_k h1 39 = 25 := (q3 39 (by decide) (by decide)).1.trans ho.1
      have l9 : h_l h1 39 = 1 := (q3 39 (by decide) (by decide)).2.1.trans ho.2.1
      refine V_i2lw dL_drop_7 ?_
      refine V_last (j := 0) dL_drop_8 k9 rfl (by rw [l9]; decide) (by rw [l9]; decide) ?_
      refine V_goto (tgt := 18) dL_drop_9 (by decide) ?_
      refine V_iconst dL_drop_18 ?_
      refine V_iret dL_drop_19 rfl ?_
      exact ⟨DR.o q2, (FO.of q3).si, 0, rfl, Or.inl ⟨rfl, _, hv, by rw [hsi_at, if_pos ⟨rfl, rfl⟩]⟩⟩
    · rw [hv] at q1; cases q1
theorem T_L_held (g : GP) {h : AH} {N U : Nat} {x : Res × MS} (p0 : Int) (ho : OW h) (h8 : h_k h 8 = 9) (hx : HX x [eIO]) (hT : Tr g m_X3_held 9 [xR 8, xI p0] h (Qp h N U x)) : TrH g m_L_held 14 [xR 8, xI p0, xR 39] h (QL h N U x [eIO]) := by
  refine TrH.ofV (by decide) (fun v hv => by simp only [List.mem_cons, List.not_mem_nil, or_false] at hv; rcases hv with rfl | rfl | rfl <;> first | rfl | exact cat_R) (Nat.le_of_ble_eq_true rfl) ?_
  change V g m_L_held 14 _ h 0 [xR 8, xI p0, xR 39, xU] []
  refine V_aload_n dL_held_0 rfl ?_
  refine V_iconst dL_held_1 ?_
  refine V_aload_n dL_held_2 rfl ?_
  refine V_iload_n dL_held_3 rfl ?_
  refine V_cC (as := [_]) dL_held_4 c_RL_67 (by decide) rfl (Nat.le_of_ble_eq_true rfl) h8 hT (fun E h1 q => ?_) (fun v h1 q => ?_)
  · obtain ⟨q1, q2, q3⟩ := q
    rcases hx with ⟨v, hv⟩ | ⟨n, e, he, hv⟩
    · rw [hv] at q1; cases q1
    · rw [hv] at q1; cases q1
      rcases n with _ | n
      · cases he
        refine ⟨[], (0, 9, 12, 26), [], _, rfl, (fun z hz => nomatch hz), ⟨by decide, by decide⟩, by decide, e_RL_26, by simp [z_cast], fun q => ?_⟩
        refine V_astore_nX (lc' := [_, _, _, _]) dL_held_12 (by decide) rfl ?_
        refine V_iconst dL_held_13 ?_
        refine V_iret dL_held_14 rfl ?_
        exact ⟨q2, FO.of q3, 1, rfl, Or.inr ⟨0, _, rfl, hv, rfl⟩⟩
      · cases he
  · obtain ⟨q1, q2, q3⟩ := q
    rcases hx with ⟨v9, hv⟩ | ⟨n, e, he, hv⟩
    · rw [hv] at q1; cases q1
      have k9 : h_k h1 39 = 25 := (q3 39 (by decide) (by decide)).1.trans ho.1
      have l9 : h_l h1 39 = 1 := (q3 39 (by decide) (by decide)).2.1.trans ho.2.1
      refine V_i2lw dL_held_7 ?_
      refine V_last (j := 0) dL_held_8 k9 rfl (by rw [l9]; decide) (by rw [l9]; decide) ?_
      refine V_goto (tgt := 15) dL_held_9 (by decide) ?_
      refine V_iconst dL_held_15 ?_
      refine V_iret dL_held_16 rfl ?_
      exact ⟨DR.o q2, (FO.of q3).si, 0, rfl, Or.inl ⟨rfl, _, hv, by rw [hsi_at, if_pos ⟨rfl, rfl⟩]⟩⟩
    · rw [hv] at q1; cases q1
theorem T_L_heldAt (g : GP) {h : AH} {N U : Nat} {x : Res × MS} (p0 : Int) (p1 : Int) (ho : OW h) (h8 : h_k h 8 = 9) (hx : HX x [eIO, eNS]) (hT : Tr g m_X3_heldAt 9 [xR 8, xI p0, xI p1] h (Qp h N U x)) : TrH g m_L_heldAt 14 [xR 8, xI p0, xI p1, xR 39] h (QL h N U x [eIO, eNS]) := by
  refine TrH.ofV (by decide) (fun v hv => by simp only [List.mem_cons, List.not_mem_nil, or_false] at hv; rcases hv with rfl | rfl | rfl | rfl <;> first | rfl | exact cat_R) (Nat.le_of_ble_eq_true rfl) ?_
  change V g m_L_heldAt 14 _ h 0 [xR 8, xI p0, xI p1, xR 39, xU] []
  refine V_aload_n dL_heldAt_0 rfl ?_
  refine V_iconst dL_heldAt_1 ?_
  refine V_aload_n dL_heldAt_2 rfl ?_
  refine V_iload_n dL_heldAt_3 rfl ?_
  refine V_iload_n dL_heldAt_4 rfl ?_
  refine V_cC (as := [_, _]) dL_heldAt_5 c_RL_70 (by decide) rfl (Nat.le_of_ble_eq_true rfl) h8 hT (fun E h1 q => ?_) (fun v h1 q => ?_)
  · obtain ⟨q1, q2, q3⟩ := q
    rcases hx with ⟨v, hv⟩ | ⟨n, e, he, hv⟩
    · rw [hv] at q1; cases q1
    · rw [hv] at q1; cases q1
      rcases n with _ | _ | n
      · cases he
        refine ⟨[], (0, 10, 13, 26), [(0, 10, 17, 35)], _, rfl, (fun z hz => nomatch hz), ⟨by decide, by decide⟩, by decide, e_RL_26, by simp [z_cast], fun q => ?_⟩
        refine V_astoreX (lc' := [_, _, _, _, _]) dL_heldAt_13 (by decide) rfl ?_
        refine V_iconst dL_heldAt_15 ?_
        refine V_iret dL_heldAt_16 rfl ?_
        exact ⟨q2, FO.of q3, 1, rfl, Or.inr ⟨0, _, rfl, hv, rfl⟩⟩
      · cases he
        refine ⟨[(0, 10, 13, 26)], (0, 10, 17, 35), [], _, rfl, (fun z hz => by simp only [List.mem_cons, List.not_mem_nil, or_false] at hz; rcases hz with rfl <;> first | exact ⟨by decide, _, e_RL_26, by simp [z_ncast]⟩), ⟨by decide, by decide⟩, by decide, e_RL_35, by simp [z_cast], fun q => ?_⟩
        refine V_astoreX (lc' := [_, _, _, _, _]) dL_heldAt_17 (by decide) rfl ?_
        refine V_iconst dL_heldAt_19 ?_
        refine V_iret dL_heldAt_20 rfl ?_
        exact ⟨q2, FO.of q3, 2, rfl, Or.inr ⟨1, _, rfl, hv, rfl⟩⟩
      · cases he
  · obtain ⟨q1, q2, q3⟩ := q
    rcases hx with ⟨v9, hv⟩ | ⟨n, e, he, hv⟩
    · rw [hv] at q1; cases q1
      have k9 : h_k h1 39 = 25 := (q3 39 (by decide) (by decide)).1.trans ho.1
      have l9 : h_l h1 39 = 1 := (q3 39 (by decide) (by decide)).2.1.trans ho.2.1
      refine V_i2lw dL_heldAt_8 ?_
      refine V_last (j := 0) dL_heldAt_9 k9 rfl (by rw [l9]; decide) (by rw [l9]; decide) ?_
      refine V_goto (tgt := 21) dL_heldAt_10 (by decide) ?_
      refine V_iconst dL_heldAt_21 ?_
      refine V_iret dL_heldAt_22 rfl ?_
      exact ⟨DR.o q2, (FO.of q3).si, 0, rfl, Or.inl ⟨rfl, _, hv, by rw [hsi_at, if_pos ⟨rfl, rfl⟩]⟩⟩
    · rw [hv] at q1; cases q1
theorem T_L_lacks (g : GP) {h : AH} {N U : Nat} {x : Res × MS} (p0 : Int) (ho : OW h) (h8 : h_k h 8 = 9) (hx : HX x [eIO]) (hT : Tr g m_X3_lacks 9 [xR 8, xI p0] h (Qp h N U x)) : TrH g m_L_lacks 14 [xR 8, xI p0, xR 39] h (QL h N U x [eIO]) := by
  refine TrH.ofV (by decide) (fun v hv => by simp only [List.mem_cons, List.not_mem_nil, or_false] at hv; rcases hv with rfl | rfl | rfl <;> first | rfl | exact cat_R) (Nat.le_of_ble_eq_true rfl) ?_
  change V g m_L_lacks 14 _ h 0 [xR 8, xI p0, xR 39, xU] []
  refine V_aload_n dL_lacks_0 rfl ?_
  refine V_iconst dL_lacks_1 ?_
  refine V_aload_n dL_lacks_2 rfl ?_
  refine V_iload_n dL_lacks_3 rfl ?_
  refine V_cC (as := [_]) dL_lacks_4 c_RL_73 (by decide) rfl (Nat.le_of_ble_eq_true rfl) h8 hT (fun E h1 q => ?_) (fun v h1 q => ?_)
  · obtain ⟨q1, q2, q3⟩ := q
    rcases hx with ⟨v, hv⟩ | ⟨n, e, he, hv⟩
    · rw [hv] at q1; cases q1
    · rw [hv] at q1; cases q1
      rcases n with _ | n
      · cases he
        refine ⟨[], (0, 9, 12, 26), [], _, rfl, (fun z hz => nomatch hz), ⟨by decide, by decide⟩, by decide, e_RL_26, by simp [z_cast], fun q => ?_⟩
        refine V_astore_nX (lc' := [_, _, _, _]) dL_lacks_12 (by decide) rfl ?_
        refine V_iconst dL_lacks_13 ?_
        refine V_iret dL_lacks_14 rfl ?_
        exact ⟨q2, FO.of q3, 1, rfl, Or.inr ⟨0, _, rfl, hv, rfl⟩⟩
      · cases he
  · obtain ⟨q1, q2, q3⟩ := q
    rcases hx with ⟨v9, hv⟩ | ⟨n, e, he, hv⟩
    · rw [hv] at q1; cases q1
      have k9 : h_k h1 39 = 25 := (q3 39 (by decide) (by decide)).1.trans ho.1
      have l9 : h_l h1 39 = 1 := (q3 39 (by decide) (by decide)).2.1.trans ho.2.1
      refine V_i2lw dL_lacks_7 ?_
      refine V_last (j := 0) dL_lacks_8 k9 rfl (by rw [l9]; decide) (by rw [l9]; decide) ?_
      refine V_goto (tgt := 15) dL_lacks_9 (by decide) ?_
      refine V_iconst dL_lacks_15 ?_
      refine V_iret dL_lacks_16 rfl ?_
      exact ⟨DR.o q2, (FO.of q3).si, 0, rfl, Or.inl ⟨rfl, _, hv, by rw [hsi_at, if_pos ⟨rfl, rfl⟩]⟩⟩
    · rw [hv] at q1; cases q1
theorem T_L_isFree (g : GP) {h : AH} {N U : Nat} {x : Res × MS} (p0 : Int) (ho : OW h) (h8 : h_k h 8 = 9) (hx : HX x [eIO]) (hb : ∀ v, x.1 = rI v → v = 0 ∨ v = 1) (hT : Tr g m_X3_isFree 9 [xR 8, xI p0] h (Qp h N U x)) : TrH g m_L_isFree 14 [xR 8, xI p0, xR 39] h (QL h N U x [eIO]) := by
  refine TrH.ofV (by decide) (fun v hv => by simp only [List.mem_cons, List.not_mem_nil, or_false] at hv; rcases hv with rfl | rfl | rfl <;> first | rfl | exact cat_R) (Nat.le_of_ble_eq_true rfl) ?_
  change V g m_L_isFree 14 _ h 0 [xR 8, xI p0, xR 39, xU] []
  refine V_aload_n dL_isFree_0 rfl ?_
  refine V_iconst dL_isFree_1 ?_
  refine V_aload_n dL_isFree_2 rfl ?_
  refine V_iload_n dL_isFree_3 rfl ?_
  refine V_cC (as := [_]) dL_isFree_4 c_RL_76 (by decide) rfl (Nat.le_of_ble_eq_true rfl) h8 hT (fun E h1 q => ?_) (fun v h1 q => ?_)
  · obtain ⟨q1, q2, q3⟩ := q
    rcases hx with ⟨v, hv⟩ | ⟨n, e, he, hv⟩
    · rw [hv] at q1; cases q1
    · rw [hv] at q1; cases q1
      rcases n with _ | n
      · cases he
        refine ⟨[], (0, 16, 19, 26), [], _, rfl, (fun z hz => nomatch hz), ⟨by decide, by decide⟩, by decide, e_RL_26, by simp [z_cast], fun q => ?_⟩
        refine V_astore_nX (lc' := [_, _, _, _]) dL_isFree_19 (by decide) rfl ?_
        refine V_iconst dL_isFree_20 ?_
        refine V_iret dL_isFree_21 rfl ?_
        exact ⟨q2, FO.of q3, 1, rfl, Or.inr ⟨0, _, rfl, hv, rfl⟩⟩
      · cases he
  · obtain ⟨q1, q2, q3⟩ := q
    rcases hx with ⟨v9, hv⟩ | ⟨n, e, he, hv⟩
    · rw [hv] at q1; cases q1
      have k9 : h_k h1 39 = 25 := (q3 39 (by decide) (by decide)).1.trans ho.1
      have l9 : h_l h1 39 = 1 := (q3 39 (by decide) (by decide)).2.1.trans ho.2.1
      rcases hb v9 hv with rfl | rfl
      · refine V_if_eq (tgt := 14) dL_isFree_7 (by decide) (by decide) (fun _ => ?_) (fun w => absurd rfl w)
        refine V_lconst (v := (0 : Int64)) dL_isFree_14 (by decide) ?_
        refine V_last (j := 0) dL_isFree_15 k9 rfl (by rw [l9]; decide) (by rw [l9]; decide) ?_
        refine V_goto (tgt := 22) dL_isFree_16 (by decide) ?_
        refine V_iconst dL_isFree_22 ?_
        refine V_iret dL_isFree_23 rfl ?_
        exact ⟨DR.o q2, (FO.of q3).si, 0, rfl, Or.inl ⟨rfl, _, hv, by rw [hsi_at, if_pos ⟨rfl, rfl⟩]; rfl⟩⟩
      · refine V_if_eq (tgt := 14) dL_isFree_7 (by decide) (by decide) (fun w => absurd w (by decide)) (fun _ => ?_)
        refine V_lconst (v := (1 : Int64)) dL_isFree_10 (by decide) ?_
        refine V_goto (tgt := 15) dL_isFree_11 (by decide) ?_
        refine V_last (j := 0) dL_isFree_15 k9 rfl (by rw [l9]; decide) (by rw [l9]; decide) ?_
        refine V_goto (tgt := 22) dL_isFree_16 (by decide) ?_
        refine V_iconst dL_isFree_22 ?_
        refine V_iret dL_isFree_23 rfl ?_
        exact ⟨DR.o q2, (FO.of q3).si, 0, rfl, Or.inl ⟨rfl, _, hv, by rw [hsi_at, if_pos ⟨rfl, rfl⟩]; rfl⟩⟩
    · rw [hv] at q1; cases q1
theorem T_L_quiz (g : GP) {h : AH} {N U : Nat} {x : Res × MS} (p0 : Int) (p1 : Int) (p2 : Int) (p3 : Int) (ho : OW h) (h8 : h_k h 8 = 9) (hx : HX x [eIA, eNS, eIS]) (hT : Tr g m_X3_quiz 12 [xR 8, xI p0, xI p1, xI p2, xI p3] h (Qp h N U x)) : TrH g m_L_quiz 14 [xR 8, xI p0, xI p1, xI p2, xI p3, xR 39] h (QL h N U x [eIA, eNS, eIS]) := by
  refine TrH.ofV (by decide) (fun v hv => by simp only [List.mem_cons, List.not_mem_nil, or_false] at hv; rcases hv with rfl | rfl | rfl | rfl | rfl | rfl <;> first | rfl | exact cat_R) (Nat.le_of_ble_eq_true rfl) ?_
  change V g m_L_quiz 14 _ h 0 [xR 8, xI p0, xI p1, xI p2, xI p3, xR 39, xU] []
  refine V_aload dL_quiz_0 rfl ?_
  refine V_iconst dL_quiz_2 ?_
  refine V_aload_n dL_quiz_3 rfl ?_
  refine V_iload_n dL_quiz_4 rfl ?_
  refine V_iload_n dL_quiz_5 rfl ?_
  refine V_iload_n dL_quiz_6 rfl ?_
  refine V_iload dL_quiz_7 rfl ?_
  refine V_cC (as := [_, _, _, _]) dL_quiz_9 c_RL_80 (by decide) rfl (Nat.le_of_ble_eq_true rfl) h8 hT (fun E h1 q => ?_) (fun v h1 q => ?_)
  · obtain ⟨q1, q2, q3⟩ := q
    rcases hx with ⟨v, hv⟩ | ⟨n, e, he, hv⟩
    · rw [hv] at q1; cases q1
    · rw [hv] at q1; cases q1
      rcases n with _ | _ | _ | n
      · cases he
        refine ⟨[], (0, 14, 17, 13), [(0, 14, 21, 35), (0, 14, 25, 15)], _, rfl, (fun z hz => nomatch hz), ⟨by decide, by decide⟩, by decide, e_RL_13, by simp [z_cast], fun q => ?_⟩
        refine V_astoreX (lc' := [_, _, _, _, _, _, _]) dL_quiz_17 (by decide) rfl ?_
        refine V_iconst dL_quiz_19 ?_
        refine V_iret dL_quiz_20 rfl ?_
        exact ⟨q2, FO.of q3, 1, rfl, Or.inr ⟨0, _, rfl, hv, rfl⟩⟩
      · cases he
        refine ⟨[(0, 14, 17, 13)], (0, 14, 21, 35), [(0, 14, 25, 15)], _, rfl, (fun z hz => by simp only [List.mem_cons, List.not_mem_nil, or_false] at hz; rcases hz with rfl <;> first | exact ⟨by decide, _, e_RL_13, by simp [z_ncast]⟩), ⟨by decide, by decide⟩, by decide, e_RL_35, by simp [z_cast], fun q => ?_⟩
        refine V_astoreX (lc' := [_, _, _, _, _, _, _]) dL_quiz_21 (by decide) rfl ?_
        refine V_iconst dL_quiz_23 ?_
        refine V_iret dL_quiz_24 rfl ?_
        exact ⟨q2, FO.of q3, 2, rfl, Or.inr ⟨1, _, rfl, hv, rfl⟩⟩
      · cases he
        refine ⟨[(0, 14, 17, 13), (0, 14, 21, 35)], (0, 14, 25, 15), [], _, rfl, (fun z hz => by simp only [List.mem_cons, List.not_mem_nil, or_false] at hz; rcases hz with rfl | rfl <;> first | exact ⟨by decide, _, e_RL_13, by simp [z_ncast]⟩ | exact ⟨by decide, _, e_RL_35, by simp [z_ncast]⟩), ⟨by decide, by decide⟩, by decide, e_RL_15, by simp [z_cast], fun q => ?_⟩
        refine V_astoreX (lc' := [_, _, _, _, _, _, _]) dL_quiz_25 (by decide) rfl ?_
        refine V_iconst dL_quiz_27 ?_
        refine V_iret dL_quiz_28 rfl ?_
        exact ⟨q2, FO.of q3, 3, rfl, Or.inr ⟨2, _, rfl, hv, rfl⟩⟩
      · cases he
  · obtain ⟨q1, q2, q3⟩ := q
    rcases hx with ⟨v9, hv⟩ | ⟨n, e, he, hv⟩
    · rw [hv] at q1; cases q1
      have k9 : h_k h1 39 = 25 := (q3 39 (by decide) (by decide)).1.trans ho.1
      have l9 : h_l h1 39 = 1 := (q3 39 (by decide) (by decide)).2.1.trans ho.2.1
      refine V_i2lw dL_quiz_12 ?_
      refine V_last (j := 0) dL_quiz_13 k9 rfl (by rw [l9]; decide) (by rw [l9]; decide) ?_
      refine V_goto (tgt := 29) dL_quiz_14 (by decide) ?_
      refine V_iconst dL_quiz_29 ?_
      refine V_iret dL_quiz_30 rfl ?_
      exact ⟨DR.o q2, (FO.of q3).si, 0, rfl, Or.inl ⟨rfl, _, hv, by rw [hsi_at, if_pos ⟨rfl, rfl⟩]⟩⟩
    · rw [hv] at q1; cases q1
theorem T_L_quizOf (g : GP) {h : AH} {N U : Nat} {x : Res × MS} (p0 : Int) (ho : OW h) (h8 : h_k h 8 = 9) (hx : HX x [eIO, eUO, eIS]) (hT : Tr g m_X3_quizOf 12 [xR 8, xI p0] h (Qp h N U x)) : TrH g m_L_quizOf 14 [xR 8, xI p0, xR 39] h (QL h N U x [eIO, eUO, eIS]) := by
  refine TrH.ofV (by decide) (fun v hv => by simp only [List.mem_cons, List.not_mem_nil, or_false] at hv; rcases hv with rfl | rfl | rfl <;> first | rfl | exact cat_R) (Nat.le_of_ble_eq_true rfl) ?_
  change V g m_L_quizOf 14 _ h 0 [xR 8, xI p0, xR 39, xU] []
  refine V_aload_n dL_quizOf_0 rfl ?_
  refine V_iconst dL_quizOf_1 ?_
  refine V_aload_n dL_quizOf_2 rfl ?_
  refine V_iload_n dL_quizOf_3 rfl ?_
  refine V_cC (as := [_]) dL_quizOf_4 c_RL_84 (by decide) rfl (Nat.le_of_ble_eq_true rfl) h8 hT (fun E h1 q => ?_) (fun v h1 q => ?_)
  · obtain ⟨q1, q2, q3⟩ := q
    rcases hx with ⟨v, hv⟩ | ⟨n, e, he, hv⟩
    · rw [hv] at q1; cases q1
    · rw [hv] at q1; cases q1
      rcases n with _ | _ | _ | n
      · cases he
        refine ⟨[], (0, 9, 12, 26), [(0, 9, 15, 20), (0, 9, 18, 15)], _, rfl, (fun z hz => nomatch hz), ⟨by decide, by decide⟩, by decide, e_RL_26, by simp [z_cast], fun q => ?_⟩
        refine V_astore_nX (lc' := [_, _, _, _]) dL_quizOf_12 (by decide) rfl ?_
        refine V_iconst dL_quizOf_13 ?_
        refine V_iret dL_quizOf_14 rfl ?_
        exact ⟨q2, FO.of q3, 1, rfl, Or.inr ⟨0, _, rfl, hv, rfl⟩⟩
      · cases he
        refine ⟨[(0, 9, 12, 26)], (0, 9, 15, 20), [(0, 9, 18, 15)], _, rfl, (fun z hz => by simp only [List.mem_cons, List.not_mem_nil, or_false] at hz; rcases hz with rfl <;> first | exact ⟨by decide, _, e_RL_26, by simp [z_ncast]⟩), ⟨by decide, by decide⟩, by decide, e_RL_20, by simp [z_cast], fun q => ?_⟩
        refine V_astore_nX (lc' := [_, _, _, _]) dL_quizOf_15 (by decide) rfl ?_
        refine V_iconst dL_quizOf_16 ?_
        refine V_iret dL_quizOf_17 rfl ?_
        exact ⟨q2, FO.of q3, 2, rfl, Or.inr ⟨1, _, rfl, hv, rfl⟩⟩
      · cases he
        refine ⟨[(0, 9, 12, 26), (0, 9, 15, 20)], (0, 9, 18, 15), [], _, rfl, (fun z hz => by simp only [List.mem_cons, List.not_mem_nil, or_false] at hz; rcases hz with rfl | rfl <;> first | exact ⟨by decide, _, e_RL_26, by simp [z_ncast]⟩ | exact ⟨by decide, _, e_RL_20, by simp [z_ncast]⟩), ⟨by decide, by decide⟩, by decide, e_RL_15, by simp [z_cast], fun q => ?_⟩
        refine V_astore_nX (lc' := [_, _, _, _]) dL_quizOf_18 (by decide) rfl ?_
        refine V_iconst dL_quizOf_19 ?_
        refine V_iret dL_quizOf_20 rfl ?_
        exact ⟨q2, FO.of q3, 3, rfl, Or.inr ⟨2, _, rfl, hv, rfl⟩⟩
      · cases he
  · obtain ⟨q1, q2, q3⟩ := q
    rcases hx with ⟨v9, hv⟩ | ⟨n, e, he, hv⟩
    · rw [hv] at q1; cases q1
      have k9 : h_k h1 39 = 25 := (q3 39 (by decide) (by decide)).1.trans ho.1
      have l9 : h_l h1 39 = 1 := (q3 39 (by decide) (by decide)).2.1.trans ho.2.1
      refine V_i2lw dL_quizOf_7 ?_
      refine V_last (j := 0) dL_quizOf_8 k9 rfl (by rw [l9]; decide) (by rw [l9]; decide) ?_
      refine V_goto (tgt := 21) dL_quizOf_9 (by decide) ?_
      refine V_iconst dL_quizOf_21 ?_
      refine V_iret dL_quizOf_22 rfl ?_
      exact ⟨DR.o q2, (FO.of q3).si, 0, rfl, Or.inl ⟨rfl, _, hv, by rw [hsi_at, if_pos ⟨rfl, rfl⟩]⟩⟩
    · rw [hv] at q1; cases q1
theorem T_L_size (g : GP) {h : AH} {N U : Nat} {x : Res × MS} (p0 : Int) (ho : OW h) (h8 : h_k h 8 = 9) (hx : HX x [eIO]) (hT : Tr g m_X3_size 9 [xR 8, xI p0] h (Qp h N U x)) : TrH g m_L_size 14 [xR 8, xI p0, xR 39] h (QL h N U x [eIO]) := by
  refine TrH.ofV (by decide) (fun v hv => by simp only [List.mem_cons, List.not_mem_nil, or_false] at hv; rcases hv with rfl | rfl | rfl <;> first | rfl | exact cat_R) (Nat.le_of_ble_eq_true rfl) ?_
  change V g m_L_size 14 _ h 0 [xR 8, xI p0, xR 39, xU] []
  refine V_aload_n dL_size_0 rfl ?_
  refine V_iconst dL_size_1 ?_
  refine V_aload_n dL_size_2 rfl ?_
  refine V_iload_n dL_size_3 rfl ?_
  refine V_cC (as := [_]) dL_size_4 c_RL_87 (by decide) rfl (Nat.le_of_ble_eq_true rfl) h8 hT (fun E h1 q => ?_) (fun v h1 q => ?_)
  · obtain ⟨q1, q2, q3⟩ := q
    rcases hx with ⟨v, hv⟩ | ⟨n, e, he, hv⟩
    · rw [hv] at q1; cases q1
    · rw [hv] at q1; cases q1
      rcases n with _ | n
      · cases he
        refine ⟨[], (0, 9, 12, 26), [], _, rfl, (fun z hz => nomatch hz), ⟨by decide, by decide⟩, by decide, e_RL_26, by simp [z_cast], fun q => ?_⟩
        refine V_astore_nX (lc' := [_, _, _, _]) dL_size_12 (by decide) rfl ?_
        refine V_iconst dL_size_13 ?_
        refine V_iret dL_size_14 rfl ?_
        exact ⟨q2, FO.of q3, 1, rfl, Or.inr ⟨0, _, rfl, hv, rfl⟩⟩
      · cases he
  · obtain ⟨q1, q2, q3⟩ := q
    rcases hx with ⟨v9, hv⟩ | ⟨n, e, he, hv⟩
    · rw [hv] at q1; cases q1
      have k9 : h_k h1 39 = 25 := (q3 39 (by decide) (by decide)).1.trans ho.1
      have l9 : h_l h1 39 = 1 := (q3 39 (by decide) (by decide)).2.1.trans ho.2.1
      refine V_i2lw dL_size_7 ?_
      refine V_last (j := 0) dL_size_8 k9 rfl (by rw [l9]; decide) (by rw [l9]; decide) ?_
      refine V_goto (tgt := 15) dL_size_9 (by decide) ?_
      refine V_iconst dL_size_15 ?_
      refine V_iret dL_size_16 rfl ?_
      exact ⟨DR.o q2, (FO.of q3).si, 0, rfl, Or.inl ⟨rfl, _, hv, by rw [hsi_at, if_pos ⟨rfl, rfl⟩]⟩⟩
    · rw [hv] at q1; cases q1
theorem T_L_questionAt (g : GP) {h : AH} {N U : Nat} {x : Res × MS} (p0 : Int) (p1 : Int) (ho : OW h) (h8 : h_k h 8 = 9) (hx : HX x [eIO, eNS]) (hT : Tr g m_X3_questionAt 9 [xR 8, xI p0, xI p1] h (Qp h N U x)) : TrH g m_L_questionAt 14 [xR 8, xI p0, xI p1, xR 39] h (QL h N U x [eIO, eNS]) := by
  refine TrH.ofV (by decide) (fun v hv => by simp only [List.mem_cons, List.not_mem_nil, or_false] at hv; rcases hv with rfl | rfl | rfl | rfl <;> first | rfl | exact cat_R) (Nat.le_of_ble_eq_true rfl) ?_
  change V g m_L_questionAt 14 _ h 0 [xR 8, xI p0, xI p1, xR 39, xU] []
  refine V_aload_n dL_questionAt_0 rfl ?_
  refine V_iconst dL_questionAt_1 ?_
  refine V_aload_n dL_questionAt_2 rfl ?_
  refine V_iload_n dL_questionAt_3 rfl ?_
  refine V_iload_n dL_questionAt_4 rfl ?_
  refine V_cC (as := [_, _]) dL_questionAt_5 c_RL_90 (by decide) rfl (Nat.le_of_ble_eq_true rfl) h8 hT (fun E h1 q => ?_) (fun v h1 q => ?_)
  · obtain ⟨q1, q2, q3⟩ := q
    rcases hx with ⟨v, hv⟩ | ⟨n, e, he, hv⟩
    · rw [hv] at q1; cases q1
    · rw [hv] at q1; cases q1
      rcases n with _ | _ | n
      · cases he
        refine ⟨[], (0, 10, 13, 26), [(0, 10, 17, 35)], _, rfl, (fun z hz => nomatch hz), ⟨by decide, by decide⟩, by decide, e_RL_26, by simp [z_cast], fun q => ?_⟩
        refine V_astoreX (lc' := [_, _, _, _, _]) dL_questionAt_13 (by decide) rfl ?_
        refine V_iconst dL_questionAt_15 ?_
        refine V_iret dL_questionAt_16 rfl ?_
        exact ⟨q2, FO.of q3, 1, rfl, Or.inr ⟨0, _, rfl, hv, rfl⟩⟩
      · cases he
        refine ⟨[(0, 10, 13, 26)], (0, 10, 17, 35), [], _, rfl, (fun z hz => by simp only [List.mem_cons, List.not_mem_nil, or_false] at hz; rcases hz with rfl <;> first | exact ⟨by decide, _, e_RL_26, by simp [z_ncast]⟩), ⟨by decide, by decide⟩, by decide, e_RL_35, by simp [z_cast], fun q => ?_⟩
        refine V_astoreX (lc' := [_, _, _, _, _]) dL_questionAt_17 (by decide) rfl ?_
        refine V_iconst dL_questionAt_19 ?_
        refine V_iret dL_questionAt_20 rfl ?_
        exact ⟨q2, FO.of q3, 2, rfl, Or.inr ⟨1, _, rfl, hv, rfl⟩⟩
      · cases he
  · obtain ⟨q1, q2, q3⟩ := q
    rcases hx with ⟨v9, hv⟩ | ⟨n, e, he, hv⟩
    · rw [hv] at q1; cases q1
      have k9 : h_k h1 39 = 25 := (q3 39 (by decide) (by decide)).1.trans ho.1
      have l9 : h_l h1 39 = 1 := (q3 39 (by decide) (by decide)).2.1.trans ho.2.1
      refine V_i2lw dL_questionAt_8 ?_
      refine V_last (j := 0) dL_questionAt_9 k9 rfl (by rw [l9]; decide) (by rw [l9]; decide) ?_
      refine V_goto (tgt := 21) dL_questionAt_10 (by decide) ?_
      refine V_iconst dL_questionAt_21 ?_
      refine V_iret dL_questionAt_22 rfl ?_
      exact ⟨DR.o q2, (FO.of q3).si, 0, rfl, Or.inl ⟨rfl, _, hv, by rw [hsi_at, if_pos ⟨rfl, rfl⟩]⟩⟩
    · rw [hv] at q1; cases q1
theorem T_L_stateOf (g : GP) {h : AH} {N U : Nat} {x : Res × MS} (p0 : Int) (ho : OW h) (h8 : h_k h 8 = 9) (hx : HX x [eIO]) (hT : Tr g m_X3_stateOf 9 [xR 8, xI p0] h (Qp h N U x)) : TrH g m_L_stateOf 14 [xR 8, xI p0, xR 39] h (QL h N U x [eIO]) := by
  refine TrH.ofV (by decide) (fun v hv => by simp only [List.mem_cons, List.not_mem_nil, or_false] at hv; rcases hv with rfl | rfl | rfl <;> first | rfl | exact cat_R) (Nat.le_of_ble_eq_true rfl) ?_
  change V g m_L_stateOf 14 _ h 0 [xR 8, xI p0, xR 39, xU] []
  refine V_aload_n dL_stateOf_0 rfl ?_
  refine V_iconst dL_stateOf_1 ?_
  refine V_aload_n dL_stateOf_2 rfl ?_
  refine V_iload_n dL_stateOf_3 rfl ?_
  refine V_cC (as := [_]) dL_stateOf_4 c_RL_93 (by decide) rfl (Nat.le_of_ble_eq_true rfl) h8 hT (fun E h1 q => ?_) (fun v h1 q => ?_)
  · obtain ⟨q1, q2, q3⟩ := q
    rcases hx with ⟨v, hv⟩ | ⟨n, e, he, hv⟩
    · rw [hv] at q1; cases q1
    · rw [hv] at q1; cases q1
      rcases n with _ | n
      · cases he
        refine ⟨[], (0, 9, 12, 26), [], _, rfl, (fun z hz => nomatch hz), ⟨by decide, by decide⟩, by decide, e_RL_26, by simp [z_cast], fun q => ?_⟩
        refine V_astore_nX (lc' := [_, _, _, _]) dL_stateOf_12 (by decide) rfl ?_
        refine V_iconst dL_stateOf_13 ?_
        refine V_iret dL_stateOf_14 rfl ?_
        exact ⟨q2, FO.of q3, 1, rfl, Or.inr ⟨0, _, rfl, hv, rfl⟩⟩
      · cases he
  · obtain ⟨q1, q2, q3⟩ := q
    rcases hx with ⟨v9, hv⟩ | ⟨n, e, he, hv⟩
    · rw [hv] at q1; cases q1
      have k9 : h_k h1 39 = 25 := (q3 39 (by decide) (by decide)).1.trans ho.1
      have l9 : h_l h1 39 = 1 := (q3 39 (by decide) (by decide)).2.1.trans ho.2.1
      refine V_i2lw dL_stateOf_7 ?_
      refine V_last (j := 0) dL_stateOf_8 k9 rfl (by rw [l9]; decide) (by rw [l9]; decide) ?_
      refine V_goto (tgt := 15) dL_stateOf_9 (by decide) ?_
      refine V_iconst dL_stateOf_15 ?_
      refine V_iret dL_stateOf_16 rfl ?_
      exact ⟨DR.o q2, (FO.of q3).si, 0, rfl, Or.inl ⟨rfl, _, hv, by rw [hsi_at, if_pos ⟨rfl, rfl⟩]⟩⟩
    · rw [hv] at q1; cases q1
theorem T_L_print (g : GP) {h : AH} {N U : Nat} {x : Res × MS} (ho : OW h) (h8 : h_k h 8 = 9) (hx : HX x [eIS, eNS]) (hT : Tr g m_X3_print 11 [xR 8] h (Qp h N U x)) : TrH g m_L_print 14 [xR 8, xR 39] h (QL h N U x [eIS, eNS]) := by
  refine TrH.ofV (by decide) (fun v hv => by simp only [List.mem_cons, List.not_mem_nil, or_false] at hv; rcases hv with rfl | rfl <;> first | rfl | exact cat_R) (Nat.le_of_ble_eq_true rfl) ?_
  change V g m_L_print 14 _ h 0 [xR 8, xR 39, xU] []
  refine V_aload_n dL_print_0 rfl ?_
  refine V_iconst dL_print_1 ?_
  refine V_aload_n dL_print_2 rfl ?_
  refine V_cC (as := []) dL_print_3 c_RL_96 (by decide) rfl (Nat.le_of_ble_eq_true rfl) h8 hT (fun E h1 q => ?_) (fun v h1 q => ?_)
  · obtain ⟨q1, q2, q3⟩ := q
    rcases hx with ⟨v, hv⟩ | ⟨n, e, he, hv⟩
    · rw [hv] at q1; cases q1
    · rw [hv] at q1; cases q1
      rcases n with _ | _ | n
      · cases he
        refine ⟨[], (0, 8, 11, 15), [(0, 8, 14, 35)], _, rfl, (fun z hz => nomatch hz), ⟨by decide, by decide⟩, by decide, e_RL_15, by simp [z_cast], fun q => ?_⟩
        refine V_astore_nX (lc' := [_, _, _]) dL_print_11 (by decide) rfl ?_
        refine V_iconst dL_print_12 ?_
        refine V_iret dL_print_13 rfl ?_
        exact ⟨q2, FO.of q3, 1, rfl, Or.inr ⟨0, _, rfl, hv, rfl⟩⟩
      · cases he
        refine ⟨[(0, 8, 11, 15)], (0, 8, 14, 35), [], _, rfl, (fun z hz => by simp only [List.mem_cons, List.not_mem_nil, or_false] at hz; rcases hz with rfl <;> first | exact ⟨by decide, _, e_RL_15, by simp [z_ncast]⟩), ⟨by decide, by decide⟩, by decide, e_RL_35, by simp [z_cast], fun q => ?_⟩
        refine V_astore_nX (lc' := [_, _, _]) dL_print_14 (by decide) rfl ?_
        refine V_iconst dL_print_15 ?_
        refine V_iret dL_print_16 rfl ?_
        exact ⟨q2, FO.of q3, 2, rfl, Or.inr ⟨1, _, rfl, hv, rfl⟩⟩
      · cases he
  · obtain ⟨q1, q2, q3⟩ := q
    rcases hx with ⟨v9, hv⟩ | ⟨n, e, he, hv⟩
    · rw [hv] at q1; cases q1
      have k9 : h_k h1 39 = 25 := (q3 39 (by decide) (by decide)).1.trans ho.1
      have l9 : h_l h1 39 = 1 := (q3 39 (by decide) (by decide)).2.1.trans ho.2.1
      refine V_i2lw dL_print_6 ?_
      refine V_last (j := 0) dL_print_7 k9 rfl (by rw [l9]; decide) (by rw [l9]; decide) ?_
      refine V_goto (tgt := 17) dL_print_8 (by decide) ?_
      refine V_iconst dL_print_17 ?_
      refine V_iret dL_print_18 rfl ?_
      exact ⟨DR.o q2, (FO.of q3).si, 0, rfl, Or.inl ⟨rfl, _, hv, by rw [hsi_at, if_pos ⟨rfl, rfl⟩]⟩⟩
    · rw [hv] at q1; cases q1
theorem T_L_cancel (g : GP) {h : AH} {N U : Nat} {x : Res × MS} (p0 : Int) (ho : OW h) (h8 : h_k h 8 = 9) (hx : HX x [eIO, eUO]) (hT : Tr g m_X3_cancel 11 [xR 8, xI p0] h (Qp h N U x)) : TrH g m_L_cancel 14 [xR 8, xI p0, xR 39] h (QL h N U x [eIO, eUO]) := by
  refine TrH.ofV (by decide) (fun v hv => by simp only [List.mem_cons, List.not_mem_nil, or_false] at hv; rcases hv with rfl | rfl | rfl <;> first | rfl | exact cat_R) (Nat.le_of_ble_eq_true rfl) ?_
  change V g m_L_cancel 14 _ h 0 [xR 8, xI p0, xR 39, xU] []
  refine V_aload_n dL_cancel_0 rfl ?_
  refine V_iconst dL_cancel_1 ?_
  refine V_aload_n dL_cancel_2 rfl ?_
  refine V_iload_n dL_cancel_3 rfl ?_
  refine V_cC (as := [_]) dL_cancel_4 c_RL_99 (by decide) rfl (Nat.le_of_ble_eq_true rfl) h8 hT (fun E h1 q => ?_) (fun v h1 q => ?_)
  · obtain ⟨q1, q2, q3⟩ := q
    rcases hx with ⟨v, hv⟩ | ⟨n, e, he, hv⟩
    · rw [hv] at q1; cases q1
    · rw [hv] at q1; cases q1
      rcases n with _ | _ | n
      · cases he
        refine ⟨[], (0, 9, 12, 26), [(0, 9, 15, 20)], _, rfl, (fun z hz => nomatch hz), ⟨by decide, by decide⟩, by decide, e_RL_26, by simp [z_cast], fun q => ?_⟩
        refine V_astore_nX (lc' := [_, _, _, _]) dL_cancel_12 (by decide) rfl ?_
        refine V_iconst dL_cancel_13 ?_
        refine V_iret dL_cancel_14 rfl ?_
        exact ⟨q2, FO.of q3, 1, rfl, Or.inr ⟨0, _, rfl, hv, rfl⟩⟩
      · cases he
        refine ⟨[(0, 9, 12, 26)], (0, 9, 15, 20), [], _, rfl, (fun z hz => by simp only [List.mem_cons, List.not_mem_nil, or_false] at hz; rcases hz with rfl <;> first | exact ⟨by decide, _, e_RL_26, by simp [z_ncast]⟩), ⟨by decide, by decide⟩, by decide, e_RL_20, by simp [z_cast], fun q => ?_⟩
        refine V_astore_nX (lc' := [_, _, _, _]) dL_cancel_15 (by decide) rfl ?_
        refine V_iconst dL_cancel_16 ?_
        refine V_iret dL_cancel_17 rfl ?_
        exact ⟨q2, FO.of q3, 2, rfl, Or.inr ⟨1, _, rfl, hv, rfl⟩⟩
      · cases he
  · obtain ⟨q1, q2, q3⟩ := q
    rcases hx with ⟨v9, hv⟩ | ⟨n, e, he, hv⟩
    · rw [hv] at q1; cases q1
      have k9 : h_k h1 39 = 25 := (q3 39 (by decide) (by decide)).1.trans ho.1
      have l9 : h_l h1 39 = 1 := (q3 39 (by decide) (by decide)).2.1.trans ho.2.1
      refine V_i2lw dL_cancel_7 ?_
      refine V_last (j := 0) dL_cancel_8 k9 rfl (by rw [l9]; decide) (by rw [l9]; decide) ?_
      refine V_goto (tgt := 18) dL_cancel_9 (by decide) ?_
      refine V_iconst dL_cancel_18 ?_
      refine V_iret dL_cancel_19 rfl ?_
      exact ⟨DR.o q2, (FO.of q3).si, 0, rfl, Or.inl ⟨rfl, _, hv, by rw [hsi_at, if_pos ⟨rfl, rfl⟩]⟩⟩
    · rw [hv] at q1; cases q1
theorem T_L_answer (g : GP) {h : AH} {N U : Nat} {x : Res × MS} (p0 : Int) (p1 : Int) (p2 : Int) (ho : OW h) (h8 : h_k h 8 = 9) (hx : HX x [eIO, eUO, eNS]) (hT : Tr g m_X3_answer 11 [xR 8, xI p0, xI p1, xI p2] h (Qp h N U x)) : TrH g m_L_answer 14 [xR 8, xI p0, xI p1, xI p2, xR 39] h (QL h N U x [eIO, eUO, eNS]) := by
  refine TrH.ofV (by decide) (fun v hv => by simp only [List.mem_cons, List.not_mem_nil, or_false] at hv; rcases hv with rfl | rfl | rfl | rfl | rfl <;> first | rfl | exact cat_R) (Nat.le_of_ble_eq_true rfl) ?_
  change V g m_L_answer 14 _ h 0 [xR 8, xI p0, xI p1, xI p2, xR 39, xU] []
  refine V_aload dL_answer_0 rfl ?_
  refine V_iconst dL_answer_2 ?_
  refine V_aload_n dL_answer_3 rfl ?_
  refine V_iload_n dL_answer_4 rfl ?_
  refine V_iload_n dL_answer_5 rfl ?_
  refine V_iload_n dL_answer_6 rfl ?_
  refine V_cC (as := [_, _, _]) dL_answer_7 c_RL_102 (by decide) rfl (Nat.le_of_ble_eq_true rfl) h8 hT (fun E h1 q => ?_) (fun v h1 q => ?_)
  · obtain ⟨q1, q2, q3⟩ := q
    rcases hx with ⟨v, hv⟩ | ⟨n, e, he, hv⟩
    · rw [hv] at q1; cases q1
    · rw [hv] at q1; cases q1
      rcases n with _ | _ | _ | n
      · cases he
        refine ⟨[], (0, 12, 15, 26), [(0, 12, 19, 20), (0, 12, 23, 35)], _, rfl, (fun z hz => nomatch hz), ⟨by decide, by decide⟩, by decide, e_RL_26, by simp [z_cast], fun q => ?_⟩
        refine V_astoreX (lc' := [_, _, _, _, _, _]) dL_answer_15 (by decide) rfl ?_
        refine V_iconst dL_answer_17 ?_
        refine V_iret dL_answer_18 rfl ?_
        exact ⟨q2, FO.of q3, 1, rfl, Or.inr ⟨0, _, rfl, hv, rfl⟩⟩
      · cases he
        refine ⟨[(0, 12, 15, 26)], (0, 12, 19, 20), [(0, 12, 23, 35)], _, rfl, (fun z hz => by simp only [List.mem_cons, List.not_mem_nil, or_false] at hz; rcases hz with rfl <;> first | exact ⟨by decide, _, e_RL_26, by simp [z_ncast]⟩), ⟨by decide, by decide⟩, by decide, e_RL_20, by simp [z_cast], fun q => ?_⟩
        refine V_astoreX (lc' := [_, _, _, _, _, _]) dL_answer_19 (by decide) rfl ?_
        refine V_iconst dL_answer_21 ?_
        refine V_iret dL_answer_22 rfl ?_
        exact ⟨q2, FO.of q3, 2, rfl, Or.inr ⟨1, _, rfl, hv, rfl⟩⟩
      · cases he
        refine ⟨[(0, 12, 15, 26), (0, 12, 19, 20)], (0, 12, 23, 35), [], _, rfl, (fun z hz => by simp only [List.mem_cons, List.not_mem_nil, or_false] at hz; rcases hz with rfl | rfl <;> first | exact ⟨by decide, _, e_RL_26, by simp [z_ncast]⟩ | exact ⟨by decide, _, e_RL_20, by simp [z_ncast]⟩), ⟨by decide, by decide⟩, by decide, e_RL_35, by simp [z_cast], fun q => ?_⟩
        refine V_astoreX (lc' := [_, _, _, _, _, _]) dL_answer_23 (by decide) rfl ?_
        refine V_iconst dL_answer_25 ?_
        refine V_iret dL_answer_26 rfl ?_
        exact ⟨q2, FO.of q3, 3, rfl, Or.inr ⟨2, _, rfl, hv, rfl⟩⟩
      · cases he
  · obtain ⟨q1, q2, q3⟩ := q
    rcases hx with ⟨v9, hv⟩ | ⟨n, e, he, hv⟩
    · rw [hv] at q1; cases q1
      have k9 : h_k h1 39 = 25 := (q3 39 (by decide) (by decide)).1.trans ho.1
      have l9 : h_l h1 39 = 1 := (q3 39 (by decide) (by decide)).2.1.trans ho.2.1
      refine V_i2lw dL_answer_10 ?_
      refine V_last (j := 0) dL_answer_11 k9 rfl (by rw [l9]; decide) (by rw [l9]; decide) ?_
      refine V_goto (tgt := 27) dL_answer_12 (by decide) ?_
      refine V_iconst dL_answer_27 ?_
      refine V_iret dL_answer_28 rfl ?_
      exact ⟨DR.o q2, (FO.of q3).si, 0, rfl, Or.inl ⟨rfl, _, hv, by rw [hsi_at, if_pos ⟨rfl, rfl⟩]⟩⟩
    · rw [hv] at q1; cases q1
theorem T_L_textOf (g : GP) {h : AH} {N U : Nat} {x : Res × MS} (p0 : Int) (p1 : Int) (ho : OW h) (h8 : h_k h 8 = 9) (hx : HX x [eIO, eNS]) (hT : Tr g m_X3_textOf 9 [xR 8, xI p0, xI p1] h (Qp h N U x)) : TrH g m_L_textOf 14 [xR 8, xI p0, xI p1, xR 39] h (QL h N U x [eIO, eNS]) := by
  refine TrH.ofV (by decide) (fun v hv => by simp only [List.mem_cons, List.not_mem_nil, or_false] at hv; rcases hv with rfl | rfl | rfl | rfl <;> first | rfl | exact cat_R) (Nat.le_of_ble_eq_true rfl) ?_
  change V g m_L_textOf 14 _ h 0 [xR 8, xI p0, xI p1, xR 39, xU] []
  refine V_aload_n dL_textOf_0 rfl ?_
  refine V_iconst dL_textOf_1 ?_
  refine V_aload_n dL_textOf_2 rfl ?_
  refine V_iload_n dL_textOf_3 rfl ?_
  refine V_iload_n dL_textOf_4 rfl ?_
  refine V_cC (as := [_, _]) dL_textOf_5 c_RL_106 (by decide) rfl (Nat.le_of_ble_eq_true rfl) h8 hT (fun E h1 q => ?_) (fun v h1 q => ?_)
  · obtain ⟨q1, q2, q3⟩ := q
    rcases hx with ⟨v, hv⟩ | ⟨n, e, he, hv⟩
    · rw [hv] at q1; cases q1
    · rw [hv] at q1; cases q1
      rcases n with _ | _ | n
      · cases he
        refine ⟨[], (0, 10, 13, 26), [(0, 10, 17, 35)], _, rfl, (fun z hz => nomatch hz), ⟨by decide, by decide⟩, by decide, e_RL_26, by simp [z_cast], fun q => ?_⟩
        refine V_astoreX (lc' := [_, _, _, _, _]) dL_textOf_13 (by decide) rfl ?_
        refine V_iconst dL_textOf_15 ?_
        refine V_iret dL_textOf_16 rfl ?_
        exact ⟨q2, FO.of q3, 1, rfl, Or.inr ⟨0, _, rfl, hv, rfl⟩⟩
      · cases he
        refine ⟨[(0, 10, 13, 26)], (0, 10, 17, 35), [], _, rfl, (fun z hz => by simp only [List.mem_cons, List.not_mem_nil, or_false] at hz; rcases hz with rfl <;> first | exact ⟨by decide, _, e_RL_26, by simp [z_ncast]⟩), ⟨by decide, by decide⟩, by decide, e_RL_35, by simp [z_cast], fun q => ?_⟩
        refine V_astoreX (lc' := [_, _, _, _, _]) dL_textOf_17 (by decide) rfl ?_
        refine V_iconst dL_textOf_19 ?_
        refine V_iret dL_textOf_20 rfl ?_
        exact ⟨q2, FO.of q3, 2, rfl, Or.inr ⟨1, _, rfl, hv, rfl⟩⟩
      · cases he
  · obtain ⟨q1, q2, q3⟩ := q
    rcases hx with ⟨v9, hv⟩ | ⟨n, e, he, hv⟩
    · rw [hv] at q1; cases q1
      have k9 : h_k h1 39 = 25 := (q3 39 (by decide) (by decide)).1.trans ho.1
      have l9 : h_l h1 39 = 1 := (q3 39 (by decide) (by decide)).2.1.trans ho.2.1
      refine V_i2lw dL_textOf_8 ?_
      refine V_last (j := 0) dL_textOf_9 k9 rfl (by rw [l9]; decide) (by rw [l9]; decide) ?_
      refine V_goto (tgt := 21) dL_textOf_10 (by decide) ?_
      refine V_iconst dL_textOf_21 ?_
      refine V_iret dL_textOf_22 rfl ?_
      exact ⟨DR.o q2, (FO.of q3).si, 0, rfl, Or.inl ⟨rfl, _, hv, by rw [hsi_at, if_pos ⟨rfl, rfl⟩]⟩⟩
    · rw [hv] at q1; cases q1

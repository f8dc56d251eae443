-- deps: 09 10 11 12 13 14 15 20 21 30
theorem xor_nn {a b : Int} (ha : 0 ≤ a) (hb : (0 ≤ b ∧ b ≤ 2147483647) ∧ a ≤ 2147483647) : ∃ x : Int, Int32.ofInt a ^^^ Int32.ofInt b = Int32.ofInt x ∧ (0 ≤ x ∧ x ≤ 2147483647) := by
  refine ⟨(Int32.ofInt a ^^^ Int32.ofInt b).toInt, (Int32.ofInt_toInt _).symm, ?_⟩
  have h1 : (Int32.ofInt a).toBitVec.msb = false := by
    have : (Int32.ofInt a).toInt = a := Int32.toInt_ofInt_of_le (by omega) (by omega)
    rw [BitVec.msb_eq_toInt]
    simp only [decide_eq_false_iff_not]
    show ¬ (Int32.ofInt a).toInt < 0
    omega
  have h2 : (Int32.ofInt b).toBitVec.msb = false := by
    have : (Int32.ofInt b).toInt = b := Int32.toInt_ofInt_of_le (by omega) (by omega)
    rw [BitVec.msb_eq_toInt]
    simp only [decide_eq_false_iff_not]
    show ¬ (Int32.ofInt b).toInt < 0
    omega
  have h3 : (Int32.ofInt a ^^^ Int32.ofInt b).toBitVec.msb = false := by
    show ((Int32.ofInt a).toBitVec ^^^ (Int32.ofInt b).toBitVec).msb = false
    rw [BitVec.msb_xor, h1, h2]
    rfl
  have h4 : ¬ (Int32.ofInt a ^^^ Int32.ofInt b).toInt < 0 := by
    rw [BitVec.msb_eq_toInt] at h3
    exact of_decide_eq_false h3
  clear h1 h2 h3
  generalize Int32.ofInt a ^^^ Int32.ofInt b = w at h4 ⊢
  have h5 : w.toInt < 2147483648 := w.toInt_lt
  exact ⟨by omega, by omega⟩
/-- entry of a method whose class has natives, but no row for this one -/
theorem ofWF {l : Launch} {y : MethodName} {ws ws' : List Cond} {rm : Room} {Pc : Array Value → State → Prop} {Qc : Array Value → State → Outcome → State → Prop} {XC : String → State → State → Prop} {mc ms : Nat} {free : Addr → Prop} {cc : ByteArray} {maxL : Nat} {ret : Option FieldType}
    (hy : plainFor y = true) (hw : ws = Cond.code y cc maxL ret :: ws')
    (body : ∀ p e s m args below meth c s₁, BodyLoose p l y (headSpec ws rm) cc maxL ret e s m args below meth c s₁ → c.maxLocals = maxL → (∀ x ∈ c.exceptionTable.toList, False) → Pc args s →
      W p l e (headSpec ws rm).room s m args below meth c s.heap [] 0 0 (vx_MQ below Qc XC args s mc ms free) (entryFrame m args maxL)) : vx_Met l y ws rm Pc Qc XC mc ms free := by
  refine MetFree.of_bodySF (code := cc) (maxLocals := maxL) (ret := ret) hy ?_ ?_
  · intro args s m h hn
    obtain ⟨meth, c, h1, h2, h3, h4, h5, h6, -, -⟩ := Cond.code_spec hn (atoms_spec (ws := ws) h _ (by rw [hw]; exact List.mem_cons_self))
    exact ⟨meth, c, h1, h2, h3, h4, h5, h6⟩
  · intro p e s m args below meth c s₁ B hml hP _
    have hh0 : s₁.heap = s.heap := by rw [B.state]; rfl
    have ht : ∀ x ∈ c.exceptionTable.toList, False := by
      obtain ⟨meth9, c9, h1, h2, -, -, -, -, h7, -⟩ := Cond.code_spec B.named (atoms_spec (ws := ws) B.pre _ (by rw [hw]; exact List.mem_cons_self))
      cases Option.some.inj (h1.symm.trans B.method)
      cases Option.some.inj (h2.symm.trans (Stand.of_body B).code)
      intro x hx
      rw [Array.isEmpty_iff.mp h7] at hx
      cases hx
    obtain ⟨t, a1, o, b1, b2, b3⟩ := body p e s m args below meth c s₁ B hml ht hP s₁ hh0 (Stand.of_body B)
    exact ⟨t, o, a1, b1, b2, b3⟩
theorem TPF.of {g : GP} {m : MT} {d : Nat} {h : AH} {as : List AV} (hpl : plainFor m.1 = true) (hh : m.2.2.2.2 = []) (hc : ∀ v ∈ as, (cv g v).category = 1) (hn : as.length ≤ m.2.2.1) {v : AV} (k : V g m d (fun r h' => r = .inl (some v) ∧ h' = h) h 0 (l_0 m.2.2.1 as) []) : TP g m d as h v := by
  intro lch hfl n0 u0
  refine ofWF (cc := m.2.1) (maxL := m.2.2.1) (ret := m.2.2.2.1) hpl rfl fun p e s mi args below meth c s₁ B hml ht hP => ?_
  refine V.body hc hn k hfl (fun w hw => List.mem_cons_of_mem _ hw) B hml ?_ hP
  rw [hh]
  exact List.eq_nil_iff_forall_not_mem.mpr fun x hx => ht x hx
/-- a list: object a, size n, row b of cap places, what stands in it -/
def LR (h : AH) (a : Nat) (n : Int) (b cap : Nat) (E : Int → Nat) : Prop :=
  h_k h a = 5 ∧ h_r h a 1 = b ∧ h_i h a 2 = n ∧ (0 ≤ n ∧ n ≤ cap ∧ cap ≤ 100) ∧ (cap = 0 → b = 1) ∧ (cap ≠ 0 → h_k h b = 24 ∧ h_l h b = cap) ∧ ∀ k : Nat, (k : Int) < n → h_r h b k = E k
theorem LR.row {h : AH} {a : Nat} {n : Int} {b cap : Nat} {E : Int → Nat} (H : LR h a n b cap E) {i : Int} (hi : 0 ≤ i ∧ i < n) : h_k h b = 24 ∧ i.toNat < h_l h b ∧ h_l h b ≤ 2147483647 ∧ h_r h b i.toNat = E i := by
  obtain ⟨h1, h2, h3, h4, h5, h6, h7⟩ := H
  obtain ⟨k1, k2⟩ := h6 (by omega)
  have e : ((i.toNat : Nat) : Int) = i := Int.toNat_of_nonneg hi.1
  refine ⟨k1, by omega, by omega, ?_⟩
  rw [h7 _ (by omega), e]
theorem V_ldcI {g : GP} {m : MT} {d : Nat} {Q : Res → AH → Prop} {h : AH} {pc : Nat} {lc st : List AV} {idx : Nat} {own : String} {z : Int} (hd : decode m.2.1 pc = .ok (.ldc idx, 2)) (ho : m.1.cls = own) (hl : Cond.constant own idx (Int32.ofInt z) ∈ GW) (k : V g m d Q h (pc + 2) lc (xI z :: st)) : V g m d Q h pc lc st := by
  intro p lch e R s mi args below meth c H locs cells slots ls C P S L
  subst ho
  have kk := k p lch e R s mi args below meth c H locs cells slots ls C P S L
  exact W.ldc C.1 C.2.1 C.2.2.2.1 (C.2.2.2.2.1 _ hl) (g := F0 mi pc ls (st.map (cv g))) rfl hd kk
theorem w_k200 : Cond.constant RJ8 200 (Int32.ofInt 2147483639) ∈ GW := gwi 452 (by decide +kernel) (by decide +kernel)
theorem ishr1 {x : Int} (h : 0 ≤ x ∧ x ≤ 100) : Int32.ofInt x >>> (Int32.ofInt 1 &&& 31) = Int32.ofInt (x / 2) := by
  have key : ∀ n : Fin 101, Int32.ofInt ((n : Nat) : Int) >>> (Int32.ofInt 1 &&& 31) = Int32.ofInt (((n : Nat) : Int) / 2) := by decide +kernel
  have := key ⟨x.toNat, by omega⟩
  simpa [Int.toNat_of_nonneg h.1] using this
theorem T_J9_max_7cf53 (g : GP) {h : AH} (a : Int) (b : Int)  (r_a : -2147483648 ≤ a ∧ a ≤ 2147483647) (r_b : -2147483648 ≤ b ∧ b ≤ 2147483647)  : TP g m_J9_max_7cf53 1 [xI a, xI b] h (xI (if a < b then b else a)) := by
  refine TPF.of (by decide +kernel) rfl (fun v hv => ?_) (Nat.le_of_ble_eq_true rfl) ?_
  · simp only [List.mem_cons, List.not_mem_nil, or_false] at hv
    rcases hv with rfl | rfl <;> first | rfl | exact cat_R
  change V g m_J9_max_7cf53 1 _ h 0 [xI a, xI b] []
  refine V_iload_n dJ9_max_7cf53_0 rfl ?_
  refine V_iload_n dJ9_max_7cf53_1 rfl ?_
  refine V_icmp_lt (tgt := 9) dJ9_max_7cf53_2 (by decide) (by omega) (by omega) (fun q2 => ?_) (fun q2 => ?_)
  · refine V_iload_n dJ9_max_7cf53_9 rfl ?_
    refine V_iret dJ9_max_7cf53_10 rfl ?_
    refine ⟨?_, rfl⟩
    first | rw [if_pos (by omega)] | rw [if_neg (by omega)]
  · refine V_iload_n dJ9_max_7cf53_5 rfl ?_
    refine V_goto (tgt := 10) dJ9_max_7cf53_6 (by decide) ?_
    refine V_iret dJ9_max_7cf53_10 rfl ?_
    refine ⟨?_, rfl⟩
    first | rw [if_pos (by omega)] | rw [if_neg (by omega)]
theorem T_J9_min_7cf53 (g : GP) {h : AH} (a : Int) (b : Int)  (r_a : -2147483648 ≤ a ∧ a ≤ 2147483647) (r_b : -2147483648 ≤ b ∧ b ≤ 2147483647)  : TP g m_J9_min_7cf53 1 [xI a, xI b] h (xI (if b < a then b else a)) := by
  refine TPF.of (by decide +kernel) rfl (fun v hv => ?_) (Nat.le_of_ble_eq_true rfl) ?_
  · simp only [List.mem_cons, List.not_mem_nil, or_false] at hv
    rcases hv with rfl | rfl <;> first | rfl | exact cat_R
  change V g m_J9_min_7cf53 1 _ h 0 [xI a, xI b] []
  refine V_iload_n dJ9_min_7cf53_0 rfl ?_
  refine V_iload_n dJ9_min_7cf53_1 rfl ?_
  refine V_icmp_gt (tgt := 9) dJ9_min_7cf53_2 (by decide) (by omega) (by omega) (fun q2 => ?_) (fun q2 => ?_)
  · refine V_iload_n dJ9_min_7cf53_9 rfl ?_
    refine V_iret dJ9_min_7cf53_10 rfl ?_
    refine ⟨?_, rfl⟩
    first | rw [if_pos (by omega)] | rw [if_neg (by omega)]
  · refine V_iload_n dJ9_min_7cf53_5 rfl ?_
    refine V_goto (tgt := 10) dJ9_min_7cf53_6 (by decide) ?_
    refine V_iret dJ9_min_7cf53_10 rfl ?_
    refine ⟨?_, rfl⟩
    first | rw [if_pos (by omega)] | rw [if_neg (by omega)]
theorem T_J3_checkIndex_8e157 (g : GP) {h : AH} (i : Int) (n : Int) (f : Nat)  (r_i : -2147483648 ≤ i ∧ i ≤ 2147483647) (r_n : -2147483648 ≤ n ∧ n ≤ 2147483647) (h1 : 0 ≤ i ∧ i < n) : TP g m_J3_checkIndex_8e157 1 [xI i, xI n, xR f] h (xI i) := by
  refine TP.of (by decide) rfl (fun v hv => ?_) (Nat.le_of_ble_eq_true rfl) ?_
  · simp only [List.mem_cons, List.not_mem_nil, or_false] at hv
    rcases hv with rfl | rfl | rfl <;> first | rfl | exact cat_R
  change V g m_J3_checkIndex_8e157 1 _ h 0 [xI i, xI n, xR f] []
  refine V_iload_n dJ3_checkIndex_8e157_0 rfl ?_
  refine V_if_lt (tgt := 9) dJ3_checkIndex_8e157_1 (by decide) (by omega) (fun q1 => absurd q1 (by omega)) (fun q1 => ?_)
  refine V_iload_n dJ3_checkIndex_8e157_4 rfl ?_
  refine V_iload_n dJ3_checkIndex_8e157_5 rfl ?_
  refine V_icmp_lt (tgt := 16) dJ3_checkIndex_8e157_6 (by decide) (by omega) (by omega) (fun q6 => ?_) (fun q6 => absurd q6 (by omega))
  refine V_iload_n dJ3_checkIndex_8e157_16 rfl ?_
  refine V_iret dJ3_checkIndex_8e157_17 rfl ?_
  exact ⟨rfl, rfl⟩
theorem T_J15_checkIndex_7cf53 (g : GP) {h : AH} (i : Int) (n : Int)  (r_i : -2147483648 ≤ i ∧ i ≤ 2147483647) (r_n : -2147483648 ≤ n ∧ n ≤ 2147483647) (h1 : 0 ≤ i ∧ i < n) : TP g m_J15_checkIndex_7cf53 2 [xI i, xI n] h (xI i) := by
  refine TP.of (by decide) rfl (fun v hv => ?_) (Nat.le_of_ble_eq_true rfl) ?_
  · simp only [List.mem_cons, List.not_mem_nil, or_false] at hv
    rcases hv with rfl | rfl <;> first | rfl | exact cat_R
  change V g m_J15_checkIndex_7cf53 2 _ h 0 [xI i, xI n] []
  refine V_iload_n dJ15_checkIndex_7cf53_0 rfl ?_
  refine V_iload_n dJ15_checkIndex_7cf53_1 rfl ?_
  refine V_null dJ15_checkIndex_7cf53_2 ?_
  refine V_pS (as := [_, _, _]) dJ15_checkIndex_7cf53_3 c_RJ15_105 rfl (by decide) rfl (Nat.le_of_ble_eq_true rfl) (T_J3_checkIndex_8e157 g i n 0 (by omega) (by omega) (by omega)) ?_
  refine V_iret dJ15_checkIndex_7cf53_6 rfl ?_
  exact ⟨rfl, rfl⟩
theorem T_Jx4a65c_size_8abf5 (g : GP) {h : AH} (a : Nat) (n : Int) (b cap : Nat) (E : Int → Nat)  (H : LR h a n b cap E) : TP g m_Jx4a65c_size_8abf5 1 [xR a] h (xI n) := by
  refine TP.of (by decide) rfl (fun v hv => ?_) (Nat.le_of_ble_eq_true rfl) ?_
  · simp only [List.mem_cons, List.not_mem_nil, or_false] at hv
    subst hv; first | rfl | exact cat_R
  change V g m_Jx4a65c_size_8abf5 1 _ h 0 [xR a] []
  refine V_aload_n dJx4a65c_size_8abf5_0 rfl ?_
  refine V_getIv (z := n) dJx4a65c_size_8abf5_1 fg_RJx4a65c_48 rfl H.1 H.2.2.1 ?_
  refine V_iret dJx4a65c_size_8abf5_4 rfl ?_
  exact ⟨rfl, rfl⟩
theorem T_Jx4a65c_isEmpty_aae02 (g : GP) {h : AH} (a : Nat) (n : Int) (b cap : Nat) (E : Int → Nat)  (H : LR h a n b cap E) : TP g m_Jx4a65c_isEmpty_aae02 1 [xR a] h (xI (pI (n = 0))) := by
  refine TP.of (by decide) rfl (fun v hv => ?_) (Nat.le_of_ble_eq_true rfl) ?_
  · simp only [List.mem_cons, List.not_mem_nil, or_false] at hv
    subst hv; first | rfl | exact cat_R
  change V g m_Jx4a65c_isEmpty_aae02 1 _ h 0 [xR a] []
  have hb := H.2.2.2.1
  refine V_aload_n dJx4a65c_isEmpty_aae02_0 rfl ?_
  refine V_getIv (z := n) dJx4a65c_isEmpty_aae02_1 fg_RJx4a65c_48 rfl H.1 H.2.2.1 ?_
  refine V_if_ne (tgt := 11) dJx4a65c_isEmpty_aae02_4 (by decide) (by omega) (fun q4 => ?_) (fun q4 => ?_)
  · refine V_iconst dJx4a65c_isEmpty_aae02_11 ?_
    refine V_zret (by first | exact pI_01 _ | omega) dJx4a65c_isEmpty_aae02_12 rfl ?_
    exact ⟨by rw [pI_f q4], rfl⟩
  · refine V_iconst dJx4a65c_isEmpty_aae02_7 ?_
    refine V_goto (tgt := 12) dJx4a65c_isEmpty_aae02_8 (by decide) ?_
    refine V_zret (by first | exact pI_01 _ | omega) dJx4a65c_isEmpty_aae02_12 rfl ?_
    exact ⟨by rw [pI_t q4], rfl⟩
theorem T_Jx4a65c_elementData_915e3 (g : GP) {h : AH} (a : Nat) (i : Int) (n : Int) (b cap : Nat) (E : Int → Nat) (r_i : -2147483648 ≤ i ∧ i ≤ 2147483647) (H : LR h a n b cap E) (h1 : 0 ≤ i ∧ i < n) : TP g m_Jx4a65c_elementData_915e3 1 [xR a, xI i] h (xR (E i)) := by
  refine TP.of (by decide) rfl (fun v hv => ?_) (Nat.le_of_ble_eq_true rfl) ?_
  · simp only [List.mem_cons, List.not_mem_nil, or_false] at hv
    rcases hv with rfl | rfl <;> first | rfl | exact cat_R
  change V g m_Jx4a65c_elementData_915e3 1 _ h 0 [xR a, xI i] []
  obtain ⟨w1, w2, w3, w4⟩ := H.row h1
  refine V_aload_n dJx4a65c_elementData_915e3_0 rfl ?_
  refine V_getRv (v := b) dJx4a65c_elementData_915e3_1 fg_RJx4a65c_9 rfl H.1 H.2.1 ?_
  refine V_iload_n dJx4a65c_elementData_915e3_4 rfl ?_
  refine V_aaldv (j := (i).toNat) (v := (E i)) dJx4a65c_elementData_915e3_5 w1 (by omega) w2 w3 w4 ?_
  refine V_aret dJx4a65c_elementData_915e3_6 rfl (by first | exact Or.inl ⟨_, rfl⟩ | exact Or.inr ⟨_, rfl⟩) ?_
  exact ⟨rfl, rfl⟩
theorem T_Jx4a65c_get_915e3 (g : GP) {h : AH} (a : Nat) (i : Int) (n : Int) (b cap : Nat) (E : Int → Nat) (r_i : -2147483648 ≤ i ∧ i ≤ 2147483647) (H : LR h a n b cap E) (h1 : 0 ≤ i ∧ i < n) : TP g m_Jx4a65c_get_915e3 3 [xR a, xI i] h (xR (E i)) := by
  refine TP.of (by decide) rfl (fun v hv => ?_) (Nat.le_of_ble_eq_true rfl) ?_
  · simp only [List.mem_cons, List.not_mem_nil, or_false] at hv
    rcases hv with rfl | rfl <;> first | rfl | exact cat_R
  change V g m_Jx4a65c_get_915e3 3 _ h 0 [xR a, xI i] []
  have hb := H.2.2.2.1
  refine V_iload_n dJx4a65c_get_915e3_0 rfl ?_
  refine V_aload_n dJx4a65c_get_915e3_1 rfl ?_
  refine V_getIv (z := n) dJx4a65c_get_915e3_2 fg_RJx4a65c_48 rfl H.1 H.2.2.1 ?_
  refine V_pS (as := [_, _]) dJx4a65c_get_915e3_5 c_RJx4a65c_118 rfl (by decide) rfl (Nat.le_of_ble_eq_true rfl) (T_J15_checkIndex_7cf53 g i n (by omega) (by omega) (by omega)) ?_
  refine V_pop dJx4a65c_get_915e3_8 rfl ?_
  refine V_aload_n dJx4a65c_get_915e3_9 rfl ?_
  refine V_iload_n dJx4a65c_get_915e3_10 rfl ?_
  refine V_pV (as := [_]) dJx4a65c_get_915e3_11 c_RJx4a65c_123 rfl (by decide) rfl (Nat.le_of_ble_eq_true rfl) H.1 (T_Jx4a65c_elementData_915e3 g a i n b cap E (by omega) H h1) ?_
  refine V_aret dJx4a65c_get_915e3_14 rfl (by first | exact Or.inl ⟨_, rfl⟩ | exact Or.inr ⟨_, rfl⟩) ?_
  exact ⟨rfl, rfl⟩
theorem T_J9_floorMod_7cf53 (g : GP) {h : AH} (a : Int) (b : Int)  (r_a : -2147483648 ≤ a ∧ a ≤ 2147483647) (r_b : -2147483648 ≤ b ∧ b ≤ 2147483647) (h1 : 0 ≤ a) (h2 : 0 < b) : TP g m_J9_floorMod_7cf53 1 [xI a, xI b] h (xI (a % b)) := by
  refine TPF.of (by decide +kernel) rfl (fun v hv => ?_) (Nat.le_of_ble_eq_true rfl) ?_
  · simp only [List.mem_cons, List.not_mem_nil, or_false] at hv
    rcases hv with rfl | rfl <;> first | rfl | exact cat_R
  change V g m_J9_floorMod_7cf53 1 _ h 0 [xI a, xI b, xU] []
  refine V_iload_n dJ9_floorMod_7cf53_0 rfl ?_
  refine V_iload_n dJ9_floorMod_7cf53_1 rfl ?_
  refine V_irem dJ9_floorMod_7cf53_2 (by omega) (by omega) ?_
  refine V_istore_n (lc' := [_, _, _]) dJ9_floorMod_7cf53_3 (by decide) rfl ?_
  refine V_iload_n dJ9_floorMod_7cf53_4 rfl ?_
  refine V_iload_n dJ9_floorMod_7cf53_5 rfl ?_
  obtain ⟨x6, h6, h60⟩ : ∃ x : Int, Int32.ofInt a ^^^ Int32.ofInt b = Int32.ofInt x ∧ (0 ≤ x ∧ x ≤ 2147483647) := xor_nn h1 (by omega)
  refine V_ixor (z := x6) dJ9_floorMod_7cf53_6 h6 ?_
  refine V_if_ge (tgt := 18) dJ9_floorMod_7cf53_7 (by decide) (by omega) (fun q7 => ?_) (fun q7 => absurd q7 (by omega))
  refine V_iload_n dJ9_floorMod_7cf53_18 rfl ?_
  refine V_iret dJ9_floorMod_7cf53_19 rfl ?_
  exact ⟨rfl, rfl⟩
theorem T_J8_newLength_cabcc (g : GP) {h : AH} (o : Int) (mg : Int) (pg : Int)  (r_o : -2147483648 ≤ o ∧ o ≤ 2147483647) (r_mg : -2147483648 ≤ mg ∧ mg ≤ 2147483647) (r_pg : -2147483648 ≤ pg ∧ pg ≤ 2147483647) (h1 : 0 ≤ o ∧ o ≤ 1000) (h2 : 1 ≤ mg ∧ mg ≤ 1000) (h3 : 0 ≤ pg ∧ pg ≤ 1000) : TP g m_J8_newLength_cabcc 2 [xI o, xI mg, xI pg] h (xI (o + (if mg < pg then pg else mg))) := by
  refine TP.of (by decide) rfl (fun v hv => ?_) (Nat.le_of_ble_eq_true rfl) ?_
  · simp only [List.mem_cons, List.not_mem_nil, or_false] at hv
    rcases hv with rfl | rfl | rfl <;> first | rfl | exact cat_R
  change V g m_J8_newLength_cabcc 2 _ h 0 [xI o, xI mg, xI pg, xU] []
  refine V_iload_n dJ8_newLength_cabcc_0 rfl ?_
  refine V_iload_n dJ8_newLength_cabcc_1 rfl ?_
  refine V_iload_n dJ8_newLength_cabcc_2 rfl ?_
  refine V_pS (as := [_, _]) dJ8_newLength_cabcc_3 c_RJ8_194 rfl (by decide) rfl (Nat.le_of_ble_eq_true rfl) (T_J9_max_7cf53 g mg pg (by omega) (by omega)) ?_
  refine V_iadd dJ8_newLength_cabcc_6 ?_
  refine V_istore_n (lc' := [_, _, _, _]) dJ8_newLength_cabcc_7 (by decide) rfl ?_
  refine V_iconst dJ8_newLength_cabcc_8 ?_
  refine V_iload_n dJ8_newLength_cabcc_9 rfl ?_
  refine V_icmp_ge (tgt := 21) dJ8_newLength_cabcc_10 (by decide) (by omega) (by omega) (fun q10 => absurd q10 (by omega)) (fun q10 => ?_)
  refine V_iload_n dJ8_newLength_cabcc_13 rfl ?_
  refine V_ldcI (z := 2147483639) dJ8_newLength_cabcc_14 rfl w_k200 ?_
  refine V_icmp_gt (tgt := 21) dJ8_newLength_cabcc_16 (by decide) (by omega) (by omega) (fun q16 => absurd q16 (by omega)) (fun q16 => ?_)
  refine V_iload_n dJ8_newLength_cabcc_19 rfl ?_
  refine V_iret dJ8_newLength_cabcc_20 rfl ?_
  exact ⟨rfl, rfl⟩

-- deps: 09 10 11 12 13 14 15 20 21 22 30 40 41
theorem V_gs2 {g : GP} {m : MT} {d : Nat} {Q : Res → AH → Prop} {h : AH} {pc : Nat} {lc st : List AV} {idx : Nat} {own : String} (hd : decode m.2.1 pc = .ok (.getstatic idx, 3)) (ho : m.1.cls = own) (hl : Cond.fieldLink own idx "java/lang/Integer" "DigitOnes" "[B" ∈ GW) (k : V g m d Q h (pc + 3) lc (xR 2 :: st)) : V g m d Q h pc lc st := by
  intro p lch e R s mi args below meth c H locs cells slots ls C P S L
  subst ho
  have F := C.2.2.2.2.2.2.2.2.2.2.2.2.1
  have kk := k p lch e R s mi args below meth c H locs cells slots ls C P S L
  change W _ _ _ _ _ _ _ _ _ _ _ _ _ _ _ (F0 _ _ _ (rv g 2 :: _)) at kk
  rw [rv_pos (by omega), show g_a g 2 = g_s g 2 from rfl] at kk
  exact va_gets C.1 C.2.1 F.2.2.2.2.2.1.2.2.2.1.1 S C.2.2.2.1 (C.2.2.2.2.1 _ hl) (fun _ h => h) hd kk
theorem V_gs3 {g : GP} {m : MT} {d : Nat} {Q : Res → AH → Prop} {h : AH} {pc : Nat} {lc st : List AV} {idx : Nat} {own : String} (hd : decode m.2.1 pc = .ok (.getstatic idx, 3)) (ho : m.1.cls = own) (hl : Cond.fieldLink own idx "java/lang/Integer" "DigitTens" "[B" ∈ GW) (k : V g m d Q h (pc + 3) lc (xR 3 :: st)) : V g m d Q h pc lc st := by
  intro p lch e R s mi args below meth c H locs cells slots ls C P S L
  subst ho
  have F := C.2.2.2.2.2.2.2.2.2.2.2.2.1
  have kk := k p lch e R s mi args below meth c H locs cells slots ls C P S L
  change W _ _ _ _ _ _ _ _ _ _ _ _ _ _ _ (F0 _ _ _ (rv g 3 :: _)) at kk
  rw [rv_pos (by omega), show g_a g 3 = g_s g 3 from rfl] at kk
  exact va_gets C.1 C.2.1 F.2.2.2.2.2.1.2.2.2.2.1.1 S C.2.2.2.1 (C.2.2.2.2.1 _ hl) (fun _ h => h) hd kk
theorem V_gs6 {g : GP} {m : MT} {d : Nat} {Q : Res → AH → Prop} {h : AH} {pc : Nat} {lc st : List AV} {idx : Nat} {own : String} (hd : decode m.2.1 pc = .ok (.getstatic idx, 3)) (ho : m.1.cls = own) (hl : Cond.fieldLink own idx "jdk/internal/util/Preconditions" "SIOOBE_FORMATTER" "Ljava/util/function/BiFunction;" ∈ GW) (k : ∀ r : Nat, V g m d Q h (pc + 3) lc (xR r :: st)) : V g m d Q h pc lc st := by
  intro p lch e R s mi args below meth c H locs cells slots ls C P S L
  subst ho
  have F := C.2.2.2.2.2.2.2.2.2.2.2.2.1
  rcases F.2.2.2.2.2.1.2.2.2.2.2 with f | f
  · have kk := k 0 p lch e R s mi args below meth c H locs cells slots ls C P S L
    change W _ _ _ _ _ _ _ _ _ _ _ _ _ _ _ (F0 _ _ _ (rv g 0 :: _)) at kk
    rw [rv_0] at kk
    exact va_gets C.1 C.2.1 f S C.2.2.2.1 (C.2.2.2.2.1 _ hl) (fun _ h => h) hd kk
  · have kk := k 6 p lch e R s mi args below meth c H locs cells slots ls C P S L
    change W _ _ _ _ _ _ _ _ _ _ _ _ _ _ _ (F0 _ _ _ (rv g 6 :: _)) at kk
    rw [rv_pos (by omega), show g_a g 6 = g_s g 6 from rfl] at kk
    exact va_gets C.1 C.2.1 f S C.2.2.2.1 (C.2.2.2.2.1 _ hl) (fun _ h => h) hd kk
theorem V_bld2 {g : GP} {m : MT} {d : Nat} {Q : Res → AH → Prop} {h : AH} {pc : Nat} {lc st : List AV} {j : Nat} {z : Int} (hd : decode m.2.1 pc = .ok (.baload, 1)) (hz : z = (j : Int)) (hj : j < 100) (k : V g m d Q h (pc + 1) lc (xI (48 + (j : Int) % 10) :: st)) : V g m d Q h pc lc (xI z :: xR 2 :: st) := by
  intro p lch e R s mi args below meth c H locs cells slots ls C P S L
  obtain ⟨h1, h2⟩ := i32_in (n := 100) hz hj (by omega)
  have kk := k p lch e R s mi args below meth c H locs cells slots ls C P S L
  change W _ _ _ _ _ _ _ _ _ _ _ _ _ _ _ (F0 _ _ _ (Value.int (Int32.ofInt z) :: rv g 2 :: _))
  rw [rv_pos (by omega), show g_a g 2 = g_s g 2 from rfl]
  have F := C.2.2.2.2.2.2.2.2.2.2.2.2.1
  exact va_tb C.1 C.2.1 F.2.2.2.2.2.1.2.2.2.1.2 S h1 (by rw [h2]; rfl) hd kk
theorem V_bld3 {g : GP} {m : MT} {d : Nat} {Q : Res → AH → Prop} {h : AH} {pc : Nat} {lc st : List AV} {j : Nat} {z : Int} (hd : decode m.2.1 pc = .ok (.baload, 1)) (hz : z = (j : Int)) (hj : j < 100) (k : V g m d Q h (pc + 1) lc (xI (48 + (j : Int) / 10) :: st)) : V g m d Q h pc lc (xI z :: xR 3 :: st) := by
  intro p lch e R s mi args below meth c H locs cells slots ls C P S L
  obtain ⟨h1, h2⟩ := i32_in (n := 100) hz hj (by omega)
  have kk := k p lch e R s mi args below meth c H locs cells slots ls C P S L
  change W _ _ _ _ _ _ _ _ _ _ _ _ _ _ _ (F0 _ _ _ (Value.int (Int32.ofInt z) :: rv g 3 :: _))
  rw [rv_pos (by omega), show g_a g 3 = g_s g 3 from rfl]
  have F := C.2.2.2.2.2.2.2.2.2.2.2.2.1
  exact va_tb C.1 C.2.1 F.2.2.2.2.2.1.2.2.2.2.1.2 S h1 (by rw [h2]; rfl) hd kk
theorem w_d83 : Cond.fieldLink RJ6 83 "java/lang/Integer" "DigitOnes" "[B" ∈ GW := gwi 775 (by decide +kernel) (by decide +kernel)
theorem w_d87 : Cond.fieldLink RJ6 87 "java/lang/Integer" "DigitTens" "[B" ∈ GW := gwi 777 (by decide +kernel) (by decide +kernel)
theorem w_s1053 : Cond.fieldLink RJ0 1053 "jdk/internal/util/Preconditions" "SIOOBE_FORMATTER" "Ljava/util/function/BiFunction;" ∈ GW := gwi 705 (by decide +kernel) (by decide +kernel)
/-- a text: the builder s, its bytes b (C places), n letters T -/
def SB (h : AH) (s : Nat) (n : Int) (b C : Nat) (T : Int → Int) : Prop :=
  h_k h s = 2 ∧ h_r h s 0 = b ∧ h_i h s 3 = n ∧ (0 ≤ n ∧ n ≤ C ∧ C ≤ 400) ∧ h_i h s 1 = 0 ∧ (h_k h b = 20 ∧ h_l h b = C) ∧ (∀ k : Nat, (k : Int) < n → h_i h b k = T k) ∧ ∀ k : Nat, k < C → 0 ≤ h_i h b k ∧ h_i h b k ≤ 127
theorem SB.row {h : AH} {s : Nat} {n : Int} {b C : Nat} {T : Int → Int} (H : SB h s n b C T) {i : Int} (hi : 0 ≤ i ∧ i < n) : i.toNat < h_l h b ∧ h_l h b ≤ 2147483647 ∧ h_i h b i.toNat = T i := by
  obtain ⟨h1, h2, h3, h4, h5, ⟨h6, h7⟩, h8, -⟩ := H
  have e : ((i.toNat : Nat) : Int) = i := Int.toNat_of_nonneg hi.1
  exact ⟨by omega, by omega, by rw [h8 _ (by omega), e]⟩
theorem and255 {x : Int} (h : 0 ≤ x ∧ x ≤ 127) : Int32.ofInt x &&& Int32.ofInt 255 = Int32.ofInt x := by
  have key : ∀ n : Fin 128, Int32.ofInt ((n : Nat) : Int) &&& Int32.ofInt 255 = Int32.ofInt ((n : Nat) : Int) := by decide +kernel
  have := key ⟨x.toNat, by omega⟩
  simpa [Int.toNat_of_nonneg h.1] using this
theorem ishr0 {x : Int} (h : 0 ≤ x ∧ x ≤ 1000) : Int32.ofInt x >>> (Int32.ofInt 0 &&& 31) = Int32.ofInt x := by
  have key : ∀ n : Fin 1001, Int32.ofInt ((n : Nat) : Int) >>> (Int32.ofInt 0 &&& 31) = Int32.ofInt ((n : Nat) : Int) := by decide +kernel
  have := key ⟨x.toNat, by omega⟩
  simpa [Int.toNat_of_nonneg h.1] using this
theorem ishl0 {x : Int} (h : 0 ≤ x ∧ x ≤ 1000) : Int32.ofInt x <<< (Int32.ofInt 0 &&& 31) = Int32.ofInt x := by
  have key : ∀ n : Fin 1001, Int32.ofInt ((n : Nat) : Int) <<< (Int32.ofInt 0 &&& 31) = Int32.ofInt ((n : Nat) : Int) := by decide +kernel
  have := key ⟨x.toNat, by omega⟩
  simpa [Int.toNat_of_nonneg h.1] using this
theorem T_chk0 (g : GP) {h : AH} (i n : Int) (r_i : -2147483648 ≤ i ∧ i ≤ 2147483647) (r_n : -2147483648 ≤ n ∧ n ≤ 2147483647) (h1 : 0 ≤ i ∧ i < n) : Tr g m_J0_checkIndex_df160 2 [xI i, xI n] h (fun r h' => r = .inl none ∧ h' = h) := by
  refine Tr.ofV (by decide) rfl (fun v hv => by simp only [List.mem_cons, List.not_mem_nil, or_false] at hv; rcases hv with rfl | rfl <;> rfl) (Nat.le_of_ble_eq_true rfl) ?_
  change V g m_J0_checkIndex_df160 2 _ h 0 [xI i, xI n] []
  refine V_iload_n dJ0_checkIndex_df160_0 rfl ?_
  refine V_iload_n dJ0_checkIndex_df160_1 rfl ?_
  refine V_gs6 dJ0_checkIndex_df160_2 rfl w_s1053 (fun r6 => ?_)
  refine V_pS (as := [_, _, _]) dJ0_checkIndex_df160_5 c_RJ0_1059 rfl (by decide) rfl (Nat.le_of_ble_eq_true rfl) (T_J3_checkIndex_8e157 g i n r6 (by omega) (by omega) (by omega)) ?_
  refine V_pop dJ0_checkIndex_df160_8 rfl ?_
  refine V_vret dJ0_checkIndex_df160_9 rfl ?_
  exact ⟨rfl, rfl⟩
/-- a number's letters written below a place -/
def dH (h : AH) (b : Nat) (x p : Int) : AH := if x < 10 then h_si h b (p - 1).toNat (48 + x % 10) else h_si (h_si h b (p - 1).toNat (48 + x % 10)) b (p - 2).toNat (48 + x / 10)
theorem T_getChars (g : GP) {h : AH} (x p : Int) (b : Nat) (h1 : 0 ≤ x ∧ x ≤ 99) (hb : h_k h b = 20) (h2 : ((x < 10 ∧ 1 ≤ p) ∨ 2 ≤ p) ∧ p ≤ h_l h b) (h3 : h_l h b ≤ 1000) : Tr g m_J6_getChars_ba4f3 1 [xI x, xI p, xR b] h (fun r h' => (∃ z, r = .inl (some (xI z))) ∧ h' = dH h b x p) := by
  refine Tr.ofV (by decide) rfl (fun v hv => by simp only [List.mem_cons, List.not_mem_nil, or_false] at hv; rcases hv with rfl | rfl | rfl <;> first | rfl | exact cat_R) (Nat.le_of_ble_eq_true rfl) ?_
  change V g m_J6_getChars_ba4f3 1 _ h 0 [xI x, xI p, xR b, xU, xU, xU, xU] []
  refine V_iload_n dJ6_getChars_ba4f3_0 rfl ?_
  refine V_istore (lc' := [_, _, _, _, _, _, _]) dJ6_getChars_ba4f3_1 (by decide) rfl ?_
  refine V_iload_n dJ6_getChars_ba4f3_3 rfl ?_
  refine V_if_ge (tgt := 11) dJ6_getChars_ba4f3_4 (by decide) (by omega) (fun q4 => ?_) (fun q4 => absurd q4 (by omega))
  refine V_iconst dJ6_getChars_ba4f3_11 ?_
  refine V_istore (lc' := [_, _, _, _, _, _, _]) dJ6_getChars_ba4f3_12 (by decide) rfl ?_
  refine V_iload dJ6_getChars_ba4f3_14 rfl ?_
  refine V_if_ne (tgt := 22) dJ6_getChars_ba4f3_16 (by decide) (by decide) (fun q16 => absurd q16 (by decide)) (fun _ => ?_)
  refine V_iload_n dJ6_getChars_ba4f3_19 rfl ?_
  refine V_ineg dJ6_getChars_ba4f3_20 ?_
  refine V_istore_n (lc' := [_, _, _, _, _, _, _]) dJ6_getChars_ba4f3_21 (by decide) rfl ?_
  refine V_iload_n dJ6_getChars_ba4f3_22 rfl ?_
  refine V_bipush dJ6_getChars_ba4f3_23 (by decide) ?_
  refine V_icmp_gt (tgt := 72) dJ6_getChars_ba4f3_25 (by decide) (by omega) (by omega) (fun q25 => ?_) (fun q25 => absurd q25 (by omega))
  refine V_aload_n dJ6_getChars_ba4f3_72 rfl ?_
  refine V_iinc (lc' := [_, _, _, _, _, _, _]) dJ6_getChars_ba4f3_73 rfl (by decide) rfl ?_
  refine V_iload dJ6_getChars_ba4f3_76 rfl ?_
  refine V_gs2 dJ6_getChars_ba4f3_78 rfl w_d83 ?_
  refine V_iload_n dJ6_getChars_ba4f3_81 rfl ?_
  refine V_ineg dJ6_getChars_ba4f3_82 ?_
  refine V_bld2 (j := x.toNat) dJ6_getChars_ba4f3_83 (by omega) (by omega) ?_
  rw [show ((x.toNat : Nat) : Int) = x from Int.toNat_of_nonneg h1.1]
  refine V_bast (j := (p - 1).toNat) dJ6_getChars_ba4f3_84 hb (by omega) (by first | (show _ < h_l h b; omega) | omega) (by first | (show h_l h b ≤ _; omega) | omega) (by omega) ?_
  refine V_iload_n dJ6_getChars_ba4f3_85 rfl ?_
  refine V_bipush dJ6_getChars_ba4f3_86 (by decide) ?_
  refine V_icmp_ge (tgt := 104) dJ6_getChars_ba4f3_88 (by decide) (by omega) (by omega) (fun q88 => ?_) (fun q88 => ?_)
  · refine V_iload dJ6_getChars_ba4f3_104 rfl ?_
    refine V_if_eq (tgt := 118) dJ6_getChars_ba4f3_106 (by decide) (by decide) (fun _ => ?_) (fun q106 => absurd q106 (by decide))
    refine V_iload dJ6_getChars_ba4f3_118 rfl ?_
    refine V_iret dJ6_getChars_ba4f3_120 rfl ?_
    refine ⟨⟨_, rfl⟩, ?_⟩
    unfold dH
    first | (rw [if_pos (by omega)]; done) | (rw [if_neg (by omega)]; done)
  · refine V_aload_n dJ6_getChars_ba4f3_91 rfl ?_
    refine V_iinc (lc' := [_, _, _, _, _, _, _]) dJ6_getChars_ba4f3_92 rfl (by decide) rfl ?_
    refine V_iload dJ6_getChars_ba4f3_95 rfl ?_
    refine V_gs3 dJ6_getChars_ba4f3_97 rfl w_d87 ?_
    refine V_iload_n dJ6_getChars_ba4f3_100 rfl ?_
    refine V_ineg dJ6_getChars_ba4f3_101 ?_
    refine V_bld3 (j := x.toNat) dJ6_getChars_ba4f3_102 (by omega) (by omega) ?_
    rw [show ((x.toNat : Nat) : Int) = x from Int.toNat_of_nonneg h1.1]
    refine V_bast (j := (p - 2).toNat) dJ6_getChars_ba4f3_103 hb (by omega) (by first | (show _ < h_l h b; omega) | omega) (by first | (show h_l h b ≤ _; omega) | omega) (by omega) ?_
    refine V_iload dJ6_getChars_ba4f3_104 rfl ?_
    refine V_if_eq (tgt := 118) dJ6_getChars_ba4f3_106 (by decide) (by decide) (fun _ => ?_) (fun q106 => absurd q106 (by decide))
    refine V_iload dJ6_getChars_ba4f3_118 rfl ?_
    refine V_iret dJ6_getChars_ba4f3_120 rfl ?_
    refine ⟨⟨_, rfl⟩, ?_⟩
    unfold dH
    first | (rw [if_pos (by omega)]; done) | (rw [if_neg (by omega)]; done)
theorem T_cpoB (g : GP) {h : AH} (b C N : Nat) (hb : h_k h b = 20) (hl : h_l h b = C) (hCN : C < N ∧ N ≤ 1000) (hE : ∀ k, k < C → 0 ≤ h_i h b k ∧ h_i h b k ≤ 127) (hbn : b ≠ h_n h) (h1 : h_n h + 1 ≤ z_CC) (h2 : h_u h + N ≤ z_CS) : Tr g m_J7_copyOf_9075b 3 [xR b, xI ((N : Nat) : Int)] h (fun r h' => r = .inl (some (xR (h_n h))) ∧ h' = h_ci (h_mk h 20 N N) b 0 (h_n h) 0 C) := by
  refine Tr.ofV (by decide) rfl (fun v hv => by simp only [List.mem_cons, List.not_mem_nil, or_false] at hv; rcases hv with rfl | rfl <;> first | rfl | exact cat_R) (Nat.le_of_ble_eq_true rfl) ?_
  change V g m_J7_copyOf_9075b 3 _ h 0 [xR b, xI ((N : Nat) : Int), xU] []
  refine V_iload_n dJ7_copyOf_9075b_0 rfl ?_
  refine V_aload_n dJ7_copyOf_9075b_1 rfl ?_
  refine V_alen (t := 0) dJ7_copyOf_9075b_2 hb (by omega) ?_
  rw [hl]
  refine V_icmp_ne (tgt := 14) dJ7_copyOf_9075b_3 (by decide) (by omega) (by omega) (fun q3 => ?_) (fun q3 => absurd q3 (by omega))
  refine V_iload_n dJ7_copyOf_9075b_14 rfl ?_
  refine V_newa0 (n := N) dJ7_copyOf_9075b_15 w_arr0 rfl (by omega) h1 h2 ?_
  refine V_astore_n (lc' := [_, _, _]) dJ7_copyOf_9075b_17 (by decide) rfl ?_
  refine V_aload_n dJ7_copyOf_9075b_18 rfl ?_
  refine V_iconst dJ7_copyOf_9075b_19 ?_
  refine V_aload_n dJ7_copyOf_9075b_20 rfl ?_
  refine V_iconst dJ7_copyOf_9075b_21 ?_
  refine V_aload_n dJ7_copyOf_9075b_22 rfl ?_
  refine V_alen (t := 0) dJ7_copyOf_9075b_23 ((mk_k hbn).trans hb) (by omega) ?_
  rw [mk_l hbn, hl]
  refine V_iload_n dJ7_copyOf_9075b_24 rfl ?_
  refine V_pS (as := [_, _]) dJ7_copyOf_9075b_25 c_RJ7_304 rfl (by decide) rfl (Nat.le_of_ble_eq_true rfl) (T_J9_min_7cf53 g ((C : Nat) : Int) ((N : Nat) : Int) (by omega) (by omega)) ?_
  refine V_cpI (t := 0) (by omega) (sp := 0) (dp := 0) (n := C) dJ7_copyOf_9075b_28 w_ac0 w_ac1 w_ac2 w_ac3 (by decide) (st4 (Nat.le_of_ble_eq_true rfl)) ((mk_k hbn).trans hb) mk_ks rfl rfl (by rw [if_neg (by omega)]) (by rw [mk_l hbn, hl]; omega) (by rw [mk_ls]; omega) (by rw [mk_l hbn]; omega) (by rw [mk_ls]; omega) (fun i hi => ?_) ?_
  · rw [mk_i hbn, Nat.zero_add]
    have := hE i hi
    exact (nf_b (by omega)).2
  refine V_aload_n dJ7_copyOf_9075b_31 rfl ?_
  refine V_aret dJ7_copyOf_9075b_32 rfl (by first | exact Or.inl ⟨_, rfl⟩ | exact Or.inr ⟨_, rfl⟩) ?_
  exact ⟨rfl, rfl⟩
theorem w_k39 : Cond.constant RJ5 39 (Int32.ofInt 2147483647) ∈ GW := gwi 679 (by decide +kernel) (by decide +kernel)
theorem T_J1_canEncode_fc78d (g : GP) {h : AH} (c : Int)  (r_c : -2147483648 ≤ c ∧ c ≤ 2147483647) (h1 : 0 ≤ c ∧ c ≤ 127) : TP g m_J1_canEncode_fc78d 1 [xI c] h (xI 1) := by
  refine TP.of (by decide) rfl (fun v hv => ?_) (Nat.le_of_ble_eq_true rfl) ?_
  · simp only [List.mem_cons, List.not_mem_nil, or_false] at hv
    subst hv; first | rfl | exact cat_R
  change V g m_J1_canEncode_fc78d 1 _ h 0 [xI c] []
  refine V_iload_n dJ1_canEncode_fc78d_0 rfl ?_
  refine V_sipush dJ1_canEncode_fc78d_1 (by decide) ?_
  refine V_icmp_gt (tgt := 11) dJ1_canEncode_fc78d_4 (by decide) (by omega) (by omega) (fun q4 => absurd q4 (by omega)) (fun q4 => ?_)
  refine V_iconst dJ1_canEncode_fc78d_7 ?_
  refine V_goto (tgt := 12) dJ1_canEncode_fc78d_8 (by decide) ?_
  refine V_zret (by first | exact pI_01 _ | omega) dJ1_canEncode_fc78d_12 rfl ?_
  exact ⟨rfl, rfl⟩
theorem T_J5_isLatin1_aae02 (g : GP) {h : AH} (s : Nat) (n : Int) (b C : Nat) (T : Int → Int)  (H : SB h s n b C T) : TP g m_J5_isLatin1_aae02 1 [xR s] h (xI 1) := by
  refine TP.of (by decide) rfl (fun v hv => ?_) (Nat.le_of_ble_eq_true rfl) ?_
  · simp only [List.mem_cons, List.not_mem_nil, or_false] at hv
    subst hv; first | rfl | exact cat_R
  change V g m_J5_isLatin1_aae02 1 _ h 0 [xR s] []
  refine V_gsC dJ5_isLatin1_aae02_0 rfl w_cs_RJ5_18 ?_
  refine V_if_eq (tgt := 17) dJ5_isLatin1_aae02_3 (by decide) (by decide) (fun q3 => absurd q3 (by decide)) (fun _ => ?_)
  refine V_aload_n dJ5_isLatin1_aae02_6 rfl ?_
  refine V_getIv (z := 0) dJ5_isLatin1_aae02_7 fg_RJ5_22 rfl H.1 H.2.2.2.2.1 ?_
  refine V_if_ne (tgt := 17) dJ5_isLatin1_aae02_10 (by decide) (by decide) (fun q10 => absurd q10 (by decide)) (fun _ => ?_)
  refine V_iconst dJ5_isLatin1_aae02_13 ?_
  refine V_goto (tgt := 18) dJ5_isLatin1_aae02_14 (by decide) ?_
  refine V_zret (by first | exact pI_01 _ | omega) dJ5_isLatin1_aae02_18 rfl ?_
  exact ⟨rfl, rfl⟩
theorem T_J5_length_8abf5 (g : GP) {h : AH} (s : Nat) (n : Int) (b C : Nat) (T : Int → Int)  (H : SB h s n b C T) : TP g m_J5_length_8abf5 1 [xR s] h (xI n) := by
  refine TP.of (by decide) rfl (fun v hv => ?_) (Nat.le_of_ble_eq_true rfl) ?_
  · simp only [List.mem_cons, List.not_mem_nil, or_false] at hv
    subst hv; first | rfl | exact cat_R
  change V g m_J5_length_8abf5 1 _ h 0 [xR s] []
  refine V_aload_n dJ5_length_8abf5_0 rfl ?_
  refine V_getIv (z := n) dJ5_length_8abf5_1 fg_RJ5_79 rfl H.1 H.2.2.1 ?_
  refine V_iret dJ5_length_8abf5_4 rfl ?_
  exact ⟨rfl, rfl⟩
theorem T_J4_length_8abf5 (g : GP) {h : AH} (s : Nat) (n : Int) (b C : Nat) (T : Int → Int)  (H : SB h s n b C T) : TP g m_J4_length_8abf5 2 [xR s] h (xI n) := by
  refine TP.of (by decide) rfl (fun v hv => ?_) (Nat.le_of_ble_eq_true rfl) ?_
  · simp only [List.mem_cons, List.not_mem_nil, or_false] at hv
    subst hv; first | rfl | exact cat_R
  change V g m_J4_length_8abf5 2 _ h 0 [xR s] []
  refine V_aload_n dJ4_length_8abf5_0 rfl ?_
  refine V_pU (as := []) dJ4_length_8abf5_1 c_RJ4_343 (by decide) rfl (Nat.le_of_ble_eq_true rfl) H.1 (T_J5_length_8abf5 g s n b C T H) ?_
  refine V_iret dJ4_length_8abf5_4 rfl ?_
  exact ⟨rfl, rfl⟩
theorem T_J5_charAt_5068e (g : GP) {h : AH} (s : Nat) (i : Int) (n : Int) (b C : Nat) (T : Int → Int) (r_i : -2147483648 ≤ i ∧ i ≤ 2147483647) (H : SB h s n b C T) (h1 : 0 ≤ i ∧ i < n) (h2 : 0 ≤ T i ∧ T i ≤ 127) : TP g m_J5_charAt_5068e 3 [xR s, xI i] h (xI (T i)) := by
  refine TP.of (by decide) rfl (fun v hv => ?_) (Nat.le_of_ble_eq_true rfl) ?_
  · simp only [List.mem_cons, List.not_mem_nil, or_false] at hv
    rcases hv with rfl | rfl <;> first | rfl | exact cat_R
  change V g m_J5_charAt_5068e 3 _ h 0 [xR s, xI i, xU, xU, xU] []
  obtain ⟨w2, w3, w4⟩ := H.row h1
  have hb := H.2.2.2.1
  refine V_aload_n dJ5_charAt_5068e_0 rfl ?_
  refine V_getIv (z := 0) dJ5_charAt_5068e_1 fg_RJ5_22 rfl H.1 H.2.2.2.2.1 ?_
  refine V_istore_n (lc' := [_, _, _, _, _]) dJ5_charAt_5068e_4 (by decide) rfl ?_
  refine V_aload_n dJ5_charAt_5068e_5 rfl ?_
  refine V_getRv (v := b) dJ5_charAt_5068e_6 fg_RJ5_15 rfl H.1 H.2.1 ?_
  refine V_astore_n (lc' := [_, _, _, _, _]) dJ5_charAt_5068e_9 (by decide) rfl ?_
  refine V_aload_n dJ5_charAt_5068e_10 rfl ?_
  refine V_getIv (z := n) dJ5_charAt_5068e_11 fg_RJ5_79 rfl H.1 H.2.2.1 ?_
  refine V_aload_n dJ5_charAt_5068e_14 rfl ?_
  refine V_alen (t := 0) dJ5_charAt_5068e_15 H.2.2.2.2.2.1.1 (by omega) ?_
  rw [H.2.2.2.2.2.1.2]
  refine V_iload_n dJ5_charAt_5068e_16 rfl ?_
  refine V_ishr (z := ((C : Nat) : Int)) dJ5_charAt_5068e_17 (ishr0 (by omega)) ?_
  refine V_pS (as := [_, _]) dJ5_charAt_5068e_18 c_RJ5_138 rfl (by decide) rfl (Nat.le_of_ble_eq_true rfl) (T_J9_min_7cf53 g n ((C : Nat) : Int) (by omega) (by omega)) ?_
  rw [show (if (((C : Nat) : Int)) < n then (((C : Nat) : Int)) else n) = n from if_neg (by omega)]
  refine V_istore (lc' := [_, _, _, _, _]) dJ5_charAt_5068e_21 (by decide) rfl ?_
  refine V_iload_n dJ5_charAt_5068e_23 rfl ?_
  refine V_iload dJ5_charAt_5068e_24 rfl ?_
  refine V_cS (as := [_, _]) dJ5_charAt_5068e_26 c_RJ5_144 rfl (by decide) rfl (Nat.le_of_ble_eq_true rfl) (T_chk0 g i n r_i (by omega) h1) (fun _ _ z => nomatch z.1) (fun v9 h9 p9 => ?_)
  obtain ⟨p1, rfl⟩ := p9
  cases p1
  refine V_iload_n dJ5_charAt_5068e_29 rfl ?_
  refine V_if_ne (tgt := 42) dJ5_charAt_5068e_30 (by decide) (by decide) (fun q30 => absurd q30 (by decide)) (fun _ => ?_)
  refine V_aload_n dJ5_charAt_5068e_33 rfl ?_
  refine V_iload_n dJ5_charAt_5068e_34 rfl ?_
  refine V_baldv (j := i.toNat) (z2 := T i) dJ5_charAt_5068e_35 H.2.2.2.2.2.1.1 (by omega) w2 w3 w4 ?_
  refine V_sipush dJ5_charAt_5068e_36 (by decide) ?_
  refine V_iand (z := T i) dJ5_charAt_5068e_39 (and255 h2) ?_
  refine V_i2c (z := (T i)) dJ5_charAt_5068e_40 (i2c_id (by omega)) ?_
  refine V_cret (by omega) dJ5_charAt_5068e_41 rfl ?_
  exact ⟨rfl, rfl⟩
theorem T_J4_charAt_5068e (g : GP) {h : AH} (s : Nat) (i : Int) (n : Int) (b C : Nat) (T : Int → Int) (r_i : -2147483648 ≤ i ∧ i ≤ 2147483647) (H : SB h s n b C T) (h1 : 0 ≤ i ∧ i < n) (h2 : 0 ≤ T i ∧ T i ≤ 127) : TP g m_J4_charAt_5068e 4 [xR s, xI i] h (xI (T i)) := by
  refine TP.of (by decide) rfl (fun v hv => ?_) (Nat.le_of_ble_eq_true rfl) ?_
  · simp only [List.mem_cons, List.not_mem_nil, or_false] at hv
    rcases hv with rfl | rfl <;> first | rfl | exact cat_R
  change V g m_J4_charAt_5068e 4 _ h 0 [xR s, xI i] []
  refine V_aload_n dJ4_charAt_5068e_0 rfl ?_
  refine V_iload_n dJ4_charAt_5068e_1 rfl ?_
  refine V_pU (as := [_]) dJ4_charAt_5068e_2 c_RJ4_329 (by decide) rfl (Nat.le_of_ble_eq_true rfl) H.1 (T_J5_charAt_5068e g s i n b C T (by omega) H h1 h2) ?_
  refine V_cret (by omega) dJ4_charAt_5068e_5 rfl ?_
  exact ⟨rfl, rfl⟩
theorem T_J6_stringSize_0f7a4 (g : GP) {h : AH} (x : Int)  (r_x : -2147483648 ≤ x ∧ x ≤ 2147483647) (h1 : 0 ≤ x ∧ x ≤ 99) : TP g m_J6_stringSize_0f7a4 1 [xI x] h (xI (if x < 10 then 1 else 2)) := by
  refine TP.of (by decide) rfl (fun v hv => ?_) (Nat.le_of_ble_eq_true rfl) ?_
  · simp only [List.mem_cons, List.not_mem_nil, or_false] at hv
    subst hv; first | rfl | exact cat_R
  change V g m_J6_stringSize_0f7a4 1 _ h 0 [xI x, xU, xU, xU] []
  refine V_iconst dJ6_stringSize_0f7a4_0 ?_
  refine V_istore_n (lc' := [_, _, _, _]) dJ6_stringSize_0f7a4_1 (by decide) rfl ?_
  refine V_iload_n dJ6_stringSize_0f7a4_2 rfl ?_
  refine V_if_lt (tgt := 11) dJ6_stringSize_0f7a4_3 (by decide) (by omega) (fun q3 => absurd q3 (by omega)) (fun q3 => ?_)
  refine V_iconst dJ6_stringSize_0f7a4_6 ?_
  refine V_istore_n (lc' := [_, _, _, _]) dJ6_stringSize_0f7a4_7 (by decide) rfl ?_
  refine V_iload_n dJ6_stringSize_0f7a4_8 rfl ?_
  refine V_ineg dJ6_stringSize_0f7a4_9 ?_
  refine V_istore_n (lc' := [_, _, _, _]) dJ6_stringSize_0f7a4_10 (by decide) rfl ?_
  refine V_bipush dJ6_stringSize_0f7a4_11 (by decide) ?_
  refine V_istore_n (lc' := [_, _, _, _]) dJ6_stringSize_0f7a4_13 (by decide) rfl ?_
  refine V_iconst dJ6_stringSize_0f7a4_14 ?_
  refine V_istore_n (lc' := [_, _, _, _]) dJ6_stringSize_0f7a4_15 (by decide) rfl ?_
  refine V_iload_n dJ6_stringSize_0f7a4_16 rfl ?_
  refine V_bipush dJ6_stringSize_0f7a4_17 (by decide) ?_
  refine V_icmp_ge (tgt := 42) dJ6_stringSize_0f7a4_19 (by decide) (by decide) (by decide) (fun q19 => absurd q19 (by decide)) (fun _ => ?_)
  refine V_iload_n dJ6_stringSize_0f7a4_22 rfl ?_
  refine V_iload_n dJ6_stringSize_0f7a4_23 rfl ?_
  refine V_icmp_le (tgt := 31) dJ6_stringSize_0f7a4_24 (by decide) (by omega) (by omega) (fun q24 => ?_) (fun q24 => ?_)
  · refine V_bipush dJ6_stringSize_0f7a4_31 (by decide) ?_
    refine V_iload_n dJ6_stringSize_0f7a4_33 rfl ?_
    refine V_imul dJ6_stringSize_0f7a4_34 ?_
    refine V_istore_n (lc' := [_, _, _, _]) dJ6_stringSize_0f7a4_35 (by decide) rfl ?_
    refine V_iinc (lc' := [_, _, _, _]) dJ6_stringSize_0f7a4_36 rfl (by decide) rfl ?_
    refine V_goto (tgt := 16) dJ6_stringSize_0f7a4_39 (by decide) ?_
    refine V_iload_n dJ6_stringSize_0f7a4_16 rfl ?_
    refine V_bipush dJ6_stringSize_0f7a4_17 (by decide) ?_
    refine V_icmp_ge (tgt := 42) dJ6_stringSize_0f7a4_19 (by decide) (by omega) (by omega) (fun q19 => absurd q19 (by omega)) (fun q19 => ?_)
    refine V_iload_n dJ6_stringSize_0f7a4_22 rfl ?_
    refine V_iload_n dJ6_stringSize_0f7a4_23 rfl ?_
    refine V_icmp_le (tgt := 31) dJ6_stringSize_0f7a4_24 (by decide) (by omega) (by omega) (fun q24 => absurd q24 (by omega)) (fun q24 => ?_)
    refine V_iload_n dJ6_stringSize_0f7a4_27 rfl ?_
    refine V_iload_n dJ6_stringSize_0f7a4_28 rfl ?_
    refine V_iadd dJ6_stringSize_0f7a4_29 ?_
    refine V_iret dJ6_stringSize_0f7a4_30 rfl ?_
    refine ⟨?_, rfl⟩
    first | (rw [if_pos (by omega)]; done) | (rw [if_pos (by omega)]; rfl) | (rw [if_neg (by omega)]; done) | (rw [if_neg (by omega)]; rfl)
  · refine V_iload_n dJ6_stringSize_0f7a4_27 rfl ?_
    refine V_iload_n dJ6_stringSize_0f7a4_28 rfl ?_
    refine V_iadd dJ6_stringSize_0f7a4_29 ?_
    refine V_iret dJ6_stringSize_0f7a4_30 rfl ?_
    refine ⟨?_, rfl⟩
    first | (rw [if_pos (by omega)]; done) | (rw [if_pos (by omega)]; rfl) | (rw [if_neg (by omega)]; done) | (rw [if_neg (by omega)]; rfl)
theorem T_J5_newCapacity_0f7a4 (g : GP) {h : AH} (s : Nat) (mn : Int) (n : Int) (b C : Nat) (T : Int → Int) (r_mn : -2147483648 ≤ mn ∧ mn ≤ 2147483647) (H : SB h s n b C T) (h1 : ((C : Nat) : Int) < mn ∧ mn ≤ 400) : TP g m_J5_newCapacity_0f7a4 3 [xR s, xI mn] h (xI (((C : Nat) : Int) + (if (mn - ((C : Nat) : Int)) < (((C : Nat) : Int) + 2) then (((C : Nat) : Int) + 2) else (mn - ((C : Nat) : Int))))) := by
  refine TP.of (by decide) rfl (fun v hv => ?_) (Nat.le_of_ble_eq_true rfl) ?_
  · simp only [List.mem_cons, List.not_mem_nil, or_false] at hv
    rcases hv with rfl | rfl <;> first | rfl | exact cat_R
  change V g m_J5_newCapacity_0f7a4 3 _ h 0 [xR s, xI mn, xU, xU, xU, xU] []
  have hb := H.2.2.2.1
  refine V_aload_n dJ5_newCapacity_0f7a4_0 rfl ?_
  refine V_getRv (v := b) dJ5_newCapacity_0f7a4_1 fg_RJ5_15 rfl H.1 H.2.1 ?_
  refine V_alen (t := 0) dJ5_newCapacity_0f7a4_4 H.2.2.2.2.2.1.1 (by omega) ?_
  rw [H.2.2.2.2.2.1.2]
  refine V_istore_n (lc' := [_, _, _, _, _, _]) dJ5_newCapacity_0f7a4_5 (by decide) rfl ?_
  refine V_iload_n dJ5_newCapacity_0f7a4_6 rfl ?_
  refine V_aload_n dJ5_newCapacity_0f7a4_7 rfl ?_
  refine V_getIv (z := 0) dJ5_newCapacity_0f7a4_8 fg_RJ5_22 rfl H.1 H.2.2.2.2.1 ?_
  refine V_ishl (z := mn) dJ5_newCapacity_0f7a4_11 (ishl0 (by omega)) ?_
  refine V_istore_n (lc' := [_, _, _, _, _, _]) dJ5_newCapacity_0f7a4_12 (by decide) rfl ?_
  refine V_iload_n dJ5_newCapacity_0f7a4_13 rfl ?_
  refine V_iload_n dJ5_newCapacity_0f7a4_14 rfl ?_
  refine V_isub dJ5_newCapacity_0f7a4_15 ?_
  refine V_istore (lc' := [_, _, _, _, _, _]) dJ5_newCapacity_0f7a4_16 (by decide) rfl ?_
  refine V_iload_n dJ5_newCapacity_0f7a4_18 rfl ?_
  refine V_iload dJ5_newCapacity_0f7a4_19 rfl ?_
  refine V_iload_n dJ5_newCapacity_0f7a4_21 rfl ?_
  refine V_iconst dJ5_newCapacity_0f7a4_22 ?_
  refine V_aload_n dJ5_newCapacity_0f7a4_23 rfl ?_
  refine V_getIv (z := 0) dJ5_newCapacity_0f7a4_24 fg_RJ5_22 rfl H.1 H.2.2.2.2.1 ?_
  refine V_ishl (z := 2) dJ5_newCapacity_0f7a4_27 (ishl0 (by omega)) ?_
  refine V_iadd dJ5_newCapacity_0f7a4_28 ?_
  refine V_pS (as := [_, _, _]) dJ5_newCapacity_0f7a4_29 c_RJ5_114 rfl (by decide) rfl (Nat.le_of_ble_eq_true rfl) (T_J8_newLength_cabcc g ((C : Nat) : Int) (mn - ((C : Nat) : Int)) (((C : Nat) : Int) + 2) (by omega) (by omega) (by omega) (by omega) (by omega) (by omega)) ?_
  refine V_istore (lc' := [_, _, _, _, _, _]) dJ5_newCapacity_0f7a4_32 (by decide) rfl ?_
  refine V_iload dJ5_newCapacity_0f7a4_34 rfl ?_
  refine V_ldcI (z := 2147483647) dJ5_newCapacity_0f7a4_36 rfl w_k39 ?_
  refine V_icmp_ne (tgt := 51) dJ5_newCapacity_0f7a4_38 (by decide) (by omega) (by omega) (fun q38 => ?_) (fun q38 => absurd q38 (by omega))
  refine V_iload dJ5_newCapacity_0f7a4_51 rfl ?_
  refine V_aload_n dJ5_newCapacity_0f7a4_53 rfl ?_
  refine V_getIv (z := 0) dJ5_newCapacity_0f7a4_54 fg_RJ5_22 rfl H.1 H.2.2.2.2.1 ?_
  refine V_ishr (z := (((C : Nat) : Int) + (if (mn - ((C : Nat) : Int)) < (((C : Nat) : Int) + 2) then (((C : Nat) : Int) + 2) else (mn - ((C : Nat) : Int))))) dJ5_newCapacity_0f7a4_57 (ishr0 (by omega)) ?_
  refine V_iret dJ5_newCapacity_0f7a4_58 rfl ?_
  exact ⟨rfl, rfl⟩
theorem T_ensure (g : GP) {h : AH} (s : Nat) (mn n : Int) (b C : Nat) (T : Int → Int) (H : SB h s n b C T) (h0 : 0 ≤ mn ∧ mn ≤ 400) (hbn : b ≠ h_n h) (hsn : s ≠ h_n h) (h1 : h_n h + 1 ≤ z_CC) (h2 : h_u h + 802 ≤ z_CS) : Tr g m_J5_ensureCapacityInternal_d00df 4 [xR s, xI mn] h (fun r h' => r = .inl none ∧ ((mn ≤ C ∧ h' = h) ∨ ((C : Int) < mn ∧ ∃ N : Nat, C < N ∧ (N : Int) ≤ 2 * mn + 2 ∧ mn ≤ N ∧ h' = h_sr (h_ci (h_mk h 20 N N) b 0 (h_n h) 0 C) s 0 (h_n h)))) := by
  refine Tr.ofV (by decide) rfl (fun v hv => by simp only [List.mem_cons, List.not_mem_nil, or_false] at hv; rcases hv with rfl | rfl <;> first | rfl | exact cat_R) (Nat.le_of_ble_eq_true rfl) ?_
  have hb := H.2.2.2.1
  change V g m_J5_ensureCapacityInternal_d00df 4 _ h 0 [xR s, xI mn, xU] []
  refine V_aload_n dJ5_ensureCapacityInternal_d00df_0 rfl ?_
  refine V_getRv (v := b) dJ5_ensureCapacityInternal_d00df_1 fg_RJ5_15 rfl H.1 H.2.1 ?_
  refine V_alen (t := 0) dJ5_ensureCapacityInternal_d00df_4 H.2.2.2.2.2.1.1 (by omega) ?_
  rw [H.2.2.2.2.2.1.2]
  refine V_aload_n dJ5_ensureCapacityInternal_d00df_5 rfl ?_
  refine V_getIv (z := 0) dJ5_ensureCapacityInternal_d00df_6 fg_RJ5_22 rfl H.1 H.2.2.2.2.1 ?_
  refine V_ishr (z := ((C : Nat) : Int)) dJ5_ensureCapacityInternal_d00df_9 (ishr0 (by omega)) ?_
  refine V_istore_n (lc' := [_, _, _]) dJ5_ensureCapacityInternal_d00df_10 (by decide) rfl ?_
  refine V_iload_n dJ5_ensureCapacityInternal_d00df_11 rfl ?_
  refine V_iload_n dJ5_ensureCapacityInternal_d00df_12 rfl ?_
  refine V_isub dJ5_ensureCapacityInternal_d00df_13 ?_
  refine V_if_le (tgt := 38) dJ5_ensureCapacityInternal_d00df_14 (by decide) (by omega) (fun q14 => ?_) (fun q14 => ?_)
  · refine V_vret dJ5_ensureCapacityInternal_d00df_38 rfl ?_
    first | exact ⟨rfl, Or.inl ⟨by omega, rfl⟩⟩ | exact ⟨rfl, Or.inr ⟨by omega, N, hN2.1, hN2.2.1, hN2.2.2, rfl⟩⟩
  · refine V_aload_n dJ5_ensureCapacityInternal_d00df_17 rfl ?_
    refine V_aload_n dJ5_ensureCapacityInternal_d00df_18 rfl ?_
    refine V_getRv (v := b) dJ5_ensureCapacityInternal_d00df_19 fg_RJ5_15 rfl H.1 H.2.1 ?_
    refine V_aload_n dJ5_ensureCapacityInternal_d00df_22 rfl ?_
    refine V_iload_n dJ5_ensureCapacityInternal_d00df_23 rfl ?_
    refine V_pV (as := [_]) dJ5_ensureCapacityInternal_d00df_24 c_RJ5_104 rfl (by decide) rfl (Nat.le_of_ble_eq_true rfl) H.1 (T_J5_newCapacity_0f7a4 g s mn n b C T (by omega) H (by omega)) ?_
    obtain ⟨N, hN⟩ : ∃ N : Nat, (N : Int) = (((C : Nat) : Int) + (if (mn - ((C : Nat) : Int)) < (((C : Nat) : Int) + 2) then (((C : Nat) : Int) + 2) else (mn - ((C : Nat) : Int)))) := ⟨((((C : Nat) : Int) + (if (mn - ((C : Nat) : Int)) < (((C : Nat) : Int) + 2) then (((C : Nat) : Int) + 2) else (mn - ((C : Nat) : Int))))).toNat, by rw [Int.toNat_of_nonneg]; split <;> omega⟩
    rw [← hN]
    have hN2 : C < N ∧ (N : Int) ≤ 2 * mn + 2 ∧ mn ≤ N := by split at hN <;> omega
    refine V_aload_n dJ5_ensureCapacityInternal_d00df_27 rfl ?_
    refine V_getIv (z := 0) dJ5_ensureCapacityInternal_d00df_28 fg_RJ5_22 rfl H.1 H.2.2.2.2.1 ?_
    refine V_ishl (z := ((N : Nat) : Int)) dJ5_ensureCapacityInternal_d00df_31 (ishl0 (by omega)) ?_
    refine V_cS (as := [_, _]) dJ5_ensureCapacityInternal_d00df_32 c_RJ5_108 rfl (by decide) rfl (Nat.le_of_ble_eq_true rfl) (T_cpoB g b C N H.2.2.2.2.2.1.1 H.2.2.2.2.2.1.2 (by omega) H.2.2.2.2.2.2.2 hbn h1 (by omega)) (fun _ _ z => nomatch z.1) (fun v9 h9 p9 => ?_)
    obtain ⟨p1, rfl⟩ := p9
    cases p1
    refine V_putR dJ5_ensureCapacityInternal_d00df_35 f_RJ5_15 rfl rfl ((mk_k (n := N) (N := N) (k := 20) hsn).trans H.1) ?_
    refine V_vret dJ5_ensureCapacityInternal_d00df_38 rfl ?_
    first | exact ⟨rfl, Or.inl ⟨by omega, rfl⟩⟩ | exact ⟨rfl, Or.inr ⟨by omega, N, hN2.1, hN2.2.1, hN2.2.2, rfl⟩⟩
theorem SB.gr {h : AH} {s b C N : Nat} {n : Int} {T : Int → Int} (H : SB h s n b C T) (hbn : b ≠ h_n h) (hsn : s ≠ h_n h) (hN : C < N ∧ N ≤ 400) : SB (h_sr (h_ci (h_mk h 20 N N) b 0 (h_n h) 0 C) s 0 (h_n h)) s n (h_n h) N T := by
  obtain ⟨q1, q2, q3, q4, q5, ⟨q6, q7⟩, q8, q9⟩ := H
  have ei : ∀ q j, q ≠ h_n h → h_i (h_sr (h_ci (h_mk h 20 N N) b 0 (h_n h) 0 C) s 0 (h_n h)) q j = h_i h q j := fun q j hq => (if_neg (fun w => hq w.1)).trans (mk_i (k := 20) (n := N) (N := N) hq)
  have en : ∀ j, h_i (h_sr (h_ci (h_mk h 20 N N) b 0 (h_n h) 0 C) s 0 (h_n h)) (h_n h) j = if j < C then h_i h b j else 0 := by
    intro j
    show (if h_n h = h_n h ∧ 0 ≤ j ∧ j < 0 + C then h_i (h_mk h 20 N N) b (0 + (j - 0)) else h_i (h_mk h 20 N N) (h_n h) j) = _
    by_cases e : j < C
    · rw [if_pos ⟨rfl, by omega, by omega⟩, if_pos e, mk_i hbn]
      congr 1
      omega
    · rw [if_neg (by omega), if_neg e]
      exact if_pos rfl
  refine ⟨(mk_k (k := 20) (n := N) (N := N) hsn).trans q1, u2_s, (ei s 3 hsn).trans q3, by omega, (ei s 1 hsn).trans q5, ⟨mk_ks (k := 20) (n := N) (N := N), mk_ls (k := 20) (n := N) (N := N)⟩, fun k hk => ?_, fun k hk => ?_⟩
  · rw [en, if_pos (by omega)]
    exact q8 k hk
  · rw [en]
    split
    · exact q9 k (by omega)
    · omega
/-- a letter put at the end -/
theorem SB.put {h : AH} {s b C : Nat} {n c : Int} {T : Int → Int} (H : SB h s n b C T) (hsb : s ≠ b) (hc : 0 ≤ c ∧ c ≤ 127) (hn : n < C) : SB (h_si (h_si h s 3 (n + 1)) b n.toNat c) s (n + 1) b C (fun k => if k = n then c else T k) := by
  obtain ⟨q1, q2, q3, q4, q5, q6, q8, q9⟩ := H
  refine ⟨q1, q2, ?_, by omega, ?_, q6, fun k hk => ?_, fun k hk => ?_⟩
  · rw [hsi_at, if_neg (fun w => hsb w.1), hsi_at, if_pos ⟨rfl, rfl⟩]
  · rw [hsi_at, if_neg (fun w => hsb w.1), hsi_at, if_neg (fun w => by have := w.2; omega)]
    exact q5
  · rw [hsi_at]
    by_cases e : k = n.toNat
    · rw [if_pos ⟨rfl, e⟩]
      show c = if (k : Int) = n then c else T k
      rw [if_pos (by omega)]
    · rw [if_neg (fun w => e w.2), hsi_at, if_neg (fun w => hsb w.1.symm)]
      show _ = if (k : Int) = n then c else T k
      rw [if_neg (by omega)]
      exact q8 k (by omega)
  · rw [hsi_at]
    split
    · exact hc
    · rw [hsi_at, if_neg (fun w => hsb w.1.symm)]
      exact q9 k hk
/-- room made for mn letters -/
def EN (h h9 : AH) (s b C b9 C9 : Nat) (mn : Int) : Prop := (mn ≤ C ∧ h9 = h ∧ b9 = b ∧ C9 = C) ∨ ((C : Int) < mn ∧ C < C9 ∧ (C9 : Int) ≤ 2 * mn + 2 ∧ mn ≤ C9 ∧ b9 = h_n h ∧ h9 = h_sr (h_ci (h_mk h 20 C9 C9) b 0 (h_n h) 0 C) s 0 (h_n h))
theorem EN.of {h h9 : AH} {s b C : Nat} {n mn : Int} {T : Int → Int} (H : SB h s n b C T) (hbn : b ≠ h_n h) (hsn : s ≠ h_n h) (hsb : s ≠ b) (hm : mn ≤ 100) (p2 : (mn ≤ C ∧ h9 = h) ∨ ((C : Int) < mn ∧ ∃ N : Nat, C < N ∧ (N : Int) ≤ 2 * mn + 2 ∧ mn ≤ N ∧ h9 = h_sr (h_ci (h_mk h 20 N N) b 0 (h_n h) 0 C) s 0 (h_n h))) : ∃ b9 C9, EN h h9 s b C b9 C9 mn ∧ SB h9 s n b9 C9 T ∧ s ≠ b9 ∧ mn ≤ C9 := by
  rcases p2 with ⟨p3, rfl⟩ | ⟨p3, N, p4, p5, p6, rfl⟩
  · exact ⟨b, C, Or.inl ⟨p3, rfl, rfl, rfl⟩, H, hsb, p3⟩
  · exact ⟨h_n h, N, Or.inr ⟨p3, p4, p5, p6, rfl, rfl⟩, H.gr hbn hsn (by omega), hsn, p6⟩
theorem T_appC5 (g : GP) {h : AH} (s : Nat) (c n : Int) (b C : Nat) (T : Int → Int) (H : SB h s n b C T) (hbn : b ≠ h_n h) (hsn : s ≠ h_n h) (hsb : s ≠ b) (h1 : h_n h + 1 ≤ z_CC) (h2 : h_u h + 802 ≤ z_CS) (hc : 0 ≤ c ∧ c ≤ 127) (hn : n ≤ 98) : Tr g m_J5_append_3fe6f 5 [xR s, xI c] h (fun r h' => r = .inl (some (xR s)) ∧ ∃ h9 b9 C9, EN h h9 s b C b9 C9 (n + 1) ∧ SB h9 s n b9 C9 T ∧ s ≠ b9 ∧ n + 1 ≤ C9 ∧ h' = h_si (h_si h9 s 3 (n + 1)) b9 n.toNat c) := by
  refine Tr.ofV (by decide) rfl (fun v hv => by simp only [List.mem_cons, List.not_mem_nil, or_false] at hv; rcases hv with rfl | rfl <;> first | rfl | exact cat_R) (Nat.le_of_ble_eq_true rfl) ?_
  have hb := H.2.2.2.1
  change V g m_J5_append_3fe6f 5 _ h 0 [xR s, xI c] []
  refine V_aload_n dJ5_append_3fe6f_0 rfl ?_
  refine V_aload_n dJ5_append_3fe6f_1 rfl ?_
  refine V_getIv (z := n) dJ5_append_3fe6f_2 fg_RJ5_79 rfl H.1 H.2.2.1 ?_
  refine V_iconst dJ5_append_3fe6f_5 ?_
  refine V_iadd dJ5_append_3fe6f_6 ?_
  refine V_cV (as := [_]) dJ5_append_3fe6f_7 c_RJ5_100 rfl (by decide) rfl (Nat.le_of_ble_eq_true rfl) H.1 (T_ensure g s (n + 1) n b C T H (by omega) hbn hsn h1 h2) (fun _ _ z => nomatch z.1) (fun v9 h9 p9 => ?_)
  obtain ⟨p1, p2⟩ := p9
  cases p1
  obtain ⟨b9, C9, hEN, H9, hsb9, hm9⟩ := EN.of H hbn hsn hsb (by omega) p2
  have hb9 := H9.2.2.2.1
  refine V_aload_n dJ5_append_3fe6f_10 rfl ?_
  refine V_pV (as := []) dJ5_append_3fe6f_11 c_RJ5_83 rfl (by decide) rfl (Nat.le_of_ble_eq_true rfl) H9.1 (T_J5_isLatin1_aae02 g s n b9 C9 T H9) ?_
  refine V_if_eq (tgt := 45) dJ5_append_3fe6f_14 (by decide) (by decide) (fun q14 => absurd q14 (by decide)) (fun _ => ?_)
  refine V_iload_n dJ5_append_3fe6f_17 rfl ?_
  refine V_pS (as := [_]) dJ5_append_3fe6f_18 c_RJ5_191 rfl (by decide) rfl (Nat.le_of_ble_eq_true rfl) (T_J1_canEncode_fc78d g c (by omega) (by omega)) ?_
  refine V_if_eq (tgt := 45) dJ5_append_3fe6f_21 (by decide) (by decide) (fun q21 => absurd q21 (by decide)) (fun _ => ?_)
  refine V_aload_n dJ5_append_3fe6f_24 rfl ?_
  refine V_getRv (v := b9) dJ5_append_3fe6f_25 fg_RJ5_15 rfl H9.1 H9.2.1 ?_
  refine V_aload_n dJ5_append_3fe6f_28 rfl ?_
  refine V_dup dJ5_append_3fe6f_29 cat_R ?_
  refine V_getIv (z := n) dJ5_append_3fe6f_30 fg_RJ5_79 rfl H9.1 H9.2.2.1 ?_
  refine V_dup_x1 dJ5_append_3fe6f_33 rfl cat_R ?_
  refine V_iconst dJ5_append_3fe6f_34 ?_
  refine V_iadd dJ5_append_3fe6f_35 ?_
  refine V_putI dJ5_append_3fe6f_36 f_RJ5_79 rfl H9.1 ?_
  refine V_iload_n dJ5_append_3fe6f_39 rfl ?_
  refine V_i2b (z := c) dJ5_append_3fe6f_40 (i2b_id (by omega)) ?_
  refine V_bast (j := n.toNat) dJ5_append_3fe6f_41 H9.2.2.2.2.2.1.1 (by omega) (by show _ < h_l h9 b9; rw [H9.2.2.2.2.2.1.2]; omega) (by show h_l h9 b9 ≤ _; rw [H9.2.2.2.2.2.1.2]; omega) (by omega) ?_
  refine V_goto (tgt := 75) dJ5_append_3fe6f_42 (by decide) ?_
  refine V_aload_n dJ5_append_3fe6f_75 rfl ?_
  refine V_aret dJ5_append_3fe6f_76 rfl (by first | exact Or.inl ⟨_, rfl⟩ | exact Or.inr ⟨_, rfl⟩) ?_
  exact ⟨rfl, h9, b9, C9, hEN, H9, hsb9, hm9, rfl⟩
theorem T_appC (g : GP) {h : AH} (s : Nat) (c n : Int) (b C : Nat) (T : Int → Int) (H : SB h s n b C T) (hbn : b ≠ h_n h) (hsn : s ≠ h_n h) (hsb : s ≠ b) (h1 : h_n h + 1 ≤ z_CC) (h2 : h_u h + 802 ≤ z_CS) (hc : 0 ≤ c ∧ c ≤ 127) (hn : n ≤ 98) : Tr g m_J4_append_cf468 6 [xR s, xI c] h (fun r h' => r = .inl (some (xR s)) ∧ ∃ h9 b9 C9, EN h h9 s b C b9 C9 (n + 1) ∧ SB h9 s n b9 C9 T ∧ s ≠ b9 ∧ n + 1 ≤ C9 ∧ h' = h_si (h_si h9 s 3 (n + 1)) b9 n.toNat c) := by
  refine Tr.ofV (by decide) rfl (fun v hv => by simp only [List.mem_cons, List.not_mem_nil, or_false] at hv; rcases hv with rfl | rfl <;> first | rfl | exact cat_R) (Nat.le_of_ble_eq_true rfl) ?_
  change V g m_J4_append_cf468 6 _ h 0 [xR s, xI c] []
  refine V_aload_n dJ4_append_cf468_0 rfl ?_
  refine V_iload_n dJ4_append_cf468_1 rfl ?_
  refine V_cU (as := [_]) dJ4_append_cf468_2 c_RJ4_50 (by decide) rfl (Nat.le_of_ble_eq_true rfl) H.1 (TrI.ofTr (T_appC5 g s c n b C T H hbn hsn hsb h1 h2 hc hn) (fun _ _ z => nomatch z.1)) (fun v9 h8 p9 => ?_)
  obtain ⟨p1, p2⟩ := p9
  cases p1
  refine V_pop dJ4_append_cf468_5 cat_R ?_
  refine V_aload_n dJ4_append_cf468_6 rfl ?_
  refine V_aret dJ4_append_cf468_7 rfl (by first | exact Or.inl ⟨_, rfl⟩ | exact Or.inr ⟨_, rfl⟩) ?_
  exact ⟨rfl, p2⟩
theorem dH_k {h : AH} {b : Nat} {x p : Int} : h_k (dH h b x p) = h_k h := by
  unfold dH
  split <;> rfl
theorem T_appI5 (g : GP) {h : AH} (s : Nat) (x n : Int) (b C : Nat) (T : Int → Int) (H : SB h s n b C T) (hbn : b ≠ h_n h) (hsn : s ≠ h_n h) (hsb : s ≠ b) (h1 : h_n h + 1 ≤ z_CC) (h2 : h_u h + 802 ≤ z_CS) (hx : 0 ≤ x ∧ x ≤ 99) (hn : n ≤ 98) : Tr g m_J5_append_c97b9 5 [xR s, xI x] h (fun r h' => r = .inl (some (xR s)) ∧ ∃ h9 b9 C9, EN h h9 s b C b9 C9 (n + (if x < 10 then 1 else 2)) ∧ SB h9 s n b9 C9 T ∧ s ≠ b9 ∧ (n + (if x < 10 then 1 else 2)) ≤ C9 ∧ h' = h_si (dH h9 b9 x (n + (if x < 10 then 1 else 2))) s 3 (n + (if x < 10 then 1 else 2))) := by
  refine Tr.ofV (by decide) rfl (fun v hv => by simp only [List.mem_cons, List.not_mem_nil, or_false] at hv; rcases hv with rfl | rfl <;> first | rfl | exact cat_R) (Nat.le_of_ble_eq_true rfl) ?_
  have hb := H.2.2.2.1
  change V g m_J5_append_c97b9 5 _ h 0 [xR s, xI x, xU, xU] []
  refine V_aload_n dJ5_append_c97b9_0 rfl ?_
  refine V_getIv (z := n) dJ5_append_c97b9_1 fg_RJ5_79 rfl H.1 H.2.2.1 ?_
  refine V_istore_n (lc' := [_, _, _, _]) dJ5_append_c97b9_4 (by decide) rfl ?_
  refine V_iload_n dJ5_append_c97b9_5 rfl ?_
  refine V_iload_n dJ5_append_c97b9_6 rfl ?_
  refine V_pS (as := [_]) dJ5_append_c97b9_7 c_RJ5_245 rfl (by decide) rfl (Nat.le_of_ble_eq_true rfl) (T_J6_stringSize_0f7a4 g x (by omega) (by omega)) ?_
  refine V_iadd dJ5_append_c97b9_10 ?_
  refine V_istore_n (lc' := [_, _, _, _]) dJ5_append_c97b9_11 (by decide) rfl ?_
  refine V_aload_n dJ5_append_c97b9_12 rfl ?_
  refine V_iload_n dJ5_append_c97b9_13 rfl ?_
  refine V_cV (as := [_]) dJ5_append_c97b9_14 c_RJ5_100 rfl (by decide) rfl (Nat.le_of_ble_eq_true rfl) H.1 (T_ensure g s ((n + (if x < 10 then 1 else 2))) n b C T H (by omega) hbn hsn h1 h2) (fun _ _ z => nomatch z.1) (fun v9 h9 p9 => ?_)
  obtain ⟨p1, p2⟩ := p9
  cases p1
  obtain ⟨b9, C9, hEN, H9, hsb9, hm9⟩ := EN.of H hbn hsn hsb (by omega) p2
  have hb9 := H9.2.2.2.1
  refine V_aload_n dJ5_append_c97b9_17 rfl ?_
  refine V_pV (as := []) dJ5_append_c97b9_18 c_RJ5_83 rfl (by decide) rfl (Nat.le_of_ble_eq_true rfl) H9.1 (T_J5_isLatin1_aae02 g s n b9 C9 T H9) ?_
  refine V_if_eq (tgt := 37) dJ5_append_c97b9_21 (by decide) (by decide) (fun q21 => absurd q21 (by decide)) (fun _ => ?_)
  refine V_iload_n dJ5_append_c97b9_24 rfl ?_
  refine V_iload_n dJ5_append_c97b9_25 rfl ?_
  refine V_aload_n dJ5_append_c97b9_26 rfl ?_
  refine V_getRv (v := b9) dJ5_append_c97b9_27 fg_RJ5_15 rfl H9.1 H9.2.1 ?_
  refine V_cS (as := [_, _, _]) dJ5_append_c97b9_30 c_RJ5_248 rfl (by decide) rfl (Nat.le_of_ble_eq_true rfl) (T_getChars g x (n + (if x < 10 then 1 else 2)) b9 hx H9.2.2.2.2.2.1.1 (by rw [H9.2.2.2.2.2.1.2]; omega) (by rw [H9.2.2.2.2.2.1.2]; omega)) (fun _ _ z => nomatch z.1.choose_spec) (fun v8 h8 p8 => ?_)
  obtain ⟨⟨z9, p1⟩, rfl⟩ := p8
  cases p1
  refine V_pop dJ5_append_c97b9_33 rfl ?_
  refine V_goto (tgt := 48) dJ5_append_c97b9_34 (by decide) ?_
  refine V_aload_n dJ5_append_c97b9_48 rfl ?_
  refine V_iload_n dJ5_append_c97b9_49 rfl ?_
  refine V_putI dJ5_append_c97b9_50 f_RJ5_79 rfl (by rw [dH_k]; exact H9.1) ?_
  refine V_aload_n dJ5_append_c97b9_53 rfl ?_
  refine V_aret dJ5_append_c97b9_54 rfl (by first | exact Or.inl ⟨_, rfl⟩ | exact Or.inr ⟨_, rfl⟩) ?_
  exact ⟨rfl, h9, b9, C9, hEN, H9, hsb9, hm9, rfl⟩
theorem T_appI (g : GP) {h : AH} (s : Nat) (x n : Int) (b C : Nat) (T : Int → Int) (H : SB h s n b C T) (hbn : b ≠ h_n h) (hsn : s ≠ h_n h) (hsb : s ≠ b) (h1 : h_n h + 1 ≤ z_CC) (h2 : h_u h + 802 ≤ z_CS) (hx : 0 ≤ x ∧ x ≤ 99) (hn : n ≤ 98) : Tr g m_J4_append_bf812 6 [xR s, xI x] h (fun r h' => r = .inl (some (xR s)) ∧ ∃ h9 b9 C9, EN h h9 s b C b9 C9 (n + (if x < 10 then 1 else 2)) ∧ SB h9 s n b9 C9 T ∧ s ≠ b9 ∧ (n + (if x < 10 then 1 else 2)) ≤ C9 ∧ h' = h_si (dH h9 b9 x (n + (if x < 10 then 1 else 2))) s 3 (n + (if x < 10 then 1 else 2))) := by
  refine Tr.ofV (by decide) rfl (fun v hv => by simp only [List.mem_cons, List.not_mem_nil, or_false] at hv; rcases hv with rfl | rfl <;> first | rfl | exact cat_R) (Nat.le_of_ble_eq_true rfl) ?_
  change V g m_J4_append_bf812 6 _ h 0 [xR s, xI x] []
  refine V_aload_n dJ4_append_bf812_0 rfl ?_
  refine V_iload_n dJ4_append_bf812_1 rfl ?_
  refine V_cU (as := [_]) dJ4_append_bf812_2 c_RJ4_53 (by decide) rfl (Nat.le_of_ble_eq_true rfl) H.1 (TrI.ofTr (T_appI5 g s x n b C T H hbn hsn hsb h1 h2 hx hn) (fun _ _ z => nomatch z.1)) (fun v9 h8 p9 => ?_)
  obtain ⟨p1, p2⟩ := p9
  cases p1
  refine V_pop dJ4_append_bf812_5 cat_R ?_
  refine V_aload_n dJ4_append_bf812_6 rfl ?_
  refine V_aret dJ4_append_bf812_7 rfl (by first | exact Or.inl ⟨_, rfl⟩ | exact Or.inr ⟨_, rfl⟩) ?_
  exact ⟨rfl, p2⟩
theorem T_setL5 (g : GP) {h : AH} (s : Nat) (n : Int) (b C : Nat) (T : Int → Int) (H : SB h s n b C T) (hbn : b ≠ h_n h) (hsn : s ≠ h_n h) (hsb : s ≠ b) (h1 : h_n h + 1 ≤ z_CC) (h2 : h_u h + 802 ≤ z_CS) : Tr g m_J5_setLength_d00df 5 [xR s, xI 0] h (fun r h' => r = .inl none ∧ (h' = h_si (h_si h s 2 1) s 3 0 ∨ h' = h_si h s 3 0)) := by
  refine Tr.ofV (by decide) rfl (fun v hv => by simp only [List.mem_cons, List.not_mem_nil, or_false] at hv; rcases hv with rfl | rfl <;> first | rfl | exact cat_R) (Nat.le_of_ble_eq_true rfl) ?_
  have hb := H.2.2.2.1
  change V g m_J5_setLength_d00df 5 _ h 0 [xR s, xI 0] []
  refine V_iload_n dJ5_setLength_d00df_0 rfl ?_
  refine V_if_ge (tgt := 13) dJ5_setLength_d00df_1 (by decide) (by decide) (fun _ => ?_) (fun q1 => absurd q1 (by decide))
  refine V_aload_n dJ5_setLength_d00df_13 rfl ?_
  refine V_iload_n dJ5_setLength_d00df_14 rfl ?_
  refine V_cV (as := [_]) dJ5_setLength_d00df_15 c_RJ5_100 rfl (by decide) rfl (Nat.le_of_ble_eq_true rfl) H.1 (T_ensure g s 0 n b C T H (by omega) hbn hsn h1 h2) (fun _ _ z => nomatch z.1) (fun v9 h9 p9 => ?_)
  obtain ⟨p1, p2⟩ := p9
  cases p1
  obtain rfl : h9 = h := by
    rcases p2 with ⟨-, p3⟩ | ⟨p3, -⟩
    · exact p3
    · omega
  refine V_aload_n dJ5_setLength_d00df_18 rfl ?_
  refine V_getIv (z := n) dJ5_setLength_d00df_19 fg_RJ5_79 rfl H.1 H.2.2.1 ?_
  refine V_iload_n dJ5_setLength_d00df_22 rfl ?_
  refine V_icmp_ge (tgt := 63) dJ5_setLength_d00df_23 (by decide) (by omega) (by omega) (fun q23 => ?_) (fun q23 => absurd q23 (by omega))
  refine V_aload_n dJ5_setLength_d00df_63 rfl ?_
  refine V_getIv (z := n) dJ5_setLength_d00df_64 fg_RJ5_79 rfl H.1 H.2.2.1 ?_
  refine V_iload_n dJ5_setLength_d00df_67 rfl ?_
  refine V_icmp_le (tgt := 76) dJ5_setLength_d00df_68 (by decide) (by omega) (by omega) (fun q68 => ?_) (fun q68 => ?_)
  · refine V_aload_n dJ5_setLength_d00df_76 rfl ?_
    refine V_iload_n dJ5_setLength_d00df_77 rfl ?_
    refine V_putI dJ5_setLength_d00df_78 f_RJ5_79 rfl H.1 ?_
    refine V_vret dJ5_setLength_d00df_81 rfl ?_
    first | exact ⟨rfl, Or.inl rfl⟩ | exact ⟨rfl, Or.inr rfl⟩
  · refine V_aload_n dJ5_setLength_d00df_71 rfl ?_
    refine V_iconst dJ5_setLength_d00df_72 ?_
    refine V_putZ dJ5_setLength_d00df_73 f_RJ5_73 (Or.inr rfl) rfl H.1 ?_
    refine V_aload_n dJ5_setLength_d00df_76 rfl ?_
    refine V_iload_n dJ5_setLength_d00df_77 rfl ?_
    refine V_putI dJ5_setLength_d00df_78 f_RJ5_79 rfl H.1 ?_
    refine V_vret dJ5_setLength_d00df_81 rfl ?_
    first | exact ⟨rfl, Or.inl rfl⟩ | exact ⟨rfl, Or.inr rfl⟩
theorem T_setL (g : GP) {h : AH} (s : Nat) (n : Int) (b C : Nat) (T : Int → Int) (H : SB h s n b C T) (hbn : b ≠ h_n h) (hsn : s ≠ h_n h) (hsb : s ≠ b) (h1 : h_n h + 1 ≤ z_CC) (h2 : h_u h + 802 ≤ z_CS) : Tr g m_J4_setLength_d00df 6 [xR s, xI 0] h (fun r h' => r = .inl none ∧ (h' = h_si (h_si h s 2 1) s 3 0 ∨ h' = h_si h s 3 0)) := by
  refine Tr.ofV (by decide) rfl (fun v hv => by simp only [List.mem_cons, List.not_mem_nil, or_false] at hv; rcases hv with rfl | rfl <;> first | rfl | exact cat_R) (Nat.le_of_ble_eq_true rfl) ?_
  change V g m_J4_setLength_d00df 6 _ h 0 [xR s, xI 0] []
  refine V_aload_n dJ4_setLength_d00df_0 rfl ?_
  refine V_iload_n dJ4_setLength_d00df_1 rfl ?_
  refine V_cU (as := [_]) dJ4_setLength_d00df_2 c_RJ4_333 (by decide) rfl (Nat.le_of_ble_eq_true rfl) H.1 (TrI.ofTr (T_setL5 g s n b C T H hbn hsn hsb h1 h2) (fun _ _ z => nomatch z.1)) (fun v9 h8 p9 => ?_)
  obtain ⟨p1, p2⟩ := p9
  cases p1
  refine V_vret dJ4_setLength_d00df_5 rfl ?_
  exact ⟨rfl, p2⟩
theorem T_cpoI (g : GP) {h : AH} (a C N : Nat) (ha : h_k h a = 22) (hl : h_l h a = C) (hC : C ≤ 1000) (hN : N ≤ C) (han : a ≠ h_n h) (h1 : h_n h + 1 ≤ z_CC) (h2 : h_u h + C ≤ z_CS) : Tr g m_J7_copyOf_59c91 3 [xR a, xI ((N : Nat) : Int)] h (fun r h' => r = .inl (some (xR (h_n h))) ∧ h' = if N = C then h_cl h a else h_ci (h_mk h 22 N N) a 0 (h_n h) 0 N) := by
  refine Tr.ofV (by decide) rfl (fun v hv => by simp only [List.mem_cons, List.not_mem_nil, or_false] at hv; rcases hv with rfl | rfl <;> first | rfl | exact cat_R) (Nat.le_of_ble_eq_true rfl) ?_
  by_cases c : N = C
  · skip
    change V g m_J7_copyOf_59c91 3 _ h 0 [xR a, xI ((N : Nat) : Int), xU] []
    refine V_iload_n dJ7_copyOf_59c91_0 rfl ?_
    refine V_aload_n dJ7_copyOf_59c91_1 rfl ?_
    refine V_alen (t := 2) dJ7_copyOf_59c91_2 ha (by omega) ?_
    rw [hl]
    refine V_icmp_ne (tgt := 14) dJ7_copyOf_59c91_3 (by decide) (by omega) (by omega) (fun q3 => absurd q3 (by omega)) (fun q3 => ?_)
    refine V_aload_n dJ7_copyOf_59c91_6 rfl ?_
    refine V_clone dJ7_copyOf_59c91_7 (by decide) (st4 (Nat.le_of_ble_eq_true rfl)) w_cl0 w_cl1 w_cl2 w_cl3 w_cl4 ha h1 (by rw [hl]; exact h2) ?_
    refine V_ckA (t := 2) dJ7_copyOf_59c91_10 k_RJ7_317 (by omega) (by decide) (by show u_1 h.1 (h_n h) (h_k h a) (h_n h) = 22; rw [u1_s]; exact ha) ?_
    refine V_aret dJ7_copyOf_59c91_13 rfl (by first | exact Or.inl ⟨_, rfl⟩ | exact Or.inr ⟨_, rfl⟩) ?_
    exact ⟨rfl, (if_pos c).symm⟩
  · skip
    change V g m_J7_copyOf_59c91 3 _ h 0 [xR a, xI ((N : Nat) : Int), xU] []
    refine V_iload_n dJ7_copyOf_59c91_0 rfl ?_
    refine V_aload_n dJ7_copyOf_59c91_1 rfl ?_
    refine V_alen (t := 2) dJ7_copyOf_59c91_2 ha (by omega) ?_
    rw [hl]
    refine V_icmp_ne (tgt := 14) dJ7_copyOf_59c91_3 (by decide) (by omega) (by omega) (fun q3 => ?_) (fun q3 => absurd q3 (by omega))
    refine V_iload_n dJ7_copyOf_59c91_14 rfl ?_
    refine V_newa2 (n := N) dJ7_copyOf_59c91_15 w_arr2 rfl (by omega) h1 (by omega) ?_
    refine V_astore_n (lc' := [_, _, _]) dJ7_copyOf_59c91_17 (by decide) rfl ?_
    refine V_aload_n dJ7_copyOf_59c91_18 rfl ?_
    refine V_iconst dJ7_copyOf_59c91_19 ?_
    refine V_aload_n dJ7_copyOf_59c91_20 rfl ?_
    refine V_iconst dJ7_copyOf_59c91_21 ?_
    refine V_aload_n dJ7_copyOf_59c91_22 rfl ?_
    refine V_alen (t := 2) dJ7_copyOf_59c91_23 ((mk_k han).trans ha) (by omega) ?_
    rw [mk_l han, hl]
    refine V_iload_n dJ7_copyOf_59c91_24 rfl ?_
    refine V_pS (as := [_, _]) dJ7_copyOf_59c91_25 c_RJ7_304 rfl (by decide) rfl (Nat.le_of_ble_eq_true rfl) (T_J9_min_7cf53 g ((C : Nat) : Int) ((N : Nat) : Int) (by omega) (by omega)) ?_
    refine V_cpI (t := 2) (by omega) (sp := 0) (dp := 0) (n := N) dJ7_copyOf_59c91_28 w_ac0 w_ac1 w_ac2 w_ac3 (by decide) (st4 (Nat.le_of_ble_eq_true rfl)) ((mk_k han).trans ha) mk_ks rfl rfl (by rw [if_pos (by omega)]) (by rw [mk_l han, hl]; omega) (by rw [mk_ls]; omega) (by rw [mk_l han, hl]; omega) (by rw [mk_ls]; omega) (fun i hi => rfl) ?_
    refine V_aload_n dJ7_copyOf_59c91_31 rfl ?_
    refine V_aret dJ7_copyOf_59c91_32 rfl (by first | exact Or.inl ⟨_, rfl⟩ | exact Or.inr ⟨_, rfl⟩) ?_
    exact ⟨rfl, (if_neg c).symm⟩
theorem I_asb (g : GP) {h : AH} (s : Nat) (hs : h_k h s = 2) (hs0 : s ≠ 0) (hsn : s ≠ h_n h) (h1 : h_n h + 1 ≤ z_CC) (h2 : h_u h + 16 ≤ z_CS) : TrI g m_J5_init_d00df 2 [xR s, xI 16] h (fun r h' => r = .inl none ∧ h' = h_si (h_sr (h_mk h 20 16 16) s 0 (h_n h)) s 1 0) := by
  refine TrI.ofTr ?_ (fun _ _ z => nomatch z.1)
  refine Tr.ofV (by decide) rfl (fun v hv => by simp only [List.mem_cons, List.not_mem_nil, or_false] at hv; rcases hv with rfl | rfl <;> first | rfl | exact cat_R) (Nat.le_of_ble_eq_true rfl) ?_
  change V g m_J5_init_d00df 2 _ h 0 [xR s, xI 16] []
  refine V_aload_n dJ5_init_d00df_0 rfl ?_
  refine V_objInit dJ5_init_d00df_1 w_ob_RJ5_3 w_ob1 w_ob2 (by decide) (st4 (Nat.le_of_ble_eq_true rfl)) hs0 ?_
  refine V_gsC dJ5_init_d00df_4 rfl w_cs_RJ5_18 ?_
  refine V_if_eq (tgt := 25) dJ5_init_d00df_7 (by decide) (by decide) (fun q7 => absurd q7 (by decide)) (fun _ => ?_)
  refine V_aload_n dJ5_init_d00df_10 rfl ?_
  refine V_iload_n dJ5_init_d00df_11 rfl ?_
  refine V_newa0 (n := 16) dJ5_init_d00df_12 w_arr0 rfl (by omega) h1 h2 ?_
  refine V_putR dJ5_init_d00df_14 f_RJ5_15 rfl rfl ((mk_k hsn).trans hs) ?_
  refine V_aload_n dJ5_init_d00df_17 rfl ?_
  refine V_iconst dJ5_init_d00df_18 ?_
  refine V_putB dJ5_init_d00df_19 f_RJ5_22 (by omega) rfl ((mk_k (k := 20) (n := 16) (N := 16) hsn).trans hs) ?_
  refine V_goto (tgt := 38) dJ5_init_d00df_22 (by decide) ?_
  refine V_vret dJ5_init_d00df_38 rfl ?_
  exact ⟨rfl, rfl⟩
theorem I_sb (g : GP) {h : AH} (s : Nat) (hs : h_k h s = 2) (hs0 : s ≠ 0) (hsn : s ≠ h_n h) (h1 : h_n h + 1 ≤ z_CC) (h2 : h_u h + 16 ≤ z_CS) : TrI g m_J4_init_da8c8 3 [xR s] h (fun r h' => r = .inl none ∧ h' = h_si (h_sr (h_mk h 20 16 16) s 0 (h_n h)) s 1 0) := by
  refine TrI.ofTr ?_ (fun _ _ z => nomatch z.1)
  refine Tr.ofV (by decide) rfl (fun v hv => by simp only [List.mem_cons, List.not_mem_nil, or_false] at hv; subst hv; exact cat_R) (Nat.le_of_ble_eq_true rfl) ?_
  change V g m_J4_init_da8c8 3 _ h 0 [xR s] []
  refine V_aload_n dJ4_init_da8c8_0 rfl ?_
  refine V_bipush dJ4_init_da8c8_1 (by decide) ?_
  refine V_cI (as := [_]) dJ4_init_da8c8_3 c_RJ4_1 rfl (by decide) rfl (Nat.le_of_ble_eq_true rfl) hs0 (I_asb g s hs hs0 hsn h1 h2) (fun v9 h9 p9 => ?_)
  obtain ⟨p1, p2⟩ := p9
  cases p1
  refine V_vret dJ4_init_da8c8_6 rfl ?_
  exact ⟨rfl, p2⟩

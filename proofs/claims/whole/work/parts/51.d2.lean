theorem i32_and {a b : Nat} : Int32.ofInt (a : Int) &&& Int32.ofInt (b : Int) = Int32.ofInt ((a &&& b : Nat) : Int) := by
  apply Int32.toBitVec_inj.mp
  show BitVec.ofInt 32 (a : Int) &&& BitVec.ofInt 32 (b : Int) = BitVec.ofInt 32 ((a &&& b : Nat) : Int)
  rw [BitVec.ofInt_natCast, BitVec.ofInt_natCast, BitVec.ofInt_natCast, BitVec.ofNat_and]
theorem i32_or {a b : Nat} : Int32.ofInt (a : Int) ||| Int32.ofInt (b : Int) = Int32.ofInt ((a ||| b : Nat) : Int) := by
  apply Int32.toBitVec_inj.mp
  show BitVec.ofInt 32 (a : Int) ||| BitVec.ofInt 32 (b : Int) = BitVec.ofInt 32 ((a ||| b : Nat) : Int)
  rw [BitVec.ofInt_natCast, BitVec.ofInt_natCast, BitVec.ofInt_natCast, BitVec.ofNat_or]
theorem i32_sh {w : Int} (h : 0 ≤ w ∧ w ≤ 29) : Int32.ofInt 1 <<< (Int32.ofInt w &&& 31) = Int32.ofInt ((2 ^ w.toNat : Nat) : Int) := by
  have key : ∀ n : Fin 30, Int32.ofInt 1 <<< (Int32.ofInt ((n : Nat) : Int) &&& 31) = Int32.ofInt ((2 ^ (n : Nat) : Nat) : Int) := by decide +kernel
  have := key ⟨w.toNat, by omega⟩
  simpa [Int.toNat_of_nonneg h.1] using this
theorem two_lt {w : Nat} (h : w ≤ 29) : 2 ^ w < 2 ^ 30 := Nat.pow_lt_pow_right (by decide) (by omega)
/-- the words of the row, as bits -/
def dBw (D : MS) : Nat → Nat
  | 0 => 0
  | n + 1 => dBw D n ||| 2 ^ (D 0 n).toNat
theorem dBw_s {D : MS} {k : Int} (h : 0 ≤ k) : dBw D (k + 1).toNat = dBw D k.toNat ||| 2 ^ (D 0 k).toNat := by
  rw [tnat h]
  show _ ||| _ = _
  rw [ntc h]
theorem dBw_r {D : MS} (hI : ID D) : ∀ n : Nat, dBw D n < 2 ^ 30 := by
  intro n
  induction n with
  | zero =>
    show 0 < 2 ^ 30
    decide
  | succ n ih => exact Nat.or_lt_two_pow ih (two_lt (by have := hI.a0 n; omega))
/-- a question's rank: bits met, sum -/
def dRk (D : MS) (q : Int) (b : Nat) : Nat → Nat × Int
  | 0 => (0, 0)
  | n + 1 => if b.testBit (D 40 (6 * q + n)).toNat then ((dRk D q b n).1 ||| 2 ^ (D 40 (6 * q + n)).toNat, (dRk D q b n).2 + (if (dRk D q b n).1.testBit (D 40 (6 * q + n)).toNat then 1 else 11)) else dRk D q b n
theorem dRk_s {D : MS} {q k : Int} {b : Nat} (h : 0 ≤ k) : dRk D q b (k + 1).toNat = if b.testBit (D 40 (6 * q + k)).toNat then ((dRk D q b k.toNat).1 ||| 2 ^ (D 40 (6 * q + k)).toNat, (dRk D q b k.toNat).2 + (if (dRk D q b k.toNat).1.testBit (D 40 (6 * q + k)).toNat then 1 else 11)) else dRk D q b k.toNat := by
  rw [tnat h]
  show (if _ then _ else _) = _
  rw [ntc h]
theorem dRk_r {D : MS} {q : Int} {b : Nat} (hI : ID D) : ∀ n : Nat, (dRk D q b n).1 < 2 ^ 30 ∧ 0 ≤ (dRk D q b n).2 ∧ (dRk D q b n).2 ≤ 11 * n := by
  intro n
  induction n with
  | zero => exact ⟨show 0 < 2 ^ 30 by decide, Int.le_refl _, Int.le_refl _⟩
  | succ n ih =>
    obtain ⟨a, b, c⟩ := ih
    unfold dRk
    split
    · refine ⟨Nat.or_lt_two_pow a (two_lt (by have := hI.a40 (6 * q + n); omega)), ?_, ?_⟩
      · dsimp only
        split <;> omega
      · dsimp only
        split <;> omega
    · exact ⟨a, b, by omega⟩
def dRank (D : MS) (q : Int) (b : Nat) : Int := (dRk D q b (D 41 q).toNat).2
theorem dRank_r {D : MS} {q : Int} {b : Nat} (hI : ID D) : 0 ≤ dRank D q b ∧ dRank D q b ≤ 66 := by
  have h1 := dRk_r (q := q) (b := b) hI (D 41 q).toNat
  have h2 := hI.a41 q
  unfold dRank
  omega
theorem and_pw {a w : Nat} : a &&& 2 ^ w = if a.testBit w then 2 ^ w else 0 := by
  apply Nat.eq_of_testBit_eq
  intro i
  rw [Nat.testBit_and, Nat.testBit_two_pow]
  by_cases e : w = i
  · subst e
    cases h : a.testBit w
    · simp
    · simp [Nat.testBit_two_pow]
  · cases h : a.testBit w
    · simp [e]
    · simp [e, Nat.testBit_two_pow]
theorem and_0 {a w : Nat} : ((a &&& 2 ^ w : Nat) : Int) = 0 ↔ a.testBit w = false := by
  rw [and_pw]
  have := Nat.two_pow_pos w
  cases h : a.testBit w
  · simp
  · rw [if_pos rfl]
    refine ⟨fun q => ?_, fun q => nomatch q⟩
    omega
theorem and_rg {a b : Nat} (h : a < 2 ^ 30) : -2147483648 ≤ ((a &&& b : Nat) : Int) ∧ ((a &&& b : Nat) : Int) ≤ 2147483647 := by
  have := Nat.and_le_left (n := a) (m := b)
  have e : (2 : Nat) ^ 30 = 1073741824 := by decide
  omega
noncomputable def dFw (D : MS) : Int := if dFst (fun j => D 60 j ≠ 115) (D 92 0).toNat < D 92 0 then dFst (fun j => D 60 j ≠ 115) (D 92 0).toNat else -1
noncomputable def dPl (D : MS) (r : Int) : Int := dFst (fun j => r ≤ D 27 (D 71 (40 * 0 + j))) (D 70 0).toNat
theorem T_X3_wordsOfRow (g : GP) {h : AH} {A : AD} {D : MS} {N U : Nat} (hM : DR h A D N U)   (hI : ID D) : TP g m_X3_wordsOfRow 1 [xR 8] h (xI ((dBw D (D 1 0).toNat : Nat) : Int)) := by
  refine TP.of (by decide) rfl (fun v hv => ?_) (Nat.le_of_ble_eq_true rfl) ?_
  · simp only [List.mem_cons, List.not_mem_nil, or_false] at hv
    subst hv; first | rfl | exact cat_R
  obtain ⟨i90, i91, i92⟩ := hI.n
  obtain ⟨c90, c91, c92⟩ := hI.c
  obtain ⟨⟨z90, -⟩, ⟨z91, -⟩, z92, -⟩ := hM.b.2.2.1
  change V g m_X3_wordsOfRow 1 _ h 0 [xR 8, xU, xU] []
  have b1 := hI.a1
  refine V_iconst dX3_wordsOfRow_0 ?_
  refine V_istore_n (lc' := [_, _, _]) dX3_wordsOfRow_1 (by decide) rfl ?_
  refine V_iconst dX3_wordsOfRow_2 ?_
  refine V_istore_n (lc' := [_, _, _]) dX3_wordsOfRow_3 (by decide) rfl ?_
  have lp4 : ∀ k4 : Int, ∀ n4 : Int, (0 ≤ k4 ∧ k4 ≤ D 1 0 ∧ n4 = ((dBw D k4.toNat : Nat) : Int)) → V g m_X3_wordsOfRow 1 (fun r9 h9 => r9 = .inl (some (xI ((dBw D (D 1 0).toNat : Nat) : Int))) ∧ h9 = h) h 4 [xR 8, xI n4, xI k4] [] := by
    refine lp_up (D 1 0) (fun k4 ih4 => ?_)
    intro n4 hk
    obtain ⟨k4l, k4u, k4e⟩ := hk
    refine V_iload_n dX3_wordsOfRow_4 rfl ?_
    refine V_aload_n dX3_wordsOfRow_5 rfl ?_
    refine V_dg (f := 8) (F := 1) (i := 0) (t := 0) (w := D 1 0) dX3_wordsOfRow_6 fg_RX3_53 rfl rfl rfl hM.fx.1 hM (vFx (by decide)) rfl (fun r6 => ?_)
    have b6 := hI.a1
    refine V_icmp_ge (tgt := 35) dX3_wordsOfRow_9 (by decide) (by omega) (by omega) (fun q9 => ?_) (fun q9 => ?_)
    · refine V_iload_n dX3_wordsOfRow_35 rfl ?_
      refine V_iret dX3_wordsOfRow_36 rfl ?_
      exact ⟨by rw [k4e, show k4 = D 1 0 by omega], rfl⟩
    · refine V_iload_n dX3_wordsOfRow_12 rfl ?_
      refine V_bipush dX3_wordsOfRow_13 (by decide) ?_
      refine V_icmp_ge (tgt := 35) dX3_wordsOfRow_15 (by decide) (by omega) (by omega) (fun q15 => ?_) (fun q15 => ?_)
      · refine V_iload_n dX3_wordsOfRow_35 rfl ?_
        refine V_iret dX3_wordsOfRow_36 rfl ?_
        exact ⟨by rw [k4e, show k4 = D 1 0 by omega], rfl⟩
      · refine V_iload_n dX3_wordsOfRow_18 rfl ?_
        refine V_iconst dX3_wordsOfRow_19 ?_
        refine V_aload_n dX3_wordsOfRow_20 rfl ?_
        refine V_dgr (f := 8) (i := 0) (b := 9) dX3_wordsOfRow_21 fg_RX3_9 rfl rfl hM.fx.1 hM (vAx (by decide)) hM.s.1.1 ?_
        refine V_iload_n dX3_wordsOfRow_24 rfl ?_
        refine V_dai (f := 9) (F := 0) (i := 0) (t := k4) (n := 6) (w := D 0 k4) dX3_wordsOfRow_25 rfl rfl hM.fx.2.1 hM (vFw (by omega)) (by rw [hM.s.2.1]; rfl) (by omega) (by omega) rfl (fun r25 => ?_)
        have b25 := hI.a0 k4
        refine V_ishl dX3_wordsOfRow_26 (i32_sh b25) ?_
        rw [k4e]
        refine V_ior dX3_wordsOfRow_27 i32_or ?_
        refine V_istore_n (lc' := [_, _, _]) dX3_wordsOfRow_28 (by decide) rfl ?_
        refine V_iinc (lc' := [_, _, _]) dX3_wordsOfRow_29 rfl (by decide) rfl ?_
        refine V_goto (tgt := 4) dX3_wordsOfRow_32 (by decide) ?_
        exact ih4 (by omega) ((dBw D k4.toNat ||| 2 ^ (D 0 k4).toNat : Nat) : Int) ⟨by omega, by omega, by rw [dBw_s k4l]⟩
  exact lp4 0 0 ⟨by omega, by omega, rfl⟩
theorem T_X1_rankFor (g : GP) {h : AH} {A : AD} {D : MS} {N U : Nat} (hM : DR h A D N U) (q : Int) (x : Int) (r_x : -2147483648 ≤ x ∧ x ≤ 2147483647) (hI : ID D) (h1 : 0 ≤ q ∧ q < D 90 0) (b : Nat) (hx : x = ((b : Nat) : Int)) (hb : b < 2 ^ 30) : TP g m_X1_rankFor 1 [xR (A 0 q), xI x] h (xI (dRank D q b)) := by
  refine TP.of (by decide) rfl (fun v hv => ?_) (Nat.le_of_ble_eq_true rfl) ?_
  · simp only [List.mem_cons, List.not_mem_nil, or_false] at hv
    rcases hv with rfl | rfl <;> first | rfl | exact cat_R
  obtain ⟨i90, i91, i92⟩ := hI.n
  obtain ⟨c90, c91, c92⟩ := hI.c
  obtain ⟨⟨z90, -⟩, ⟨z91, -⟩, z92, -⟩ := hM.b.2.2.1
  change V g m_X1_rankFor 1 _ h 0 [xR (A 0 q), xI x, xU, xU, xU, xU, xU, xU, xU] []
  have b41 := hI.a41 q
  refine V_iconst dX1_rankFor_0 ?_
  refine V_istore_n (lc' := [_, _, _, _, _, _, _, _, _]) dX1_rankFor_1 (by decide) rfl ?_
  refine V_iconst dX1_rankFor_2 ?_
  refine V_istore_n (lc' := [_, _, _, _, _, _, _, _, _]) dX1_rankFor_3 (by decide) rfl ?_
  refine V_aload_n dX1_rankFor_4 rfl ?_
  refine V_dgr (f := 0) (i := q) (b := (A 1 q)) dX1_rankFor_5 fg_RX1_22 rfl rfl rfl hM (vAq (by decide) (by omega)) (hM.s.2.2.1 q (by omega)).1 ?_
  refine V_astore (lc' := [_, _, _, _, _, _, _, _, _]) dX1_rankFor_8 (by decide) rfl ?_
  refine V_aload dX1_rankFor_10 rfl ?_
  refine V_alen (t := 2) dX1_rankFor_12 (hM.kd (f := 1) (vAq (by decide) (by omega))) (by omega) ?_
  rw [(hM.s.2.2.1 q (by omega)).2.2.1]
  have b12 := hI.a41 q
  refine V_istore (lc' := [_, _, _, _, _, _, _, _, _]) dX1_rankFor_13 (by decide) rfl ?_
  refine V_iconst dX1_rankFor_15 ?_
  refine V_istore (lc' := [_, _, _, _, _, _, _, _, _]) dX1_rankFor_16 (by decide) rfl ?_
  have lp18 : ∀ k18 : Int, ∀ n18 : Int, ∀ s18 : Int, (0 ≤ k18 ∧ k18 ≤ D 41 q ∧ n18 = (((dRk D q b k18.toNat).1 : Nat) : Int) ∧ s18 = (dRk D q b k18.toNat).2) → V g m_X1_rankFor 1 (fun r9 h9 => r9 = .inl (some (xI (dRank D q b))) ∧ h9 = h) h 18 [xR (A 0 q), xI x, xI n18, xI s18, xR (A 1 q), xI (D 41 q), xI k18, xU, xU] [] := by
    refine lp_up (D 41 q) (fun k18 ih18 => ?_)
    intro n18 s18 hk
    obtain ⟨k18l, k18u, k18n, k18s⟩ := hk
    have r18 := dRk_r (q := q) (b := b) hI k18.toNat
    refine V_iload dX1_rankFor_18 rfl ?_
    refine V_iload dX1_rankFor_20 rfl ?_
    refine V_icmp_ge (tgt := 72) dX1_rankFor_22 (by decide) (by omega) (by omega) (fun q22 => ?_) (fun q22 => ?_)
    · refine V_iload_n dX1_rankFor_72 rfl ?_
      refine V_iret dX1_rankFor_73 rfl ?_
      exact ⟨by rw [k18s, show k18 = D 41 q by omega]; rfl, rfl⟩
    · refine V_aload dX1_rankFor_25 rfl ?_
      refine V_iload dX1_rankFor_27 rfl ?_
      refine V_dai (f := 1) (F := 40) (i := q) (t := (6 * q + k18)) (n := (D 41 q)) (w := D 40 (6 * q + k18)) dX1_rankFor_29 rfl (lf_w (by omega)) rfl hM (vF_w (by omega) (by omega) (by omega)) (hM.s.2.2.1 q (by omega)).2.2.1 (by omega) (by omega) rfl (fun r29 => ?_)
      have b29 := hI.a40 (6 * q + k18)
      refine V_istore (lc' := [_, _, _, _, _, _, _, _, _]) dX1_rankFor_30 (by decide) rfl ?_
      refine V_iconst dX1_rankFor_32 ?_
      refine V_iload dX1_rankFor_33 rfl ?_
      refine V_ishl dX1_rankFor_35 (i32_sh b29) ?_
      refine V_istore (lc' := [_, _, _, _, _, _, _, _, _]) dX1_rankFor_36 (by decide) rfl ?_
      refine V_iload_n dX1_rankFor_38 rfl ?_
      refine V_iload dX1_rankFor_39 rfl ?_
      refine V_iand dX1_rankFor_41 (by rw [hx]; exact i32_and) ?_
      refine V_if_eq (tgt := 66) dX1_rankFor_42 (by decide) (and_rg hb) (fun q42 => ?_) (fun q42 => ?_)
      · have q42 : ¬ (b.testBit (D 40 (6 * q + k18)).toNat = true) := by rw [and_0.mp q42]; decide
        refine V_iinc (lc' := [_, _, _, _, _, _, _, _, _]) dX1_rankFor_66 rfl (by decide) rfl ?_
        refine V_goto (tgt := 18) dX1_rankFor_69 (by decide) ?_
        refine V_wk (lc' := [_, _, _, _, _, _, _, xU, xU]) ⟨Or.inr rfl, Or.inr rfl, Or.inr rfl, Or.inr rfl, Or.inr rfl, Or.inr rfl, Or.inr rfl, Or.inl rfl, Or.inl rfl, trivial⟩ ?_
        exact ih18 (by omega) n18 s18 ⟨by omega, by omega, by rw [dRk_s k18l, if_neg q42]; exact k18n, by rw [dRk_s k18l, if_neg q42, k18s]⟩
      · have q42 : b.testBit (D 40 (6 * q + k18)).toNat = true := by
          cases w : b.testBit (D 40 (6 * q + k18)).toNat
          · exact absurd (and_0.mpr w) q42
          · rfl
        refine V_iload_n dX1_rankFor_45 rfl ?_
        refine V_iload_n dX1_rankFor_46 rfl ?_
        refine V_iload dX1_rankFor_47 rfl ?_
        refine V_iand dX1_rankFor_49 (by rw [k18n]; exact i32_and) ?_
        refine V_if_ne (tgt := 58) dX1_rankFor_50 (by decide) (and_rg r18.1) (fun q50 => ?_) (fun q50 => ?_)
        · have q50 : (dRk D q b k18.toNat).1.testBit (D 40 (6 * q + k18)).toNat = true := by
            cases w : (dRk D q b k18.toNat).1.testBit (D 40 (6 * q + k18)).toNat
            · exact absurd (and_0.mpr w) q50
            · rfl
          refine V_iconst dX1_rankFor_58 ?_
          refine V_iadd dX1_rankFor_59 ?_
          refine V_istore_n (lc' := [_, _, _, _, _, _, _, _, _]) dX1_rankFor_60 (by decide) rfl ?_
          refine V_iload_n dX1_rankFor_61 rfl ?_
          refine V_iload dX1_rankFor_62 rfl ?_
          refine V_ior dX1_rankFor_64 (by rw [k18n]; exact i32_or) ?_
          refine V_istore_n (lc' := [_, _, _, _, _, _, _, _, _]) dX1_rankFor_65 (by decide) rfl ?_
          refine V_iinc (lc' := [_, _, _, _, _, _, _, _, _]) dX1_rankFor_66 rfl (by decide) rfl ?_
          refine V_goto (tgt := 18) dX1_rankFor_69 (by decide) ?_
          refine V_wk (lc' := [_, _, _, _, _, _, _, xU, xU]) ⟨Or.inr rfl, Or.inr rfl, Or.inr rfl, Or.inr rfl, Or.inr rfl, Or.inr rfl, Or.inr rfl, Or.inl rfl, Or.inl rfl, trivial⟩ ?_
          exact ih18 (by omega) (((dRk D q b k18.toNat).1 ||| 2 ^ (D 40 (6 * q + k18)).toNat : Nat) : Int) (s18 + 1) ⟨by omega, by omega, by rw [dRk_s k18l, if_pos q42] , by rw [dRk_s k18l, if_pos q42, k18s]; first | rw [if_pos q50] | rw [if_neg q50]⟩
        · have q50 : ¬ ((dRk D q b k18.toNat).1.testBit (D 40 (6 * q + k18)).toNat = true) := by rw [and_0.mp q50]; decide
          refine V_bipush dX1_rankFor_53 (by decide) ?_
          refine V_goto (tgt := 59) dX1_rankFor_55 (by decide) ?_
          refine V_iadd dX1_rankFor_59 ?_
          refine V_istore_n (lc' := [_, _, _, _, _, _, _, _, _]) dX1_rankFor_60 (by decide) rfl ?_
          refine V_iload_n dX1_rankFor_61 rfl ?_
          refine V_iload dX1_rankFor_62 rfl ?_
          refine V_ior dX1_rankFor_64 (by rw [k18n]; exact i32_or) ?_
          refine V_istore_n (lc' := [_, _, _, _, _, _, _, _, _]) dX1_rankFor_65 (by decide) rfl ?_
          refine V_iinc (lc' := [_, _, _, _, _, _, _, _, _]) dX1_rankFor_66 rfl (by decide) rfl ?_
          refine V_goto (tgt := 18) dX1_rankFor_69 (by decide) ?_
          refine V_wk (lc' := [_, _, _, _, _, _, _, xU, xU]) ⟨Or.inr rfl, Or.inr rfl, Or.inr rfl, Or.inr rfl, Or.inr rfl, Or.inr rfl, Or.inr rfl, Or.inl rfl, Or.inl rfl, trivial⟩ ?_
          exact ih18 (by omega) (((dRk D q b k18.toNat).1 ||| 2 ^ (D 40 (6 * q + k18)).toNat : Nat) : Int) (s18 + 11) ⟨by omega, by omega, by rw [dRk_s k18l, if_pos q42] , by rw [dRk_s k18l, if_pos q42, k18s]; first | rw [if_pos q50] | rw [if_neg q50]⟩
  exact lp18 0 0 0 ⟨by omega, by omega, rfl, rfl⟩
theorem T_X3_placeAmongHits (g : GP) {h : AH} {A : AD} {D : MS} {N U : Nat} (hM : DR h A D N U) (r : Int) (r_r : -2147483648 ≤ r ∧ r ≤ 2147483647) (hI : ID D) : TP g m_X3_placeAmongHits 4 [xR 8, xI r] h (xI (dPl D r)) := by
  refine TP.of (by decide) rfl (fun v hv => ?_) (Nat.le_of_ble_eq_true rfl) ?_
  · simp only [List.mem_cons, List.not_mem_nil, or_false] at hv
    rcases hv with rfl | rfl <;> first | rfl | exact cat_R
  obtain ⟨i90, i91, i92⟩ := hI.n
  obtain ⟨c90, c91, c92⟩ := hI.c
  obtain ⟨⟨z90, -⟩, ⟨z91, -⟩, z92, -⟩ := hM.b.2.2.1
  change V g m_X3_placeAmongHits 4 _ h 0 [xR 8, xI r, xU] []
  have b70 := hI.a70 0
  refine V_iconst dX3_placeAmongHits_0 ?_
  refine V_istore_n (lc' := [_, _, _]) dX3_placeAmongHits_1 (by decide) rfl ?_
  have lp2 : ∀ k2 : Int, (0 ≤ k2 ∧ k2 ≤ D 70 0 ∧ ∀ j : Int, 0 ≤ j → j < k2 → r ≤ D 27 (D 71 (40 * 0 + j))) → V g m_X3_placeAmongHits 4 (fun r9 h9 => r9 = .inl (some (xI (dPl D r))) ∧ h9 = h) h 2 [xR 8, xI r, xI k2] [] := by
    refine lp_up (D 70 0) (fun k2 ih2 => ?_)
    intro hk
    obtain ⟨k2l, k2u, k2A⟩ := hk
    refine V_iload_n dX3_placeAmongHits_2 rfl ?_
    refine V_aload_n dX3_placeAmongHits_3 rfl ?_
    refine V_dgr (f := 8) (i := 0) (b := (A 6 0)) dX3_placeAmongHits_4 fg_RX3_20 rfl rfl hM.fx.1 hM (vAx (by decide)) (hM.s.1.2.2.1.trans hM.fx.2.2.2.2.1.symm) ?_
    refine V_dSz (l := 0) (w := D 70 0) dX3_placeAmongHits_7 c_RX3_69 rfl (by decide) (Nat.le_of_ble_eq_true rfl) rfl hM (vL0 (by decide)) rfl (fun r7 => ?_)
    refine V_icmp_ge (tgt := 37) dX3_placeAmongHits_10 (by decide) (by omega) (by omega) (fun q10 => ?_) (fun q10 => ?_)
    · refine V_iload_n dX3_placeAmongHits_37 rfl ?_
      refine V_iret dX3_placeAmongHits_38 rfl ?_
      refine ⟨congrArg (fun z => (Sum.inl (some (xI z)) : Res)) (Eq.symm ?_), rfl⟩
      unfold dPl
      first | exact dFst_at k2l k2A (show ¬ (r ≤ D 27 (D 71 (40 * 0 + k2))) by omega) (D 70 0).toNat (by omega) | (rw [dFst_no (D 70 0).toNat (fun j a b => k2A j a (by omega))]; omega)
    · refine V_aload_n dX3_placeAmongHits_13 rfl ?_
      refine V_dgr (f := 8) (i := 0) (b := (A 6 0)) dX3_placeAmongHits_14 fg_RX3_20 rfl rfl hM.fx.1 hM (vAx (by decide)) (hM.s.1.2.2.1.trans hM.fx.2.2.2.2.1.symm) ?_
      refine V_iload_n dX3_placeAmongHits_17 rfl ?_
      refine V_dGq (l := 0) dX3_placeAmongHits_18 c_RX3_132 rfl (by decide) (Nat.le_of_ble_eq_true rfl) rfl hM (vL0 (by decide)) (by omega) (by decide) (fun g18 => ?_)
      refine V_ckc dX3_placeAmongHits_21 k_RX3_75 (hM.kd (f := 0) (vAq (by decide) (by omega))) ?_
      refine V_dg (f := 0) (F := 27) (i := D 71 (40 * 0 + k2)) (t := D 71 (40 * 0 + k2)) (w := D 27 (D 71 (40 * 0 + k2))) dX3_placeAmongHits_24 fg_RX3_140 rfl rfl rfl rfl hM (vFq (by decide) (by omega)) rfl (fun r24 => ?_)
      have b24 := hI.a27 (D 71 (40 * 0 + k2))
      refine V_iload_n dX3_placeAmongHits_27 rfl ?_
      refine V_icmp_lt (tgt := 37) dX3_placeAmongHits_28 (by decide) (by omega) (by omega) (fun q28 => ?_) (fun q28 => ?_)
      · refine V_iload_n dX3_placeAmongHits_37 rfl ?_
        refine V_iret dX3_placeAmongHits_38 rfl ?_
        refine ⟨congrArg (fun z => (Sum.inl (some (xI z)) : Res)) (Eq.symm ?_), rfl⟩
        unfold dPl
        first | exact dFst_at k2l k2A (show ¬ (r ≤ D 27 (D 71 (40 * 0 + k2))) by omega) (D 70 0).toNat (by omega) | (rw [dFst_no (D 70 0).toNat (fun j a b => k2A j a (by omega))]; omega)
      · refine V_iinc (lc' := [_, _, _]) dX3_placeAmongHits_31 rfl (by decide) rfl ?_
        refine V_goto (tgt := 2) dX3_placeAmongHits_34 (by decide) ?_
        exact ih2 (by omega) ⟨by omega, by omega, all_succ k2A (by first | assumption | omega)⟩
  exact lp2 0 ⟨by omega, by omega, fun j a b => absurd b (by omega)⟩
theorem T_X3_countTwins (g : GP) {h : AH} {A : AD} {D : MS} {N U : Nat} (hM : DR h A D N U) (q : Int)  (hI : ID D) (h1 : 0 ≤ q ∧ q < D 90 0) : TP g m_X3_countTwins 4 [xR 8, xR (A 0 q)] h (xI (dCtN D q (D 90 0).toNat)) := by
  refine TP.of (by decide) rfl (fun v hv => ?_) (Nat.le_of_ble_eq_true rfl) ?_
  · simp only [List.mem_cons, List.not_mem_nil, or_false] at hv
    rcases hv with rfl | rfl <;> first | rfl | exact cat_R
  obtain ⟨i90, i91, i92⟩ := hI.n
  obtain ⟨c90, c91, c92⟩ := hI.c
  obtain ⟨⟨z90, -⟩, ⟨z91, -⟩, z92, -⟩ := hM.b.2.2.1
  change V g m_X3_countTwins 4 _ h 0 [xR 8, xR (A 0 q), xU, xU] []
  refine V_iconst dX3_countTwins_0 ?_
  refine V_istore_n (lc' := [_, _, _, _]) dX3_countTwins_1 (by decide) rfl ?_
  refine V_iconst dX3_countTwins_2 ?_
  refine V_istore_n (lc' := [_, _, _, _]) dX3_countTwins_3 (by decide) rfl ?_
  have lp4 : ∀ k4 : Int, ∀ n4 : Int, (0 ≤ k4 ∧ k4 ≤ D 90 0 ∧ n4 = dCtN D q k4.toNat) → V g m_X3_countTwins 4 (fun r9 h9 => r9 = .inl (some (xI (dCtN D q (D 90 0).toNat))) ∧ h9 = h) h 4 [xR 8, xR (A 0 q), xI n4, xI k4] [] := by
    refine lp_up (D 90 0) (fun k4 ih4 => ?_)
    intro n4 hk
    obtain ⟨k4l, k4u, k4e⟩ := hk
    refine V_iload_n dX3_countTwins_4 rfl ?_
    refine V_aload_n dX3_countTwins_5 rfl ?_
    refine V_dgr (f := 8) (i := 0) (b := 10) dX3_countTwins_6 fg_RX3_16 rfl rfl hM.fx.1 hM (vAx (by decide)) hM.s.1.2.1 ?_
    refine V_dSz (l := 45) (w := D 70 45) dX3_countTwins_9 c_RX3_69 rfl (by decide) (Nat.le_of_ble_eq_true rfl) hM.fx.2.2.2.1 hM (vL4 (by decide)) rfl (fun r9 => ?_)
    refine V_icmp_ge (tgt := 57) dX3_countTwins_12 (by decide) (by omega) (by omega) (fun q12 => ?_) (fun q12 => ?_)
    · refine V_iload_n dX3_countTwins_57 rfl ?_
      refine V_iret dX3_countTwins_58 rfl ?_
      exact ⟨by rw [k4e, show k4 = D 90 0 by omega], rfl⟩
    · refine V_aload_n dX3_countTwins_15 rfl ?_
      refine V_dgr (f := 8) (i := 0) (b := 10) dX3_countTwins_16 fg_RX3_16 rfl rfl hM.fx.1 hM (vAx (by decide)) hM.s.1.2.1 ?_
      refine V_iload_n dX3_countTwins_19 rfl ?_
      refine V_dG45 dX3_countTwins_20 c_RX3_132 rfl (by decide) (Nat.le_of_ble_eq_true rfl) hM (by omega) (rfl.trans (hI.q (by omega))) ?_
      refine V_aload_n dX3_countTwins_23 rfl ?_
      refine V_acmp_eq (tgt := 51) dX3_countTwins_24 (by decide) (Or.inr ⟨(Or.inr (Or.inl (hM.ge (vAq (by decide) (by omega))).1)), (Or.inr (Or.inl (hM.ge (vAq (by decide) (by omega))).1))⟩) (fun q24 => ?_) (fun q24 => ?_)
      · have e24 := (hM.inj (vAq (by decide) (by omega)) (vAq (by decide) (by omega)) q24).2
        refine V_iinc (lc' := [_, _, _, _]) dX3_countTwins_51 rfl (by decide) rfl ?_
        refine V_goto (tgt := 4) dX3_countTwins_54 (by decide) ?_
        exact ih4 (by omega) n4 ⟨by omega, by omega, by rw [dCtN_s k4l, ← k4e]; first | rw [if_pos (by omega)] | (rw [if_neg (by omega)]; omega)⟩
      · have e24 : k4 ≠ q := fun w => q24 (by rw [w])
        refine V_aload_n dX3_countTwins_27 rfl ?_
        refine V_dgr (f := 8) (i := 0) (b := 10) dX3_countTwins_28 fg_RX3_16 rfl rfl hM.fx.1 hM (vAx (by decide)) hM.s.1.2.1 ?_
        refine V_iload_n dX3_countTwins_31 rfl ?_
        refine V_dG45 dX3_countTwins_32 c_RX3_132 rfl (by decide) (Nat.le_of_ble_eq_true rfl) hM (by omega) (rfl.trans (hI.q (by omega))) ?_
        refine V_ckc dX3_countTwins_35 k_RX3_75 (hM.kd (f := 0) (vAq (by decide) (by omega))) ?_
        refine V_dg (f := 0) (F := 26) (i := k4) (t := k4) (w := D 26 k4) dX3_countTwins_38 fg_RX3_99 rfl rfl rfl rfl hM (vFq (by decide) (by omega)) rfl (fun r38 => ?_)
        have b38 := hI.a26 k4
        refine V_aload_n dX3_countTwins_41 rfl ?_
        refine V_dg (f := 0) (F := 26) (i := q) (t := q) (w := D 26 q) dX3_countTwins_42 fg_RX3_99 rfl rfl rfl rfl hM (vFq (by decide) (by omega)) rfl (fun r42 => ?_)
        have b42 := hI.a26 q
        refine V_icmp_ne (tgt := 51) dX3_countTwins_45 (by decide) (by omega) (by omega) (fun q45 => ?_) (fun q45 => ?_)
        · refine V_iinc (lc' := [_, _, _, _]) dX3_countTwins_51 rfl (by decide) rfl ?_
          refine V_goto (tgt := 4) dX3_countTwins_54 (by decide) ?_
          exact ih4 (by omega) n4 ⟨by omega, by omega, by rw [dCtN_s k4l, ← k4e]; first | rw [if_pos (by omega)] | (rw [if_neg (by omega)]; omega)⟩
        · refine V_iinc (lc' := [_, _, _, _]) dX3_countTwins_48 rfl (by decide) rfl ?_
          refine V_iinc (lc' := [_, _, _, _]) dX3_countTwins_51 rfl (by decide) rfl ?_
          refine V_goto (tgt := 4) dX3_countTwins_54 (by decide) ?_
          exact ih4 (by omega) (n4 + 1) ⟨by omega, by omega, by rw [dCtN_s k4l, ← k4e]; first | rw [if_pos (by omega)] | (rw [if_neg (by omega)]; omega)⟩
  exact lp4 0 0 ⟨by omega, by omega, rfl⟩
theorem T_X3_isFit (g : GP) {h : AH} {A : AD} {D : MS} {N U : Nat} (hM : DR h A D N U) (p : Int) (i : Int) (r_i : -2147483648 ≤ i ∧ i ≤ 2147483647) (hI : ID D) (h1 : 0 ≤ p ∧ p < D 91 0) (h2 : 0 ≤ i ∧ i < D 70 (3 + p)) : TP g m_X3_isFit 5 [xR (A 3 p), xI i] h (xI (pI (dFit D p i))) := by
  refine TP.of (by decide) rfl (fun v hv => ?_) (Nat.le_of_ble_eq_true rfl) ?_
  · simp only [List.mem_cons, List.not_mem_nil, or_false] at hv
    rcases hv with rfl | rfl <;> first | rfl | exact cat_R
  obtain ⟨i90, i91, i92⟩ := hI.n
  obtain ⟨c90, c91, c92⟩ := hI.c
  obtain ⟨⟨z90, -⟩, ⟨z91, -⟩, z92, -⟩ := hM.b.2.2.1
  change V g m_X3_isFit 5 _ h 0 [xR (A 3 p), xI i, xU] []
  refine V_aload_n dX3_isFit_0 rfl ?_
  refine V_dgr (f := 3) (i := p) (b := (A 6 (3 + p))) dX3_isFit_1 fg_RX3_183 rfl rfl rfl hM (vAp (by omega)) (hM.s.2.2.2.1 p (by omega)) ?_
  refine V_iload_n dX3_isFit_4 rfl ?_
  refine V_pS (as := [_, _]) dX3_isFit_5 c_RX3_190 rfl (by decide) rfl (Nat.le_of_ble_eq_true rfl) (T_X3_elementOf g hM (3 + p) i (by omega) (vLp (by omega)) (by omega) (by omega)) ?_
  have g5 := hM.le2 (l := (3 + p)) (by omega) (vLp (by omega)) (z := i) (by omega)
  refine V_astore_n (lc' := [_, _, _]) dX3_isFit_8 (by decide) rfl ?_
  refine V_aload_n dX3_isFit_9 rfl ?_
  refine V_pV (as := []) dX3_isFit_10 c_RX3_122 rfl (by decide) rfl (Nat.le_of_ble_eq_true rfl) (hM.kd (f := 0) (vAq (by decide) (by omega))) (T_X1_kindNow g hM (D 71 (40 * (3 + p) + i)) hI (by omega)) ?_
  have t10 := sKd_r (D 23 (D 71 (40 * (3 + p) + i)))
  
  refine V_aload_n dX3_isFit_13 rfl ?_
  refine V_dg (f := 3) (F := 51) (i := p) (t := p) (w := D 51 p) dX3_isFit_14 fg_RX3_340 rfl rfl rfl rfl hM (vFp (by decide) (by omega)) rfl (fun r14 => ?_)
  have b14 := hI.a51 p
  refine V_icmp_ne (tgt := 36) dX3_isFit_17 (by decide) (by omega) (by omega) (fun q17 => ?_) (fun q17 => ?_)
  · refine V_iconst dX3_isFit_36 ?_
    refine V_zret (by first | exact pI_01 _ | omega) dX3_isFit_37 rfl ?_
    exact ⟨by rw [pI_f (fun e => by first | exact q17 e.1 | exact e.2 q29)], rfl⟩
  · refine V_aload_n dX3_isFit_20 rfl ?_
    refine V_dgr (f := 3) (i := p) (b := (A 6 (3 + p))) dX3_isFit_21 fg_RX3_183 rfl rfl rfl hM (vAp (by omega)) (hM.s.2.2.2.1 p (by omega)) ?_
    refine V_iload_n dX3_isFit_24 rfl ?_
    refine V_aload_n dX3_isFit_25 rfl ?_
    refine V_pS (as := [_, _, _]) dX3_isFit_26 c_RX3_343 rfl (by decide) rfl (Nat.le_of_ble_eq_true rfl) (T_X3_hasRelative g hM (3 + p) i (D 71 (40 * (3 + p) + i)) (by omega) hI (vLp (by omega)) (by omega) (by omega)) ?_
    refine V_ifb_ne (tgt := 36) dX3_isFit_29 (by decide) (fun q29 => ?_) (fun q29 => ?_)
    · refine V_iconst dX3_isFit_36 ?_
      refine V_zret (by first | exact pI_01 _ | omega) dX3_isFit_37 rfl ?_
      exact ⟨by rw [pI_f (fun e => by first | exact q17 e.1 | exact e.2 q29)], rfl⟩
    · refine V_iconst dX3_isFit_32 ?_
      refine V_goto (tgt := 37) dX3_isFit_33 (by decide) ?_
      refine V_zret (by first | exact pI_01 _ | omega) dX3_isFit_37 rfl ?_
      exact ⟨by rw [pI_t ⟨q17, q29⟩], rfl⟩
theorem T_X3_isCandidate (g : GP) {h : AH} {A : AD} {D : MS} {N U : Nat} (hM : DR h A D N U) (q : Int) (kd : Int) (l : Int) (r_kd : -2147483648 ≤ kd ∧ kd ≤ 2147483647) (hI : ID D) (hv : vL D l) (hn : l ≠ 46 ∧ l ≠ 47) (h1 : 0 ≤ q ∧ q < D 90 0) : TP g m_X3_isCandidate 5 [xR 8, xR (A 0 q), xI kd, xR (A 6 l)] h (xI (pI (dCan D q kd l))) := by
  refine TP.of (by decide) rfl (fun v hv => ?_) (Nat.le_of_ble_eq_true rfl) ?_
  · simp only [List.mem_cons, List.not_mem_nil, or_false] at hv
    rcases hv with rfl | rfl | rfl | rfl <;> first | rfl | exact cat_R
  obtain ⟨i90, i91, i92⟩ := hI.n
  obtain ⟨c90, c91, c92⟩ := hI.c
  obtain ⟨⟨z90, -⟩, ⟨z91, -⟩, z92, -⟩ := hM.b.2.2.1
  change V g m_X3_isCandidate 5 _ h 0 [xR 8, xR (A 0 q), xI kd, xR (A 6 l)] []
  have b70 := hI.a70 l
  refine V_aload_n dX3_isCandidate_0 rfl ?_
  refine V_pV (as := []) dX3_isCandidate_1 c_RX3_122 rfl (by decide) rfl (Nat.le_of_ble_eq_true rfl) (hM.kd (f := 0) (vAq (by decide) (by omega))) (T_X1_kindNow g hM q hI (by omega)) ?_
  have t1 := sKd_r (D 23 q)
  refine V_iload_n dX3_isCandidate_4 rfl ?_
  refine V_icmp_ne (tgt := 32) dX3_isCandidate_5 (by decide) (by omega) (by omega) (fun q5 => ?_) (fun q5 => ?_)
  · refine V_iconst dX3_isCandidate_32 ?_
    refine V_zret (by first | exact pI_01 _ | omega) dX3_isCandidate_33 rfl ?_
    exact ⟨by rw [pI_f (fun e => by first | exact q5 e.1 | exact q13 e.2.1 | exact e.2.2 q25)], rfl⟩
  · refine V_aload_n dX3_isCandidate_8 rfl ?_
    refine V_aload_n dX3_isCandidate_9 rfl ?_
    refine V_pV (as := [_]) dX3_isCandidate_10 c_RX3_201 rfl (by decide) rfl (Nat.le_of_ble_eq_true rfl) hM.kx (T_X3_isAvailable g hM q hI (by omega)) ?_
    refine V_ifb_eq (tgt := 32) dX3_isCandidate_13 (by decide) (fun q13 => ?_) (fun q13 => ?_)
    · refine V_iconst dX3_isCandidate_32 ?_
      refine V_zret (by first | exact pI_01 _ | omega) dX3_isCandidate_33 rfl ?_
      exact ⟨by rw [pI_f (fun e => by first | exact q5 e.1 | exact q13 e.2.1 | exact e.2.2 q25)], rfl⟩
    · refine V_aload_n dX3_isCandidate_16 rfl ?_
      refine V_aload_n dX3_isCandidate_17 rfl ?_
      refine V_dSz (l := l) (w := D 70 l) dX3_isCandidate_18 c_RX3_69 rfl (by decide) (Nat.le_of_ble_eq_true rfl) rfl hM hv rfl (fun r18 => ?_)
      refine V_aload_n dX3_isCandidate_21 rfl ?_
      refine V_pS (as := [_, _, _]) dX3_isCandidate_22 c_RX3_343 rfl (by decide) rfl (Nat.le_of_ble_eq_true rfl) (T_X3_hasRelative g hM l (D 70 l) q (by omega) hI hv hn (by omega)) ?_
      refine V_ifb_ne (tgt := 32) dX3_isCandidate_25 (by decide) (fun q25 => ?_) (fun q25 => ?_)
      · refine V_iconst dX3_isCandidate_32 ?_
        refine V_zret (by first | exact pI_01 _ | omega) dX3_isCandidate_33 rfl ?_
        exact ⟨by rw [pI_f (fun e => by first | exact q5 e.1 | exact q13 e.2.1 | exact e.2.2 q25)], rfl⟩
      · refine V_iconst dX3_isCandidate_28 ?_
        refine V_goto (tgt := 33) dX3_isCandidate_29 (by decide) ?_
        refine V_zret (by first | exact pI_01 _ | omega) dX3_isCandidate_33 rfl ?_
        exact ⟨by rw [pI_t ⟨q5, q13, q25⟩], rfl⟩
theorem T_X3_firstWaiting (g : GP) {h : AH} {A : AD} {D : MS} {N U : Nat} (hM : DR h A D N U)   (hI : ID D) : TP g m_X3_firstWaiting 4 [xR 8] h (xI (dFw D)) := by
  refine TP.of (by decide) rfl (fun v hv => ?_) (Nat.le_of_ble_eq_true rfl) ?_
  · simp only [List.mem_cons, List.not_mem_nil, or_false] at hv
    subst hv; first | rfl | exact cat_R
  obtain ⟨i90, i91, i92⟩ := hI.n
  obtain ⟨c90, c91, c92⟩ := hI.c
  obtain ⟨⟨z90, -⟩, ⟨z91, -⟩, z92, -⟩ := hM.b.2.2.1
  change V g m_X3_firstWaiting 4 _ h 0 [xR 8, xU] []
  refine V_iconst dX3_firstWaiting_0 ?_
  refine V_istore_n (lc' := [_, _]) dX3_firstWaiting_1 (by decide) rfl ?_
  have lp2 : ∀ k2 : Int, (0 ≤ k2 ∧ k2 ≤ D 92 0 ∧ ∀ j : Int, 0 ≤ j → j < k2 → D 60 j ≠ 115) → V g m_X3_firstWaiting 4 (fun r9 h9 => r9 = .inl (some (xI (dFw D))) ∧ h9 = h) h 2 [xR 8, xI k2] [] := by
    refine lp_up (D 92 0) (fun k2 ih2 => ?_)
    intro hk
    obtain ⟨k2l, k2u, k2A⟩ := hk
    refine V_iload_n dX3_firstWaiting_2 rfl ?_
    refine V_aload_n dX3_firstWaiting_3 rfl ?_
    refine V_dgr (f := 8) (i := 0) (b := 13) dX3_firstWaiting_4 fg_RX3_26 rfl rfl hM.fx.1 hM (vAx (by decide)) hM.s.1.2.2.2.2.1 ?_
    refine V_dSz (l := 47) (w := D 70 47) dX3_firstWaiting_7 c_RX3_69 rfl (by decide) (Nat.le_of_ble_eq_true rfl) hM.fx.2.2.2.2.2.2.1 hM (vL4 (by decide)) rfl (fun r7 => ?_)
    refine V_icmp_ge (tgt := 40) dX3_firstWaiting_10 (by decide) (by omega) (by omega) (fun q10 => ?_) (fun q10 => ?_)
    · refine V_iconst dX3_firstWaiting_40 ?_
      refine V_iret dX3_firstWaiting_41 rfl ?_
      refine ⟨congrArg (fun z => (Sum.inl (some (xI z)) : Res)) (Eq.symm ?_), rfl⟩
      unfold dFw
      first | (rw [dFst_at k2l k2A (show ¬ (D 60 k2 ≠ 115) by omega) (D 92 0).toNat (by omega), if_pos (by omega)]; done) | (rw [dFst_no (D 92 0).toNat (fun j a b => k2A j a (by omega)), if_neg (by omega)]; done)
    · refine V_aload_n dX3_firstWaiting_13 rfl ?_
      refine V_dgr (f := 8) (i := 0) (b := 13) dX3_firstWaiting_14 fg_RX3_26 rfl rfl hM.fx.1 hM (vAx (by decide)) hM.s.1.2.2.2.2.1 ?_
      refine V_iload_n dX3_firstWaiting_17 rfl ?_
      refine V_dG47 dX3_firstWaiting_18 c_RX3_132 rfl (by decide) (Nat.le_of_ble_eq_true rfl) hM (by omega) (rfl.trans (hI.s (by omega))) ?_
      refine V_ckc dX3_firstWaiting_21 k_RX3_217 (hM.kd (f := 4) (vAs (by decide) (by omega))) ?_
      refine V_dg (f := 4) (F := 60) (i := k2) (t := k2) (w := D 60 k2) dX3_firstWaiting_24 fg_RX3_240 rfl rfl rfl rfl hM (vFs (by omega)) rfl (fun r24 => ?_)
      have b24 := hI.a60 k2
      refine V_bipush dX3_firstWaiting_27 (by decide) ?_
      refine V_icmp_ne (tgt := 34) dX3_firstWaiting_29 (by decide) (by omega) (by omega) (fun q29 => ?_) (fun q29 => ?_)
      · refine V_iinc (lc' := [_, _]) dX3_firstWaiting_34 rfl (by decide) rfl ?_
        refine V_goto (tgt := 2) dX3_firstWaiting_37 (by decide) ?_
        exact ih2 (by omega) ⟨by omega, by omega, all_succ k2A (by first | assumption | omega)⟩
      · refine V_iload_n dX3_firstWaiting_32 rfl ?_
        refine V_iret dX3_firstWaiting_33 rfl ?_
        refine ⟨congrArg (fun z => (Sum.inl (some (xI z)) : Res)) (Eq.symm ?_), rfl⟩
        unfold dFw
        first | (rw [dFst_at k2l k2A (show ¬ (D 60 k2 ≠ 115) by omega) (D 92 0).toNat (by omega), if_pos (by omega)]; done) | (rw [dFst_no (D 92 0).toNat (fun j a b => k2A j a (by omega)), if_neg (by omega)]; done)
  exact lp2 0 ⟨by omega, by omega, fun j a b => absurd b (by omega)⟩
theorem T_X3_waiting (g : GP) {h : AH} {A : AD} {D : MS} {N U : Nat} (hM : DR h A D N U)   (hI : ID D) : TP g m_X3_waiting 4 [xR 8] h (xI (dWtN D (D 92 0).toNat)) := by
  refine TP.of (by decide) rfl (fun v hv => ?_) (Nat.le_of_ble_eq_true rfl) ?_
  · simp only [List.mem_cons, List.not_mem_nil, or_false] at hv
    subst hv; first | rfl | exact cat_R
  obtain ⟨i90, i91, i92⟩ := hI.n
  obtain ⟨c90, c91, c92⟩ := hI.c
  obtain ⟨⟨z90, -⟩, ⟨z91, -⟩, z92, -⟩ := hM.b.2.2.1
  change V g m_X3_waiting 4 _ h 0 [xR 8, xU, xU] []
  refine V_iconst dX3_waiting_0 ?_
  refine V_istore_n (lc' := [_, _, _]) dX3_waiting_1 (by decide) rfl ?_
  refine V_iconst dX3_waiting_2 ?_
  refine V_istore_n (lc' := [_, _, _]) dX3_waiting_3 (by decide) rfl ?_
  have lp4 : ∀ k4 : Int, ∀ n4 : Int, (0 ≤ k4 ∧ k4 ≤ D 92 0 ∧ n4 = dWtN D k4.toNat) → V g m_X3_waiting 4 (fun r9 h9 => r9 = .inl (some (xI (dWtN D (D 92 0).toNat))) ∧ h9 = h) h 4 [xR 8, xI n4, xI k4] [] := by
    refine lp_up (D 92 0) (fun k4 ih4 => ?_)
    intro n4 hk
    obtain ⟨k4l, k4u, k4e⟩ := hk
    refine V_iload_n dX3_waiting_4 rfl ?_
    refine V_aload_n dX3_waiting_5 rfl ?_
    refine V_dgr (f := 8) (i := 0) (b := 13) dX3_waiting_6 fg_RX3_26 rfl rfl hM.fx.1 hM (vAx (by decide)) hM.s.1.2.2.2.2.1 ?_
    refine V_dSz (l := 47) (w := D 70 47) dX3_waiting_9 c_RX3_69 rfl (by decide) (Nat.le_of_ble_eq_true rfl) hM.fx.2.2.2.2.2.2.1 hM (vL4 (by decide)) rfl (fun r9 => ?_)
    refine V_icmp_ge (tgt := 43) dX3_waiting_12 (by decide) (by omega) (by omega) (fun q12 => ?_) (fun q12 => ?_)
    · refine V_iload_n dX3_waiting_43 rfl ?_
      refine V_iret dX3_waiting_44 rfl ?_
      exact ⟨by rw [k4e, show k4 = D 92 0 by omega], rfl⟩
    · refine V_aload_n dX3_waiting_15 rfl ?_
      refine V_dgr (f := 8) (i := 0) (b := 13) dX3_waiting_16 fg_RX3_26 rfl rfl hM.fx.1 hM (vAx (by decide)) hM.s.1.2.2.2.2.1 ?_
      refine V_iload_n dX3_waiting_19 rfl ?_
      refine V_dG47 dX3_waiting_20 c_RX3_132 rfl (by decide) (Nat.le_of_ble_eq_true rfl) hM (by omega) (rfl.trans (hI.s (by omega))) ?_
      refine V_ckc dX3_waiting_23 k_RX3_217 (hM.kd (f := 4) (vAs (by decide) (by omega))) ?_
      refine V_dg (f := 4) (F := 60) (i := k4) (t := k4) (w := D 60 k4) dX3_waiting_26 fg_RX3_240 rfl rfl rfl rfl hM (vFs (by omega)) rfl (fun r26 => ?_)
      have b26 := hI.a60 k4
      refine V_bipush dX3_waiting_29 (by decide) ?_
      refine V_icmp_ne (tgt := 37) dX3_waiting_31 (by decide) (by omega) (by omega) (fun q31 => ?_) (fun q31 => ?_)
      · refine V_iinc (lc' := [_, _, _]) dX3_waiting_37 rfl (by decide) rfl ?_
        refine V_goto (tgt := 4) dX3_waiting_40 (by decide) ?_
        exact ih4 (by omega) n4 ⟨by omega, by omega, by rw [dWtN_s k4l, ← k4e]; first | rw [if_pos (by omega)] | (rw [if_neg (by omega)]; omega)⟩
      · refine V_iinc (lc' := [_, _, _]) dX3_waiting_34 rfl (by decide) rfl ?_
        refine V_iinc (lc' := [_, _, _]) dX3_waiting_37 rfl (by decide) rfl ?_
        refine V_goto (tgt := 4) dX3_waiting_40 (by decide) ?_
        exact ih4 (by omega) (n4 + 1) ⟨by omega, by omega, by rw [dWtN_s k4l, ← k4e]; first | rw [if_pos (by omega)] | (rw [if_neg (by omega)]; omega)⟩
  exact lp4 0 0 ⟨by omega, by omega, rfl⟩
theorem T_X3_allLevels (g : GP) {h : AH} {A : AD} {D : MS} {N U : Nat} (hM : DR h A D N U)   (hI : ID D) : TP g m_X3_allLevels 4 [xR 8] h (xV (.long (Int64.ofInt (dSumN D (D 90 0).toNat)))) := by
  refine TP.of (by decide) rfl (fun v hv => ?_) (Nat.le_of_ble_eq_true rfl) ?_
  · simp only [List.mem_cons, List.not_mem_nil, or_false] at hv
    subst hv; first | rfl | exact cat_R
  obtain ⟨i90, i91, i92⟩ := hI.n
  obtain ⟨c90, c91, c92⟩ := hI.c
  obtain ⟨⟨z90, -⟩, ⟨z91, -⟩, z92, -⟩ := hM.b.2.2.1
  change V g m_X3_allLevels 4 _ h 0 [xR 8, xU, xU, xU] []
  refine V_lconst (v := (0 : Int64)) dX3_allLevels_0 (by decide) ?_
  refine V_lstore_n (lc' := [_, _, _, _]) dX3_allLevels_1 (by decide) rfl ?_
  refine V_iconst dX3_allLevels_2 ?_
  refine V_istore_n (lc' := [_, _, _, _]) dX3_allLevels_3 (by decide) rfl ?_
  have lp4 : ∀ k4 : Int, ∀ n4 : Int64, (0 ≤ k4 ∧ k4 ≤ D 90 0 ∧ n4 = Int64.ofInt (dSumN D k4.toNat)) → V g m_X3_allLevels 4 (fun r9 h9 => r9 = .inl (some (xV (.long (Int64.ofInt (dSumN D (D 90 0).toNat))))) ∧ h9 = h) h 4 [xR 8, xV (.long n4), xU, xI k4] [] := by
    refine lp_up (D 90 0) (fun k4 ih4 => ?_)
    intro n4 hk
    obtain ⟨k4l, k4u, k4e⟩ := hk
    refine V_iload_n dX3_allLevels_4 rfl ?_
    refine V_aload_n dX3_allLevels_5 rfl ?_
    refine V_dgr (f := 8) (i := 0) (b := 10) dX3_allLevels_6 fg_RX3_16 rfl rfl hM.fx.1 hM (vAx (by decide)) hM.s.1.2.1 ?_
    refine V_dSz (l := 45) (w := D 70 45) dX3_allLevels_9 c_RX3_69 rfl (by decide) (Nat.le_of_ble_eq_true rfl) hM.fx.2.2.2.1 hM (vL4 (by decide)) rfl (fun r9 => ?_)
    refine V_icmp_ge (tgt := 39) dX3_allLevels_12 (by decide) (by omega) (by omega) (fun q12 => ?_) (fun q12 => ?_)
    · refine V_lload_n dX3_allLevels_39 rfl ?_
      refine V_lret dX3_allLevels_40 rfl ?_
      exact ⟨by rw [k4e, show k4 = D 90 0 by omega], rfl⟩
    · refine V_lload_n dX3_allLevels_15 rfl ?_
      refine V_aload_n dX3_allLevels_16 rfl ?_
      refine V_dgr (f := 8) (i := 0) (b := 10) dX3_allLevels_17 fg_RX3_16 rfl rfl hM.fx.1 hM (vAx (by decide)) hM.s.1.2.1 ?_
      refine V_iload_n dX3_allLevels_20 rfl ?_
      refine V_dG45 dX3_allLevels_21 c_RX3_132 rfl (by decide) (Nat.le_of_ble_eq_true rfl) hM (by omega) (rfl.trans (hI.q (by omega))) ?_
      refine V_ckc dX3_allLevels_24 k_RX3_75 (hM.kd (f := 0) (vAq (by decide) (by omega))) ?_
      refine V_dg (f := 0) (F := 23) (i := k4) (t := k4) (w := D 23 k4) dX3_allLevels_27 fg_RX3_116 rfl rfl rfl rfl hM (vFq (by decide) (by omega)) rfl (fun r27 => ?_)
      have b27 := hI.a23 k4
      refine V_i2l dX3_allLevels_30 (by omega) ?_
      refine V_ladd dX3_allLevels_31 ?_
      refine V_lstore_n (lc' := [_, _, _, _]) dX3_allLevels_32 (by decide) rfl ?_
      refine V_iinc (lc' := [_, _, _, _]) dX3_allLevels_33 rfl (by decide) rfl ?_
      refine V_goto (tgt := 4) dX3_allLevels_36 (by decide) ?_
      exact ih4 (by omega) (n4 + (Int64.ofInt (D 23 k4))) ⟨by omega, by omega, by rw [dSumN_s k4l, Int64.ofInt_add, ← k4e]⟩
  exact lp4 0 (0 : Int64) ⟨by omega, by omega, rfl⟩
theorem T_X3_areLevelsAsAnswered (g : GP) {h : AH} {A : AD} {D : MS} {N U : Nat} (hM : DR h A D N U)   (hI : ID D) : TP g m_X3_areLevelsAsAnswered 4 [xR 8] h (xI (pI (∀ j, 0 ≤ j → j < D 90 0 → D 23 j = dLv D j (D 25 j).toNat))) := by
  refine TP.of (by decide) rfl (fun v hv => ?_) (Nat.le_of_ble_eq_true rfl) ?_
  · simp only [List.mem_cons, List.not_mem_nil, or_false] at hv
    subst hv; first | rfl | exact cat_R
  obtain ⟨i90, i91, i92⟩ := hI.n
  obtain ⟨c90, c91, c92⟩ := hI.c
  obtain ⟨⟨z90, -⟩, ⟨z91, -⟩, z92, -⟩ := hM.b.2.2.1
  change V g m_X3_areLevelsAsAnswered 4 _ h 0 [xR 8, xU] []
  refine V_iconst dX3_areLevelsAsAnswered_0 ?_
  refine V_istore_n (lc' := [_, _]) dX3_areLevelsAsAnswered_1 (by decide) rfl ?_
  have lp2 : ∀ k2 : Int, (0 ≤ k2 ∧ k2 ≤ D 90 0 ∧ ∀ j : Int, 0 ≤ j → j < k2 → D 23 j = dLv D j (D 25 j).toNat) → V g m_X3_areLevelsAsAnswered 4 (fun r9 h9 => r9 = .inl (some (xI (pI (∀ j, 0 ≤ j → j < D 90 0 → D 23 j = dLv D j (D 25 j).toNat)))) ∧ h9 = h) h 2 [xR 8, xI k2] [] := by
    refine lp_up (D 90 0) (fun k2 ih2 => ?_)
    intro hk
    obtain ⟨k2l, k2u, k2A⟩ := hk
    refine V_iload_n dX3_areLevelsAsAnswered_2 rfl ?_
    refine V_aload_n dX3_areLevelsAsAnswered_3 rfl ?_
    refine V_dgr (f := 8) (i := 0) (b := 10) dX3_areLevelsAsAnswered_4 fg_RX3_16 rfl rfl hM.fx.1 hM (vAx (by decide)) hM.s.1.2.1 ?_
    refine V_dSz (l := 45) (w := D 70 45) dX3_areLevelsAsAnswered_7 c_RX3_69 rfl (by decide) (Nat.le_of_ble_eq_true rfl) hM.fx.2.2.2.1 hM (vL4 (by decide)) rfl (fun r7 => ?_)
    refine V_icmp_ge (tgt := 52) dX3_areLevelsAsAnswered_10 (by decide) (by omega) (by omega) (fun q10 => ?_) (fun q10 => ?_)
    · refine V_iconst dX3_areLevelsAsAnswered_52 ?_
      refine V_zret (by first | exact pI_01 _ | omega) dX3_areLevelsAsAnswered_53 rfl ?_
      exact ⟨by rw [pI_t (fun j a b => k2A j a (by omega))], rfl⟩
    · refine V_aload_n dX3_areLevelsAsAnswered_13 rfl ?_
      refine V_dgr (f := 8) (i := 0) (b := 10) dX3_areLevelsAsAnswered_14 fg_RX3_16 rfl rfl hM.fx.1 hM (vAx (by decide)) hM.s.1.2.1 ?_
      refine V_iload_n dX3_areLevelsAsAnswered_17 rfl ?_
      refine V_dG45 dX3_areLevelsAsAnswered_18 c_RX3_132 rfl (by decide) (Nat.le_of_ble_eq_true rfl) hM (by omega) (rfl.trans (hI.q (by omega))) ?_
      refine V_ckc dX3_areLevelsAsAnswered_21 k_RX3_75 (hM.kd (f := 0) (vAq (by decide) (by omega))) ?_
      refine V_dg (f := 0) (F := 23) (i := k2) (t := k2) (w := D 23 k2) dX3_areLevelsAsAnswered_24 fg_RX3_116 rfl rfl rfl rfl hM (vFq (by decide) (by omega)) rfl (fun r24 => ?_)
      have b24 := hI.a23 k2
      refine V_aload_n dX3_areLevelsAsAnswered_27 rfl ?_
      refine V_dgr (f := 8) (i := 0) (b := 10) dX3_areLevelsAsAnswered_28 fg_RX3_16 rfl rfl hM.fx.1 hM (vAx (by decide)) hM.s.1.2.1 ?_
      refine V_iload_n dX3_areLevelsAsAnswered_31 rfl ?_
      refine V_dG45 dX3_areLevelsAsAnswered_32 c_RX3_132 rfl (by decide) (Nat.le_of_ble_eq_true rfl) hM (by omega) (rfl.trans (hI.q (by omega))) ?_
      refine V_ckc dX3_areLevelsAsAnswered_35 k_RX3_75 (hM.kd (f := 0) (vAq (by decide) (by omega))) ?_
      refine V_pV (as := []) dX3_areLevelsAsAnswered_38 c_RX3_119 rfl (by decide) rfl (Nat.le_of_ble_eq_true rfl) (hM.kd (f := 0) (vAq (by decide) (by omega))) (T_X1_levelByAnswers g hM k2 hI (by omega)) ?_
      have t38 := @dLv_r D hI k2 (D 25 k2).toNat
      refine V_icmp_eq (tgt := 46) dX3_areLevelsAsAnswered_41 (by decide) (by omega) (by omega) (fun q41 => ?_) (fun q41 => ?_)
      · refine V_iinc (lc' := [_, _]) dX3_areLevelsAsAnswered_46 rfl (by decide) rfl ?_
        refine V_goto (tgt := 2) dX3_areLevelsAsAnswered_49 (by decide) ?_
        exact ih2 (by omega) ⟨by omega, by omega, all_succ k2A (by first | assumption | omega)⟩
      · refine V_iconst dX3_areLevelsAsAnswered_44 ?_
        refine V_zret (by first | exact pI_01 _ | omega) dX3_areLevelsAsAnswered_45 rfl ?_
        exact ⟨by rw [pI_f (fun e => q41 (e k2 (by omega) (by omega)))], rfl⟩
  exact lp2 0 ⟨by omega, by omega, fun j a b => absurd b (by omega)⟩
theorem T_X3_arePlansKept (g : GP) {h : AH} {A : AD} {D : MS} {N U : Nat} (hM : DR h A D N U)   (hI : ID D) : TP g m_X3_arePlansKept 6 [xR 8] h (xI (pI (∀ p, 0 ≤ p → p < D 91 0 → ∀ j, 0 ≤ j → j < D 70 (3 + p) → dFit D p j))) := by
  refine TP.of (by decide) rfl (fun v hv => ?_) (Nat.le_of_ble_eq_true rfl) ?_
  · simp only [List.mem_cons, List.not_mem_nil, or_false] at hv
    subst hv; first | rfl | exact cat_R
  obtain ⟨i90, i91, i92⟩ := hI.n
  obtain ⟨c90, c91, c92⟩ := hI.c
  obtain ⟨⟨z90, -⟩, ⟨z91, -⟩, z92, -⟩ := hM.b.2.2.1
  change V g m_X3_arePlansKept 6 _ h 0 [xR 8, xU, xU, xU] []
  refine V_iconst dX3_arePlansKept_0 ?_
  refine V_istore_n (lc' := [_, _, _, _]) dX3_arePlansKept_1 (by decide) rfl ?_
  have lp2 : ∀ k2 : Int, (0 ≤ k2 ∧ k2 ≤ D 91 0 ∧ ∀ j : Int, 0 ≤ j → j < k2 → ∀ i, 0 ≤ i → i < D 70 (3 + j) → dFit D j i) → V g m_X3_arePlansKept 6 (fun r9 h9 => r9 = .inl (some (xI (pI (∀ p, 0 ≤ p → p < D 91 0 → ∀ j, 0 ≤ j → j < D 70 (3 + p) → dFit D p j)))) ∧ h9 = h) h 2 [xR 8, xI k2, xU, xU] [] := by
    refine lp_up (D 91 0) (fun k2 ih2 => ?_)
    intro hk
    obtain ⟨k2l, k2u, k2A⟩ := hk
    refine V_iload_n dX3_arePlansKept_2 rfl ?_
    refine V_aload_n dX3_arePlansKept_3 rfl ?_
    refine V_dgr (f := 8) (i := 0) (b := 12) dX3_arePlansKept_4 fg_RX3_23 rfl rfl hM.fx.1 hM (vAx (by decide)) hM.s.1.2.2.2.1 ?_
    refine V_dSz (l := 46) (w := D 70 46) dX3_arePlansKept_7 c_RX3_69 rfl (by decide) (Nat.le_of_ble_eq_true rfl) hM.fx.2.2.2.2.2.1 hM (vL4 (by decide)) rfl (fun r7 => ?_)
    refine V_icmp_ge (tgt := 60) dX3_arePlansKept_10 (by decide) (by omega) (by omega) (fun q10 => ?_) (fun q10 => ?_)
    · refine V_iconst dX3_arePlansKept_60 ?_
      refine V_zret (by first | exact pI_01 _ | omega) dX3_arePlansKept_61 rfl ?_
      exact ⟨by rw [pI_t (fun j a b => k2A j a (by omega))], rfl⟩
    · refine V_aload_n dX3_arePlansKept_13 rfl ?_
      refine V_dgr (f := 8) (i := 0) (b := 12) dX3_arePlansKept_14 fg_RX3_23 rfl rfl hM.fx.1 hM (vAx (by decide)) hM.s.1.2.2.2.1 ?_
      refine V_iload_n dX3_arePlansKept_17 rfl ?_
      refine V_dG46 dX3_arePlansKept_18 c_RX3_132 rfl (by decide) (Nat.le_of_ble_eq_true rfl) hM (by omega) (rfl.trans (hI.p (by omega))) ?_
      refine V_ckc dX3_arePlansKept_21 k_RX3_168 (hM.kd (f := 3) (vAp (by omega))) ?_
      refine V_astore_n (lc' := [_, _, _, _]) dX3_arePlansKept_24 (by decide) rfl ?_
      refine V_iconst dX3_arePlansKept_25 ?_
      refine V_istore_n (lc' := [_, _, _, _]) dX3_arePlansKept_26 (by decide) rfl ?_
      have b70 := hI.a70 (3 + k2)
      have lp27 : ∀ k27 : Int, (0 ≤ k27 ∧ k27 ≤ D 70 (3 + k2) ∧ ∀ j : Int, 0 ≤ j → j < k27 → dFit D k2 j) → V g m_X3_arePlansKept 6 (fun r9 h9 => r9 = .inl (some (xI (pI (∀ p, 0 ≤ p → p < D 91 0 → ∀ j, 0 ≤ j → j < D 70 (3 + p) → dFit D p j)))) ∧ h9 = h) h 27 [xR 8, xI k2, xR (A 3 k2), xI k27] [] := by
        refine lp_up (D 70 (3 + k2)) (fun k27 ih27 => ?_)
        intro hk
        obtain ⟨k27l, k27u, k27A⟩ := hk
        refine V_iload_n dX3_arePlansKept_27 rfl ?_
        refine V_aload_n dX3_arePlansKept_28 rfl ?_
        refine V_dgr (f := 3) (i := k2) (b := (A 6 (3 + k2))) dX3_arePlansKept_29 fg_RX3_183 rfl rfl rfl hM (vAp (by omega)) (hM.s.2.2.2.1 k2 (by omega)) ?_
        refine V_dSz (l := (3 + k2)) (w := D 70 (3 + k2)) dX3_arePlansKept_32 c_RX3_69 rfl (by decide) (Nat.le_of_ble_eq_true rfl) rfl hM (vLp (by omega)) rfl (fun r32 => ?_)
        refine V_icmp_ge (tgt := 54) dX3_arePlansKept_35 (by decide) (by omega) (by omega) (fun q35 => ?_) (fun q35 => ?_)
        · refine V_iinc (lc' := [_, _, _, _]) dX3_arePlansKept_54 rfl (by decide) rfl ?_
          refine V_goto (tgt := 2) dX3_arePlansKept_57 (by decide) ?_
          refine V_wk (lc' := [_, _, xU, xU]) ⟨Or.inr rfl, Or.inr rfl, Or.inl rfl, Or.inl rfl, trivial⟩ ?_
          exact ih2 (by omega) ⟨by omega, by omega, all_succ k2A (fun i a b => k27A i a (by omega))⟩
        · refine V_aload_n dX3_arePlansKept_38 rfl ?_
          refine V_iload_n dX3_arePlansKept_39 rfl ?_
          refine V_pS (as := [_, _]) dX3_arePlansKept_40 c_RX3_333 rfl (by decide) rfl (Nat.le_of_ble_eq_true rfl) (T_X3_isFit g hM k2 k27 (by omega) hI (by omega) (by omega)) ?_
          refine V_ifb_ne (tgt := 48) dX3_arePlansKept_43 (by decide) (fun q43 => ?_) (fun q43 => ?_)
          · refine V_iinc (lc' := [_, _, _, _]) dX3_arePlansKept_48 rfl (by decide) rfl ?_
            refine V_goto (tgt := 27) dX3_arePlansKept_51 (by decide) ?_
            exact ih27 (by omega) ⟨by omega, by omega, all_succ k27A (by first | assumption | omega)⟩
          · refine V_iconst dX3_arePlansKept_46 ?_
            refine V_zret (by first | exact pI_01 _ | omega) dX3_arePlansKept_47 rfl ?_
            exact ⟨by rw [pI_f (fun e => q43 (e k2 (by omega) (by omega) k27 (by omega) (by omega)))], rfl⟩
      exact lp27 0 ⟨by omega, by omega, fun j a b => absurd b (by omega)⟩
  exact lp2 0 ⟨by omega, by omega, fun j a b => absurd b (by omega)⟩
theorem T_X3_week (g : GP) {h : AH} {A : AD} {D : MS} {N U : Nat} (hM : DR h A D N U)   (hI : ID D) : TP g m_X3_week 1 [xR 8] h (xI (D 6 0)) := by
  refine TP.of (by decide) rfl (fun v hv => ?_) (Nat.le_of_ble_eq_true rfl) ?_
  · simp only [List.mem_cons, List.not_mem_nil, or_false] at hv
    subst hv; first | rfl | exact cat_R
  obtain ⟨i90, i91, i92⟩ := hI.n
  obtain ⟨c90, c91, c92⟩ := hI.c
  obtain ⟨⟨z90, -⟩, ⟨z91, -⟩, z92, -⟩ := hM.b.2.2.1
  change V g m_X3_week 1 _ h 0 [xR 8] []
  refine V_aload_n dX3_week_0 rfl ?_
  refine V_dg (f := 8) (F := 6) (i := 0) (t := 0) (w := D 6 0) dX3_week_1 fg_RX3_155 rfl rfl rfl hM.fx.1 hM (vFx (by decide)) rfl (fun r1 => ?_)
  have b1 := hI.a6
  refine V_iret dX3_week_4 rfl ?_
  exact ⟨rfl, rfl⟩
theorem T_X3_answers (g : GP) {h : AH} {A : AD} {D : MS} {N U : Nat} (hM : DR h A D N U)   (hI : ID D) : TP g m_X3_answers 1 [xR 8] h (xI (D 8 0)) := by
  refine TP.of (by decide) rfl (fun v hv => ?_) (Nat.le_of_ble_eq_true rfl) ?_
  · simp only [List.mem_cons, List.not_mem_nil, or_false] at hv
    subst hv; first | rfl | exact cat_R
  obtain ⟨i90, i91, i92⟩ := hI.n
  obtain ⟨c90, c91, c92⟩ := hI.c
  obtain ⟨⟨z90, -⟩, ⟨z91, -⟩, z92, -⟩ := hM.b.2.2.1
  change V g m_X3_answers 1 _ h 0 [xR 8] []
  refine V_aload_n dX3_answers_0 rfl ?_
  refine V_dg (f := 8) (F := 8) (i := 0) (t := 0) (w := D 8 0) dX3_answers_1 fg_RX3_274 rfl rfl rfl hM.fx.1 hM (vFx (by decide)) rfl (fun r1 => ?_)
  have b1 := hI.a8
  refine V_iret dX3_answers_4 rfl ?_
  exact ⟨rfl, rfl⟩

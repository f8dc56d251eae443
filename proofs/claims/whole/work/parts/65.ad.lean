theorem hsr_i {h : AH} {a j q i z : Nat} : h_i (h_sr h a j z) q i = h_i h q i := rfl
theorem hsi_r {h : AH} {a j q i : Nat} {z : Int} : h_r (h_si h a j z) q i = h_r h q i := rfl
/-- a row of whole numbers copied -/
def CpF (h h' : AH) (a L : Nat) : Prop := Ext (h_n h) h h' ∧ h_n h' = h_n h + 1 ∧ h_u h' ≤ h_u h + 6 ∧ h_k h' (h_n h) = 22 ∧ h_l h' (h_n h) = L ∧ (∀ k : Nat, k < L → h_i h' (h_n h) k = h_i h a k) ∧ ∀ q, h_n h < q → h_k h' q = h_k h q
theorem CpF.of {h h' : AH} {a L : Nat} (ha : h_k h a = 22) (hl : h_l h a = 6) (hL : L ≤ 6) (han : a < h_n h) (e : h' = if L = 6 then h_cl h a else h_ci (h_mk h 22 L L) a 0 (h_n h) 0 L) : CpF h h' a L := by
  subst e
  by_cases c : L = 6
  · rw [if_pos c]
    have nl : ∀ q, q < h_n h → q ≠ h_n h := fun q hq => by omega
    have ng : ∀ q, h_n h < q → q ≠ h_n h := fun q hq => by omega
    refine ⟨fun q hq => ⟨u1_n (nl q hq), u1_n (nl q hq), fun j => if_neg (nl q hq), fun j => if_neg (nl q hq)⟩, rfl, ?_, u1_s.trans ha, u1_s.trans (show h_l h a = L by omega), fun k _ => if_pos rfl, fun q hq => u1_n (ng q hq)⟩
    show h_u h + h_l h a ≤ _
    omega
  · rw [if_neg c]
    refine ⟨(Ext.rf.mk (Nat.le_refl _)).ci (Nat.le_refl _), rfl, ?_, mk_ks (k := 22) (n := L) (N := L), mk_ls (k := 22) (n := L) (N := L), fun k hk => ?_, fun q hq => mk_k (k := 22) (n := L) (N := L) (by omega)⟩
    · show h_u h + L ≤ _
      omega
    · refine (if_pos ⟨rfl, Nat.zero_le _, by omega⟩).trans ?_
      show h_i (h_mk h 22 L L) a (0 + (k - 0)) = _
      rw [show 0 + (k - 0) = k by omega]
      exact mk_i (k := 22) (n := L) (N := L) (by omega)
theorem DR.newQ2 {h h9 : AH} {A : AD} {D : MS} {N U L : Nat} {lv : Int} (hM : DR h A D N U) (hI : ID D) (hn : D 90 0 ≤ 39) (eL : D 1 0 = (L : Int)) (hlv : 0 ≤ lv ∧ lv ≤ 100) (c : CpF (h_mk h 7 0 11) h9 9 L) (hN : N + 200 ≤ z_CC) (hU : U + 5000 ≤ z_CS) :
    DR (qH h9 (h_n h) (D 90 0) (h_n h + 1) lv) (aNq A D (h_n h) (h_n h + 1) (h_n h + 2)) (dNq D lv) (N + 4) (U + 200) ∧ Ext (h_n h) h (qH h9 (h_n h) (D 90 0) (h_n h + 1) lv) := by
  have hb := hM.b
  have h41 := hb.2.1
  have hr := hI.a1
  have hkz : ∀ q, h_n h ≤ q → h_k h q = 0 := fun q hq => Classical.byContradiction (fun w => by have := hb.1 q w; omega)
  obtain ⟨c1, c2, c3, c4, c5, c6, c7⟩ := c
  have e1 : h_n (h_mk h 7 0 11) = h_n h + 1 := rfl
  have e2 : h_u (h_mk h 7 0 11) = h_u h + 11 := rfl
  rw [e1] at c1 c2 c4 c5 c6 c7
  rw [e2] at c3
  have e9 : h_n h9 = h_n h + 2 := by omega
  have x9 : Ext (h_n h) h h9 := (Ext.rf.mk (Nat.le_refl _)).tr (fun q hq => c1 q (by omega))
  have E : Ext (h_n h) h (qH h9 (h_n h) (D 90 0) (h_n h + 1) lv) := ((((((((x9.mk (by omega)).sr (Nat.le_refl _)).si (Nat.le_refl _)).si (Nat.le_refl _)).sr (Nat.le_refl _)).si (Nat.le_refl _)).si (Nat.le_refl _)).si (Nat.le_refl _))
  have i0 : ∀ j, h_i (h_mk h9 23 30 30) (h_n h) j = 0 := fun j => ((mk_i (k := 23) (n := 30) (N := 30) (by omega)).trans ((c1 _ (by omega)).2.2.1 j)).trans (if_pos rfl)
  have n8 : h_n h + 1 ≠ h_n h := by omega
  have n9 : h_n h + 2 ≠ h_n h := by omega
  refine ⟨hM.newQ hn hr hlv E rfl rfl rfl ?_ ?_ hN hU (fun q hq => ?_) ?_ ?_ ?_ ?_ ?_ ?_ ?_ ?_ ?_ ?_ ?_ ?_ ?_ ?_ ?_ ?_ (fun k hk => ?_) (fun k hk => ?_), E⟩
  · show h_n h9 + 1 = _; omega
  · show h_u h9 + 30 ≤ _; omega
  · show h_k (h_mk h9 23 30 30) q = 0
    rw [mk_k (k := 23) (n := 30) (N := 30) (by omega), c7 q (by omega), mk_k (k := 7) (n := 0) (N := 11) (by omega)]
    exact hkz q (by omega)
  · show h_k (h_mk h9 23 30 30) (h_n h) = 7
    rw [mk_k (k := 23) (n := 30) (N := 30) (by omega), (c1 _ (by omega)).1]
    exact mk_ks (k := 7) (n := 0) (N := 11)
  · show h_k (h_mk h9 23 30 30) (h_n h + 1) = 22
    rw [mk_k (k := 23) (n := 30) (N := 30) (by omega)]
    exact c4
  · show h_k (h_mk h9 23 30 30) (h_n h + 2) = 23
    rw [← e9]
    exact mk_ks (k := 23) (n := 30) (N := 30)
  · show ((h_l (h_mk h9 23 30 30) (h_n h + 1) : Nat) : Int) = _
    rw [mk_l (k := 23) (n := 30) (N := 30) (by omega), c5, eL]
  · show h_l (h_mk h9 23 30 30) (h_n h + 2) = 30
    rw [← e9]
    exact mk_ls (k := 23) (n := 30) (N := 30)
  · simp [qH, hsi_r, hsr_at]
  · simp only [qH, hsi_r, hsr_at]
    simp [e9]
  · simp [qH, hsi_at, hsr_i]
  · simp [qH, hsi_at, hsr_i]
  · simp [qH, hsi_at, hsr_i]
  · simp only [qH, hsi_at, hsr_i]
    simp [i0]
  · simp [qH, hsi_at, hsr_i]
  · simp only [qH, hsi_at, hsr_i]
    simp [i0]
  · simp only [qH, hsi_at, hsr_i]
    simp [i0]
  · simp only [qH, hsi_at, hsr_i]
    simp [i0]
  · simp only [qH, hsi_at, hsr_i]
    simp
  · simp only [qH, hsi_at, hsr_i]
    simp [n8]
    rw [mk_i (k := 23) (n := 30) (N := 30) (by omega), c6 k (by omega), mk_i (k := 7) (n := 0) (N := 11) (by omega)]
    have e := hM.ld (F := 0) (t := (k : Int)) (vFw (by omega))
    have e : h_i h (A 9 0) ((k : Int).toNat) = D 0 k := e
    rw [hM.fx.2.1] at e
    exact e
  · simp only [qH, hsi_at, hsr_i]
    simp [n9]
    rw [← e9]
    exact if_pos rfl
theorem dAd_n {D : MS} {l z : Int} {f : Nat} {k : Int} (h0 : f ≠ 70) (h1 : f ≠ 71) : dAd D l z f k = D f k := (mset_n h0).trans (mset_n h1)
theorem dNq_I {D : MS} {lv : Int} (h : ID D) (hn : D 90 0 ≤ 39) (hlv : 0 ≤ lv ∧ lv ≤ 100) : ID (dAd (dNq D lv) 45 (D 90 0)) := by
  have n := h.n
  have c := h.c
  have hz := h.a70 45
  have e45 : dNq D lv 70 45 = D 70 45 := dNq_d (by omega) (by omega) (by omega) (by omega)
  have e70 : ∀ k, k ≠ 45 → dAd (dNq D lv) 45 (D 90 0) 70 k = D 70 k := fun k hk => by
    show mset (mset _ 71 _ _) 70 45 _ 70 k = _
    rw [mset_k hk, mset_n (by decide)]
    exact dNq_d (by omega) (by omega) (by omega) (by omega)
  have e70b : dAd (dNq D lv) 45 (D 90 0) 70 45 = D 70 45 + 1 := by
    show mset _ 70 45 (dNq D lv 70 45 + 1) 70 45 = _
    rw [mset_s, e45]
  have e71 : ∀ k, dAd (dNq D lv) 45 (D 90 0) 71 k = if k = 40 * 45 + D 70 45 then D 90 0 else D 71 k := fun k => by
    show mset (mset _ 71 (40 * 45 + dNq D lv 70 45) _) 70 45 _ 71 k = _
    rw [mset_n (by decide), mset_f, e45]
    split
    · rfl
    · exact dNq_d (by omega) (by omega) (by omega) (by omega)
  have e90 : dAd (dNq D lv) 45 (D 90 0) 90 0 = D 90 0 + 1 := (dAd_n (by decide) (by decide)).trans (if_pos ⟨rfl, rfl⟩)
  have e91 : dAd (dNq D lv) 45 (D 90 0) 91 0 = D 91 0 := (dAd_n (by decide) (by decide)).trans (dNq_d (by omega) (by omega) (by omega) (by omega))
  have e92 : dAd (dNq D lv) 45 (D 90 0) 92 0 = D 92 0 := (dAd_n (by decide) (by decide)).trans (dNq_d (by omega) (by omega) (by omega) (by omega))
  refine ⟨⟨?_, fun k a b => ⟨?_, ?_⟩, fun k a b => ?_, fun k a b => ?_, ?_, fun p a b => ?_, fun s a b => ?_⟩, ?_, fun k => ?_⟩
  · rw [e90, e91, e92, e70b, e70 46 (by omega), e70 47 (by omega)]
    omega
  · rw [e90] at b
    rw [e71]
    by_cases e : k = D 90 0
    · rw [if_pos (by omega), e]
    · rw [if_neg (by omega)]
      exact h.q ⟨a, by omega⟩
  · rw [e90] at b
    rw [dAd_n (by decide) (by decide)]
    unfold dNq
    by_cases e : k = D 90 0
    · rw [if_neg (by omega), if_pos ⟨e, Or.inl rfl⟩, e]
    · rw [if_neg (by omega), if_neg (by omega), if_neg (by omega), if_neg (by omega), if_neg (by omega), if_neg (by omega), if_neg (by omega), if_neg (by omega)]
      exact h.a20 ⟨a, by omega⟩
  · rw [e91] at b
    rw [e71, if_neg (by omega)]
    exact h.p ⟨a, b⟩
  · rw [e92] at b
    rw [e71, if_neg (by omega)]
    exact h.s ⟨a, b⟩
  · rw [e90, e91, e92]
    omega
  · rw [e70 _ (by omega)]
    exact h.l9 ⟨a, b⟩
  · rw [e70 _ (by omega)]
    exact h.l27 ⟨a, b⟩
  · have g1 := h.a1
    have g6 := h.a6
    have g7 := h.a7
    have g8 := h.a8
    have g9 := h.a9
    have g80 := h.a80
    have e : ∀ f, f ≠ 70 → f ≠ 71 → f < 20 ∨ f = 80 → dAd (dNq D lv) 45 (D 90 0) f 0 = D f 0 := fun f x y z => (dAd_n x y).trans (dNq_d (by omega) (by omega) (by omega) (by omega))
    rw [e 1 (by decide) (by decide) (by decide), e 6 (by decide) (by decide) (by decide), e 7 (by decide) (by decide) (by decide), e 8 (by decide) (by decide) (by decide), e 9 (by decide) (by decide) (by decide), e 80 (by decide) (by decide) (by decide)]
    exact ⟨g1, g6, g7, g8, g9, g80⟩
  · have hk := h.a0 (k - 6 * D 90 0)
    have h1 := h.a1
    refine ⟨?_, ?_, ?_, ?_, ?_, ?_, ?_, ?_, ?_, ?_, ?_, ?_, ?_, ?_, ?_, ?_, ?_, ?_, ?_⟩
    · rw [dAd_n (by decide) (by decide)]; have := h.a0 k; unfold dNq; (repeat' split) <;> omega
    · rw [dAd_n (by decide) (by decide)]; have := h.a22 k; unfold dNq; (repeat' split) <;> omega
    · rw [dAd_n (by decide) (by decide)]; have := h.a23 k; unfold dNq; (repeat' split) <;> omega
    · rw [dAd_n (by decide) (by decide)]; have := h.a25 k; unfold dNq; (repeat' split) <;> omega
    · rw [dAd_n (by decide) (by decide)]; have := h.a26 k; unfold dNq; (repeat' split) <;> omega
    · rw [dAd_n (by decide) (by decide)]; have := h.a27 k; unfold dNq; (repeat' split) <;> omega
    · rw [dAd_n (by decide) (by decide)]; have := h.a28 k; unfold dNq; (repeat' split) <;> omega
    · rw [dAd_n (by decide) (by decide)]; have := h.a30 k; unfold dNq; (repeat' split) <;> omega
    · rw [dAd_n (by decide) (by decide)]; have := h.a40 k; unfold dNq; (repeat' split) <;> omega
    · rw [dAd_n (by decide) (by decide)]; have := h.a41 k; unfold dNq; (repeat' split) <;> omega
    · rw [dAd_n (by decide) (by decide)]; have := h.a42 k; unfold dNq; (repeat' split) <;> omega
    · rw [dAd_n (by decide) (by decide)]; have := h.a50 k; unfold dNq; (repeat' split) <;> omega
    · rw [dAd_n (by decide) (by decide)]; have := h.a51 k; unfold dNq; (repeat' split) <;> omega
    · rw [dAd_n (by decide) (by decide)]; have := h.a52 k; unfold dNq; (repeat' split) <;> omega
    · rw [dAd_n (by decide) (by decide)]; have := h.a54 k; unfold dNq; (repeat' split) <;> omega
    · rw [dAd_n (by decide) (by decide)]; have := h.a60 k; unfold dNq; (repeat' split) <;> omega
    · rw [dAd_n (by decide) (by decide)]; have := h.a61 k; unfold dNq; (repeat' split) <;> omega
    · rw [dAd_n (by decide) (by decide)]; have := h.a62 k; unfold dNq; (repeat' split) <;> omega
    · have := h.a70 k
      by_cases e : k = 45
      · rw [e, e70b]; omega
      · rw [e70 k e]; exact this
theorem dMp_I {D : MS} {w kd n : Int} (h : ID D) (hn : D 91 0 ≤ 11) (hw : 0 ≤ w ∧ w ≤ 999) (hkd : 0 ≤ kd ∧ kd ≤ 65535) (hm : 0 ≤ n ∧ n ≤ 9) : ID (dAd (dMp D w kd n) 46 (D 91 0)) := by
  have nn := h.n
  have c := h.c
  have hz := h.a70 46
  have e45 : dMp D w kd n 70 46 = D 70 46 := dMp_d (by omega) (by omega) (by omega)
  have e70 : ∀ k, k ≠ 46 → dAd (dMp D w kd n) 46 (D 91 0) 70 k = if k = 3 + D 91 0 then 0 else D 70 k := fun k hk => by
    show mset (mset _ 71 _ _) 70 46 _ 70 k = _
    rw [mset_k hk, mset_n (by decide)]
    unfold dMp
    rw [if_neg (by omega), if_neg (by omega), if_neg (by omega), if_neg (by omega), if_neg (by omega)]
    by_cases e : k = 3 + D 91 0
    · rw [if_pos ⟨rfl, e⟩, if_pos e]
    · rw [if_neg (fun w => e w.2), if_neg e]
  have e70b : dAd (dMp D w kd n) 46 (D 91 0) 70 46 = D 70 46 + 1 := by
    show mset _ 70 46 (dMp D w kd n 70 46 + 1) 70 46 = _
    rw [mset_s, e45]
  have e71 : ∀ k, dAd (dMp D w kd n) 46 (D 91 0) 71 k = if k = 40 * 46 + D 70 46 then D 91 0 else D 71 k := fun k => by
    show mset (mset _ 71 (40 * 46 + dMp D w kd n 70 46) _) 70 46 _ 71 k = _
    rw [mset_n (by decide), mset_f, e45]
    split
    · rfl
    · exact dMp_d (by omega) (by omega) (by omega)
  have e90 : dAd (dMp D w kd n) 46 (D 91 0) 90 0 = D 90 0 := (dAd_n (by decide) (by decide)).trans (dMp_d (by omega) (by omega) (by omega))
  have e91 : dAd (dMp D w kd n) 46 (D 91 0) 91 0 = D 91 0 + 1 := (dAd_n (by decide) (by decide)).trans (if_pos ⟨rfl, rfl⟩)
  have e92 : dAd (dMp D w kd n) 46 (D 91 0) 92 0 = D 92 0 := (dAd_n (by decide) (by decide)).trans (dMp_d (by omega) (by omega) (by omega))
  have ee : ∀ f k, f ≠ 70 → f ≠ 71 → f ≠ 91 → f ≠ 50 → f ≠ 51 → f ≠ 52 → f ≠ 54 → dAd (dMp D w kd n) 46 (D 91 0) f k = D f k := fun f k x y z a b cc d => (dAd_n x y).trans (dMp_d (by omega) (by omega) (by omega))
  refine ⟨⟨?_, fun k a b => ⟨?_, ?_⟩, fun k a b => ?_, fun k a b => ?_, ?_, fun p a b => ?_, fun s a b => ?_⟩, ?_, fun k => ?_⟩
  · rw [e90, e91, e92, e70b, e70 45 (by omega), e70 47 (by omega), if_neg (by omega), if_neg (by omega)]
    omega
  · rw [e90] at b
    rw [e71, if_neg (by omega)]
    exact h.q ⟨a, b⟩
  · rw [e90] at b
    rw [ee 20 k (by decide) (by decide) (by decide) (by decide) (by decide) (by decide) (by decide)]
    exact h.a20 ⟨a, b⟩
  · rw [e91] at b
    rw [e71]
    by_cases e : k = D 91 0
    · rw [if_pos (by omega), e]
    · rw [if_neg (by omega)]
      exact h.p ⟨a, by omega⟩
  · rw [e92] at b
    rw [e71, if_neg (by omega)]
    exact h.s ⟨a, b⟩
  · rw [e90, e91, e92]
    omega
  · rw [e70 _ (by omega)]
    have := h.l9 ⟨a, b⟩
    split <;> omega
  · rw [e70 _ (by omega), if_neg (by omega)]
    exact h.l27 ⟨a, b⟩
  · rw [ee 1 0 (by decide) (by decide) (by decide) (by decide) (by decide) (by decide) (by decide), ee 6 0 (by decide) (by decide) (by decide) (by decide) (by decide) (by decide) (by decide), ee 7 0 (by decide) (by decide) (by decide) (by decide) (by decide) (by decide) (by decide), ee 8 0 (by decide) (by decide) (by decide) (by decide) (by decide) (by decide) (by decide), ee 9 0 (by decide) (by decide) (by decide) (by decide) (by decide) (by decide) (by decide), ee 80 0 (by decide) (by decide) (by decide) (by decide) (by decide) (by decide) (by decide)]
    exact h.2.1
  · refine ⟨?_, ?_, ?_, ?_, ?_, ?_, ?_, ?_, ?_, ?_, ?_, ?_, ?_, ?_, ?_, ?_, ?_, ?_, ?_⟩
    · rw [ee 0 k (by decide) (by decide) (by decide) (by decide) (by decide) (by decide) (by decide)]; exact h.a0 k
    · rw [ee 22 k (by decide) (by decide) (by decide) (by decide) (by decide) (by decide) (by decide)]; exact h.a22 k
    · rw [ee 23 k (by decide) (by decide) (by decide) (by decide) (by decide) (by decide) (by decide)]; exact h.a23 k
    · rw [ee 25 k (by decide) (by decide) (by decide) (by decide) (by decide) (by decide) (by decide)]; exact h.a25 k
    · rw [ee 26 k (by decide) (by decide) (by decide) (by decide) (by decide) (by decide) (by decide)]; exact h.a26 k
    · rw [ee 27 k (by decide) (by decide) (by decide) (by decide) (by decide) (by decide) (by decide)]; exact h.a27 k
    · rw [ee 28 k (by decide) (by decide) (by decide) (by decide) (by decide) (by decide) (by decide)]; exact h.a28 k
    · rw [ee 30 k (by decide) (by decide) (by decide) (by decide) (by decide) (by decide) (by decide)]; exact h.a30 k
    · rw [ee 40 k (by decide) (by decide) (by decide) (by decide) (by decide) (by decide) (by decide)]; exact h.a40 k
    · rw [ee 41 k (by decide) (by decide) (by decide) (by decide) (by decide) (by decide) (by decide)]; exact h.a41 k
    · rw [ee 42 k (by decide) (by decide) (by decide) (by decide) (by decide) (by decide) (by decide)]; exact h.a42 k
    · rw [dAd_n (by decide) (by decide)]; have := h.a50 k; unfold dMp; (repeat' split) <;> omega
    · rw [dAd_n (by decide) (by decide)]; have := h.a51 k; unfold dMp; (repeat' split) <;> omega
    · rw [dAd_n (by decide) (by decide)]; have := h.a52 k; unfold dMp; (repeat' split) <;> omega
    · rw [dAd_n (by decide) (by decide)]; have := h.a54 k; unfold dMp; (repeat' split) <;> omega
    · rw [ee 60 k (by decide) (by decide) (by decide) (by decide) (by decide) (by decide) (by decide)]; exact h.a60 k
    · rw [ee 61 k (by decide) (by decide) (by decide) (by decide) (by decide) (by decide) (by decide)]; exact h.a61 k
    · rw [ee 62 k (by decide) (by decide) (by decide) (by decide) (by decide) (by decide) (by decide)]; exact h.a62 k
    · have := h.a70 k
      by_cases e : k = 46
      · rw [e, e70b]; omega
      · rw [e70 k e]
        split <;> omega
theorem DR.newP2 {h : AH} {A : AD} {D : MS} {N U : Nat} {w kd n : Int} (hM : DR h A D N U) (hn : D 91 0 ≤ 11) (hw : 0 ≤ w ∧ w ≤ 999) (hk : 0 ≤ kd ∧ kd ≤ 65535) (hm : 0 ≤ n ∧ n ≤ 9) (hN : N + 200 ≤ z_CC) (hU : U + 5000 ≤ z_CS) :
    DR (pH (h_mk h 6 0 5) (h_n h) w kd n) (aMp A D (h_n h) (h_n h + 1)) (dMp D w kd n) (N + 4) (U + 200) ∧ Ext (h_n h) h (pH (h_mk h 6 0 5) (h_n h) w kd n) := by
  have hb := hM.b
  have h41 := hb.2.1
  have hkz : ∀ q, h_n h ≤ q → h_k h q = 0 := fun q hq => Classical.byContradiction (fun w => by have := hb.1 q w; omega)
  have e1 : h_n (h_mk h 6 0 5) = h_n h + 1 := rfl
  have E : Ext (h_n h) h (pH (h_mk h 6 0 5) (h_n h) w kd n) := (((((((Ext.rf.mk (Nat.le_refl _)).mk (by rw [e1]; omega)).si (by rw [e1]; omega)).sr (by rw [e1]; omega)).sr (Nat.le_refl _)).si (Nat.le_refl _)).si (Nat.le_refl _)).si (Nat.le_refl _)
  have i0 : ∀ j, h_i (h_mk (h_mk h 6 0 5) 5 0 3) (h_n h) j = 0 := fun j => (mk_i (k := 5) (n := 0) (N := 3) (by rw [e1]; omega)).trans (if_pos rfl)
  have j0 : ∀ j, h_i (h_mk (h_mk h 6 0 5) 5 0 3) (h_n h + 1) j = 0 := fun j => if_pos rfl
  have n8 : h_n h + 1 ≠ h_n h := by omega
  refine ⟨hM.newP hn hw hk hm E rfl rfl rfl ?_ hN hU (fun q hq => ?_) ?_ (mk_ks (h := h_mk h 6 0 5) (k := 5) (n := 0) (N := 3)) ?_ ?_ ?_ ?_ ?_ ?_ ?_, E⟩
  · show h_u h + 5 + 3 ≤ _; omega
  · show h_k (h_mk (h_mk h 6 0 5) 5 0 3) q = 0
    rw [mk_k (k := 5) (n := 0) (N := 3) (by rw [e1]; omega), mk_k (k := 6) (n := 0) (N := 5) (by omega)]
    exact hkz q (by omega)
  · show h_k (h_mk (h_mk h 6 0 5) 5 0 3) (h_n h) = 6
    rw [mk_k (k := 5) (n := 0) (N := 3) (by rw [e1]; omega)]
    exact mk_ks (k := 6) (n := 0) (N := 5)
  · simp [pH, hsi_r, hsr_at, e1]
  · simp only [pH, hsi_r, hsr_at, e1]
    simp
  · simp only [pH, hsi_at, hsr_i, e1]
    simp [j0, n8]
  · simp [pH, hsi_at, hsr_i]
  · simp [pH, hsi_at, hsr_i]
  · simp [pH, hsi_at, hsr_i]
  · simp only [pH, hsi_at, hsr_i]
    simp [i0]

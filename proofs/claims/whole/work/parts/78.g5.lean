theorem sCpN_v {M : MS} {j : Int} : ∀ n : Nat, sCpN M n 1 j = if 6 * M 20 0 ≤ j ∧ j < 6 * M 20 0 + n then M 0 (j - 6 * M 20 0) else M 1 j := by
  intro n
  induction n with
  | zero => rw [if_neg (by omega)]; rfl
  | succ n ih =>
    show mset (sCpN M n) 1 (6 * M 20 0 + n) (M 0 n) 1 j = _
    rw [mset_f, ih]
    by_cases e : j = 6 * M 20 0 + n
    · rw [if_pos e, if_pos (by omega), e, show 6 * M 20 0 + (n : Int) - 6 * M 20 0 = n by omega]
    · rw [if_neg e]
      by_cases e2 : 6 * M 20 0 ≤ j ∧ j < 6 * M 20 0 + n
      · rw [if_pos e2, if_pos (by omega)]
      · rw [if_neg e2, if_neg (by omega)]
abbrev dA (D : MS) (lv : Int) : MS := mset (dAd (dNq D lv) 45 (D 90 0)) 1 0 0
/-- a question added -/
theorem PS.ad {D M : MS} (H : DM D M) (hE : ∀ k, 0 ≤ k → k < D 70 0 → iQ D (D 71 (40 * 0 + k))) {lv : Int} (hn : D 90 0 ≤ 39) (hlv : 0 ≤ lv ∧ lv ≤ 100) : PS (dA D lv) (sAdd M lv) := by
  have hI := H.1.2.1
  have hI1 := dNq_I hI hn hlv
  have i90 := hI.n.1
  have z45 := hI.a70 45
  have c := hI.c
  have e20 := H.nn.1
  have hX45 : dNq D lv 70 45 = D 90 0 := (dNq_d (by omega) (by omega) (by omega) (by omega)).trans i90.symm
  obtain ⟨⟨⟨⟨a1, a2, a3⟩, ⟨b1, b2, b3, b4, b5⟩, c1, c2, c3, c4, c5, c6, c7⟩, ⟨d1, d2⟩, e1⟩, -, ⟨H1, H2, H3⟩, hL, hZ⟩ := H.1
  have hO : ∀ f k, f ∉ [1, 20, 22, 23, 25, 26, 27, 28, 29, 30, 40, 41, 42, 70, 71, 90] → dA D lv f k = D f k := fun f k h => by
    simp at h
    unfold dA
    rw [mset_n (by omega), dAd_n (by omega) (by omega), dNq_d (by omega) (by omega) (by omega) (by omega)]
  have hN : ∀ f k, f ∉ [1, 40, 42, 70, 71, 90] → k ≠ D 90 0 → dA D lv f k = D f k := fun f k h ne => by
    simp at h
    unfold dA
    rw [mset_n (by omega), dAd_n (by omega) (by omega), dNq_d (by omega) (by omega) (by omega) (by omega)]
  have e90 : dA D lv 90 0 = D 90 0 + 1 := by
    unfold dA
    rw [mset_n (by decide), dAd_n (by decide) (by decide)]
    exact if_pos ⟨rfl, rfl⟩
  have e1' : dA D lv 1 0 = 0 := mset_s
  have at0 : ∀ f, f ∉ [1, 70, 71] → dA D lv f (D 90 0) = dNq D lv f (D 90 0) := fun f h => by
    simp at h
    unfold dA
    rw [mset_n (by omega), dAd_n (by omega) (by omega)]
  have q22 : dA D lv 22 (D 90 0) = lv := by rw [at0 _ (by decide)]; simp [dNq]
  have q23 : dA D lv 23 (D 90 0) = lv := by rw [at0 _ (by decide)]; simp [dNq]
  have q25 : dA D lv 25 (D 90 0) = 0 := by rw [at0 _ (by decide)]; simp [dNq]
  have q26 : dA D lv 26 (D 90 0) = D 90 0 := by rw [at0 _ (by decide)]; simp [dNq]
  have q28 : dA D lv 28 (D 90 0) = 0 := by rw [at0 _ (by decide)]; simp [dNq]
  have q29 : dA D lv 29 (D 90 0) = 0 := by rw [at0 _ (by decide)]; simp [dNq]
  have q30 : dA D lv 30 (D 90 0) = -1 := by rw [at0 _ (by decide)]; simp [dNq]
  have q41 : dA D lv 41 (D 90 0) = D 1 0 := by rw [at0 _ (by decide)]; simp [dNq]
  have q40 : ∀ k, 0 ≤ k → k < 6 → dA D lv 40 (6 * D 90 0 + k) = D 0 k := fun k a b => by
    unfold dA
    rw [mset_n (by decide), dAd_n (by decide) (by decide)]
    unfold dNq
    rw [if_neg (by omega), if_neg (by omega), if_neg (by omega), if_neg (by omega), if_neg (by omega), if_neg (by omega), if_pos (by omega), show 6 * D 90 0 + k - 6 * D 90 0 = k by omega]
  have h40 : ∀ k, k < 6 * D 90 0 → dA D lv 40 k = D 40 k := fun k a => by
    unfold dA
    rw [mset_n (by decide), dAd_n (by decide) (by decide), dNq_d (by omega) (by omega) (by omega) (by omega)]
  have h42 : ∀ k, k < 30 * D 90 0 → dA D lv 42 k = D 42 k := fun k a => by
    unfold dA
    rw [mset_n (by decide), dAd_n (by decide) (by decide), dNq_d (by omega) (by omega) (by omega) (by omega)]
  have e70 : ∀ k, k ≠ 45 → dA D lv 70 k = D 70 k := fun k h => by
    unfold dA
    rw [mset_n (by decide)]
    show mset (mset (dNq D lv) 71 _ _) 70 45 _ 70 k = D 70 k
    rw [mset_k h, mset_n (by decide), dNq_d (by omega) (by omega) (by omega) (by omega)]
  have e71 : ∀ k, k < 1800 → dA D lv 71 k = D 71 k := fun k h => by
    unfold dA
    rw [mset_n (by decide)]
    show mset (mset (dNq D lv) 71 (40 * 45 + dNq D lv 70 45) _) 70 45 _ 71 k = D 71 k
    rw [mset_n (by decide), hX45, mset_k (by omega), dNq_d (by omega) (by omega) (by omega) (by omega)]
  -- the model's
  have oM : OnlyF [1, 2, 3, 4, 5, 19, 20, 27] M (sAdd M lv) := by
    have h0 := (sCpN_o H.2.1.th (M := sT M 0) (M 19 0).toNat).1
    exact ((((((((OnlyF.rf (fs := [1, 2, 3, 4, 5, 19, 20, 27]) (M := M)).st (f := 27) (k := 0) (z := 0) (by decide)).tr (h0.w (by decide))).st (by decide)).st (by decide)).st (by decide)).st (by decide)).st (by decide)).st (by decide)
  have m20 : sAdd M lv 20 0 = D 90 0 + 1 := by
    unfold sAdd
    rw [mset_s, e20]
  have m19 : sAdd M lv 19 0 = 0 := by
    unfold sAdd
    rw [mset_n (by decide), mset_s]
  have mq : sAdd M lv 2 (D 90 0) = D 1 0 ∧ sAdd M lv 3 (D 90 0) = lv ∧ sAdd M lv 4 (D 90 0) = D 90 0 ∧ sAdd M lv 5 (D 90 0) = -100 := by
    unfold sAdd
    rw [e20]
    refine ⟨?_, ?_, ?_, ?_⟩
    · rw [mset_n (by decide), mset_n (by decide), mset_n (by decide), mset_n (by decide), mset_n (by decide), mset_s]; exact b1
    · rw [mset_n (by decide), mset_n (by decide), mset_n (by decide), mset_n (by decide), mset_s]
    · rw [mset_n (by decide), mset_n (by decide), mset_n (by decide), mset_s]
    · rw [mset_n (by decide), mset_n (by decide), mset_s]
  have mo : ∀ k, k ≠ D 90 0 → sAdd M lv 2 k = M 2 k ∧ sAdd M lv 3 k = M 3 k ∧ sAdd M lv 4 k = M 4 k ∧ sAdd M lv 5 k = M 5 k := fun k ne => by
    have h0 := (sCpN_o H.2.1.th (M := sT M 0) (M 19 0).toNat).1
    unfold sAdd
    rw [e20]
    refine ⟨?_, ?_, ?_, ?_⟩
    · rw [mset_n (by decide), mset_n (by decide), mset_n (by decide), mset_n (by decide), mset_n (by decide), mset_k ne]; exact h0 _ _ (by decide)
    · rw [mset_n (by decide), mset_n (by decide), mset_n (by decide), mset_n (by decide), mset_k ne, mset_n (by decide)]; exact h0 _ _ (by decide)
    · rw [mset_n (by decide), mset_n (by decide), mset_n (by decide), mset_k ne, mset_n (by decide), mset_n (by decide)]; exact h0 _ _ (by decide)
    · rw [mset_n (by decide), mset_n (by decide), mset_k ne, mset_n (by decide), mset_n (by decide), mset_n (by decide)]; exact h0 _ _ (by decide)
  have m1 : ∀ j, sAdd M lv 1 j = if 6 * D 90 0 ≤ j ∧ j < 6 * D 90 0 + D 1 0 then M 0 (j - 6 * D 90 0) else M 1 j := fun j => by
    have h0 := sCpN_v (M := sT M 0) (j := j) (M 19 0).toNat
    have e3 : sT M 0 20 0 = D 90 0 := e20
    have a1 := hI.a1
    have e4 : ((M 19 0).toNat : Int) = D 1 0 := by rw [b1]; omega
    rw [e3, e4] at h0
    unfold sAdd
    rw [mset_n (by decide), mset_n (by decide), mset_n (by decide), mset_n (by decide), mset_n (by decide), mset_n (by decide), h0]
    rfl
  have a41 : ∀ q, D 41 q ≤ 6 := fun q => (hI.a41 q).2
  have a1r := hI.a1
  -- places
  have hpl : ∀ l, pl (dA D lv) l ↔ pl D l := pl_c (hO _ _ (by decide)) (hO _ _ (by decide)) (fun k => hO _ _ (by decide))
  have hp70 : ∀ l, pl D l → dA D lv 70 l = D 70 l := fun l h => e70 _ (by have := pl_r hI h; omega)
  have hp71 : ∀ l k, pl D l → 0 ≤ k → k < D 70 l → dA D lv 71 (40 * l + k) = D 71 (40 * l + k) := fun l k h a b => e71 _ (by have := pl_r hI h; omega)
  refine ⟨⟨⟨⟨?_, ?_, ?_⟩, ⟨?_, ?_, ?_, ?_, ?_⟩, ?_, ?_, ?_, ?_, ?_, ?_, ?_⟩, ⟨?_, ?_⟩, ?_⟩, hI1.s1 (by omega), ⟨?_, ?_, ?_⟩, sAdd_i H.2.1 hlv (by omega), fun p hp => ?_, fun p hp => ?_, fun q hq => ?_, fun s hs => ?_, fun k => ?_⟩
  · rw [e90]; exact m20
  · rw [hO 91 0 (by decide), oM 22 0 (by decide)]; exact a2
  · rw [hO 92 0 (by decide), oM 23 0 (by decide)]; exact a3
  · rw [e1']; exact m19
  · rw [hO 6 0 (by decide), oM 24 0 (by decide)]; exact b2
  · rw [hO 7 0 (by decide), oM 29 0 (by decide)]; exact b3
  · rw [hO 8 0 (by decide), oM 25 0 (by decide)]; exact b4
  · rw [hO 9 0 (by decide), oM 26 0 (by decide)]; exact b5
  · rw [e1']
    intro k x y
    omega
  · unfold iQ
    rw [e90]
    intro q hq
    by_cases e : q = D 90 0
    · subst e
      rw [q41, q23, q26, q30]
      exact ⟨mq.1, mq.2.1, mq.2.2.1, Or.inl ⟨rfl, mq.2.2.2⟩⟩
    · rw [hN 41 q (by decide) e, hN 23 q (by decide) e, hN 26 q (by decide) e, hN 30 q (by decide) e, (mo q e).1, (mo q e).2.1, (mo q e).2.2.1, (mo q e).2.2.2]
      exact c2 q ⟨hq.1, by omega⟩
  · unfold iQ
    rw [e90]
    intro q k hq x y
    rw [m1]
    by_cases e : q = D 90 0
    · subst e
      rw [q41] at y
      rw [if_pos (by omega), q40 k x (by omega), show 6 * D 90 0 + k - 6 * D 90 0 = k by omega]
      exact c1 k x y
    · rw [hN 41 q (by decide) e] at y
      have := a41 q
      rw [if_neg (by omega), h40 _ (by omega)]
      exact c3 q k ⟨hq.1, by omega⟩ x y
  · unfold iP
    rw [hO 91 0 (by decide)]
    intro p hp
    rw [hO 50 p (by decide), hO 51 p (by decide), hO 52 p (by decide), hO 54 p (by decide), oM 8 p (by decide), oM 12 p (by decide), oM 9 p (by decide), oM 14 p (by decide)]
    exact c4 p hp
  · unfold iS
    rw [hO 92 0 (by decide)]
    intro s hs
    rw [hO 60 s (by decide), oM 13 s (by decide)]
    refine ⟨(c5 s hs).1, fun k x y => ?_⟩
    rw [hO 61 _ (by decide), oM 15 _ (by decide)]
    exact (c5 s hs).2 k x y
  · rw [hO 91 0 (by decide)]
    intro p hp
    rw [oM 14 p (by decide)]
    exact c6 p hp
  · rw [hO 92 0 (by decide)]
    intro k hk
    rw [oM 15 k (by decide)]
    exact c7 k hk
  · rw [e70 0 (by decide), oM 21 0 (by decide)]
    exact d1
  · rw [e70 0 (by decide)]
    have z0 := hI.a70 0
    intro k x y
    have := hE k x y
    rw [e71 _ (by omega), oM 6 k (by decide), oM 7 k (by decide), hN 27 _ (by decide) (by unfold iQ at this; omega)]
    exact d2 k x y
  · unfold Rc iS
    rw [hO 92 0 (by decide)]
    intro s hs
    have h27 := hI.l27 (p := s) (by omega)
    rw [hO 62 s (by decide), e70 _ (by omega), oM 17 s (by decide)]
    refine ⟨(e1 s hs).1, (e1 s hs).2.1, fun k x y => ?_⟩
    rw [e71 _ (by omega), oM 16 _ (by decide)]
    exact (e1 s hs).2.2 k x y
  · intro l k l' k' h h' a b a' b' e
    rw [hpl] at h h'
    rw [hp70 l h] at b
    rw [hp70 l' h'] at b'
    rw [hp71 l k h a b, hp71 l' k' h' a' b'] at e
    exact H1 l k l' k' h h' a b a' b' e
  · unfold iQ
    rw [e90]
    intro q hq
    have key : (∃ l k, pl (dA D lv) l ∧ 0 ≤ k ∧ k < dA D lv 70 l ∧ dA D lv 71 (40 * l + k) = q) ↔ ∃ l k, pl D l ∧ 0 ≤ k ∧ k < D 70 l ∧ D 71 (40 * l + k) = q := by
      constructor
      · rintro ⟨l, k, h, a, b, e⟩
        rw [hpl] at h
        rw [hp70 l h] at b
        rw [hp71 l k h a b] at e
        exact ⟨l, k, h, a, b, e⟩
      · rintro ⟨l, k, h, a, b, e⟩
        exact ⟨l, k, (hpl l).mpr h, a, by rw [hp70 l h]; exact b, by rw [hp71 l k h a b]; exact e⟩
    rw [key]
    by_cases e : q = D 90 0
    · subst e
      rw [q28]
      refine ⟨fun w => by omega, ?_⟩
      rintro ⟨l, k, h, a, b, e⟩
      have := H3 l k h a b
      unfold iQ at this
      omega
    · rw [hN 28 q (by decide) e]
      exact H2 q ⟨hq.1, by omega⟩
  · intro l k h a b
    rw [hpl] at h
    rw [hp70 l h] at b
    have := H3 l k h a b
    unfold iQ at this ⊢
    rw [hp71 l k h a b, e90]
    omega
  · unfold iP at hp
    rw [hO 91 0 (by decide)] at hp
    have h9 := hI.l9 (p := p) (by omega)
    obtain ⟨x1, x2⟩ := H.pl hp
    have e70p : dA D lv 70 (3 + p) = D 70 (3 + p) := e70 _ (by omega)
    have ent : ∀ k, 0 ≤ k → k < D 70 (3 + p) → D 71 (40 * (3 + p) + k) ≠ D 90 0 := fun k a b => by
      have := H3 (3 + p) k (Or.inl (by omega)) a b
      unfold iQ at this
      omega
    have hf : sFrc (sAdd M lv) p ↔ sFrc M p := by
      unfold sFrc
      rw [oM 14 _ (by decide), oM 24 _ (by decide), oM 8 _ (by decide)]
    refine ⟨?_, fun _ => ?_⟩
    · rcases x1 with ⟨x1, x3⟩ | ⟨x1, x3⟩
      · refine Or.inl ⟨?_, fun k a b => ?_⟩
        · rw [e70p, oM 11 _ (by decide)]; exact x1
        · rw [e70p] at b
          unfold xD
          rw [e71 _ (by omega), oM 10 _ (by decide)]
          exact x3 k a b
      · exact Or.inr ⟨by rw [e70p]; exact x1, fun w => x3 (hf.mp w)⟩
    · unfold PKp gK gF xD at x2 ⊢
      rw [e70p, hO 51 p (by decide)]
      rcases x2 with x2 | x2
      · refine Or.inl fun k a b => ?_
        rw [e71 _ (by omega), hN 23 _ (by decide) (ent k a b)]
        exact x2 k a b
      · refine Or.inr fun i j a b d => ?_
        rw [e71 _ (by omega), e71 _ (by omega), hN 26 _ (by decide) (ent i a (by omega)), hN 26 _ (by decide) (ent j (by omega) d)]
        exact x2 i j a b d
  · rw [hO 91 0 (by decide)] at hp
    rw [oM 11 _ (by decide)]
    exact hZ p hp
  · unfold iQ at hq
    rw [e90] at hq
    have hac : dAc (dA D lv) q (D 92 0).toNat = dAc D q (D 92 0).toNat := dAc_c hI _ (by omega) (fun k => hO _ _ (by decide)) (fun k a b => e70 _ (by omega)) (fun k a b => e71 _ (by omega))
    rw [hO 92 0 (by decide), hac]
    by_cases e : q = D 90 0
    · subst e
      rw [q23, q25]
      refine ⟨q22.symm, ?_⟩
      have : ∀ n : Nat, (n : Int) ≤ D 92 0 → dAc D (D 90 0) n = 0 := by
        intro n
        induction n with
        | zero => intro _; rfl
        | succ n ih =>
          intro hn2
          have nE : ¬ aE D (D 90 0) n := by
            rintro ⟨k, x, y, w, v⟩
            have := (H.2.2.2.1 (n : Int) ⟨by omega, by omega⟩).2.2 k x y
            unfold iQ at this
            omega
          show dAc D (D 90 0) n + @ite Int (aE D (D 90 0) n) (Classical.propDecidable _) 1 0 = 0
          rw [ih (by omega), if_neg nE]
          rfl
      have i92 := hI.n.2.2
      have z47 := hI.a70 47
      exact (this _ (by omega)).symm
    · have hq2 : iQ D q := ⟨hq.1, by omega⟩
      obtain ⟨v1, v2⟩ := H.2.2.1 q hq2
      have a25 := hI.a25 q
      rw [hN 23 q (by decide) e, hN 25 q (by decide) e]
      refine ⟨?_, v2⟩
      rw [dLv_c2 (D := D) (hN 22 q (by decide) e) _ (fun k x y => h42 _ (by omega))]
      exact v1
  · unfold iS at hs
    rw [hO 92 0 (by decide)] at hs
    have h27 := hI.l27 (p := s) (by omega)
    obtain ⟨w1, w2, w3⟩ := H.2.2.2.1 s hs
    rw [e70 _ (by omega), hO 60 _ (by decide)]
    refine ⟨fun j k x y x' y' e => ?_, w2, fun k x y => ?_⟩
    · rw [e71 _ (by omega), e71 _ (by omega)] at e
      exact w1 j k x y x' y' e
    · have := w3 k x y
      unfold iQ at this ⊢
      rw [e71 _ (by omega), e90]
      omega
  · by_cases e : k = D 90 0
    · rw [e, q29]; decide
    · rw [hN 29 k (by decide) e]
      exact H.2.2.2.2 k
theorem g_add {D M : MS} (H : DM D M) (hE : ∀ k, 0 ≤ k → k < D 70 0 → iQ D (D 71 (40 * 0 + k))) (lv : Int) : AG [eIA, eUO, eIS] (d_add D lv) (s_add M lv) := by
  have e20 := H.nn.1
  have c := H.1.2.1.c
  refine AG.ite (by omega) (fun _ => .no 0 H.th rfl mset_s) (fun h => AG.ite (by rw [H.g1.1]) (fun _ => .no 1 H.th rfl mset_s) (fun h2 => AG.ite (by omega) (fun _ => .no 2 H.th rfl mset_s) (fun h3 => ?_)))
  refine .set (PS.ad H hE (by omega) (by omega)) (by omega) ?_
  unfold sAdd
  rw [mset_n (by decide), mset_n (by decide), mset_n (by decide), mset_n (by decide), mset_n (by decide), mset_n (by decide), (sCpN_o H.2.1.th (M := sT M 0) (M 19 0).toNat).1 _ _ (by decide)]
  exact mset_s

/-- the bits of the row -/
theorem dBw_t {D : MS} {w : Nat} : ∀ n : Nat, (dBw D n).testBit w = true ↔ ∃ k : Int, 0 ≤ k ∧ k < (n : Int) ∧ (D 0 k).toNat = w := by
  intro n
  induction n with
  | zero =>
    refine ⟨fun h => ?_, fun ⟨k, a, b, _⟩ => by omega⟩
    have : (0 : Nat).testBit w = true := h
    rw [Nat.zero_testBit] at this
    exact absurd this (by decide)
  | succ n ih =>
    show (dBw D n ||| 2 ^ (D 0 n).toNat).testBit w = true ↔ _
    rw [Nat.testBit_or, Bool.or_eq_true, ih, Nat.testBit_two_pow, decide_eq_true_eq]
    constructor
    · rintro (⟨k, a, b, c⟩ | h)
      · exact ⟨k, a, by omega, c⟩
      · exact ⟨n, by omega, by omega, h⟩
    · rintro ⟨k, a, b, c⟩
      by_cases e : k = n
      · subst e; exact Or.inr c
      · exact Or.inl ⟨k, a, by omega, c⟩
theorem dRk_t {D : MS} {q : Int} {b w : Nat} : ∀ n : Nat, (dRk D q b n).1.testBit w = true ↔ b.testBit w = true ∧ ∃ k : Int, 0 ≤ k ∧ k < (n : Int) ∧ (D 40 (6 * q + k)).toNat = w := by
  intro n
  induction n with
  | zero =>
    refine ⟨fun h => ?_, fun ⟨_, k, a, b, _⟩ => by omega⟩
    have : (0 : Nat).testBit w = true := h
    rw [Nat.zero_testBit] at this
    exact absurd this (by decide)
  | succ n ih =>
    unfold dRk
    by_cases e : b.testBit (D 40 (6 * q + n)).toNat = true
    · rw [if_pos e]
      show ((dRk D q b n).1 ||| 2 ^ (D 40 (6 * q + n)).toNat).testBit w = true ↔ _
      rw [Nat.testBit_or, Bool.or_eq_true, ih, Nat.testBit_two_pow, decide_eq_true_eq]
      constructor
      · rintro (⟨hb, k, x, y, z⟩ | h)
        · exact ⟨hb, k, x, by omega, z⟩
        · exact ⟨by rw [← h]; exact e, n, by omega, by omega, h⟩
      · rintro ⟨hb, k, x, y, z⟩
        by_cases e2 : k = n
        · subst e2; exact Or.inr z
        · exact Or.inl ⟨hb, k, x, by omega, z⟩
    · rw [if_neg e, ih]
      constructor
      · rintro ⟨hb, k, x, y, z⟩
        exact ⟨hb, k, x, by omega, z⟩
      · rintro ⟨hb, k, x, y, z⟩
        refine ⟨hb, k, x, ?_, z⟩
        by_cases e2 : k = n
        · subst e2
          rw [z] at e
          exact absurd hb e
        · omega
theorem rk_both {D M X Y : MS} (H : DM D M) {q : Int} (hq : iQ D q) (h40 : ∀ k, X 40 k = D 40 k) (h41 : ∀ k, X 41 k = D 41 k) (y0 : ∀ k, Y 0 k = M 0 k) (y1 : ∀ k, Y 1 k = M 1 k) (y2 : ∀ k, Y 2 k = M 2 k) (y19 : Y 19 0 = M 19 0) : dRank X q (dBw D (D 1 0).toNat) = sRank Y q := by
  have hI := H.1.2.1
  have a1 := hI.a1
  have a41 := hI.a41 q
  have e2 := (H.qq q hq).1
  have ew : ∀ k, 0 ≤ k → k < D 41 q → Y 1 (6 * q + k) = D 40 (6 * q + k) := fun k a b => by rw [y1]; exact H.wd q k hq a b
  have key : ∀ n : Nat, (n : Int) ≤ D 41 q → (dRk X q (dBw D (D 1 0).toNat) n).2 = sRankN Y q n := by
    intro n
    induction n with
    | zero => intro _; rfl
    | succ n ih =>
      intro hn
      have hw := hI.a40 (6 * q + n)
      have e := ew n (by omega) (by omega)
      have ht : (dBw D (D 1 0).toNat).testBit (X 40 (6 * q + n)).toNat = true ↔ sTyped Y (Y 1 (6 * q + n)) := by
        rw [dBw_t, h40, e]
        unfold sTyped
        rw [y19, H.g1.1]
        constructor
        · rintro ⟨k, x, y, z⟩
          have := hI.a0 k
          exact ⟨k, x, by omega, by rw [y0, H.row k x (by omega)]; omega⟩
        · rintro ⟨k, x, y, z⟩
          rw [y0, H.row k x y] at z
          exact ⟨k, x, by omega, by rw [z]⟩
      have ha : (dBw D (D 1 0).toNat).testBit (X 40 (6 * q + n)).toNat = true → ((dRk X q (dBw D (D 1 0).toNat) n).1.testBit (X 40 (6 * q + n)).toNat = true ↔ sAhead Y q n) := by
        intro hb
        rw [dRk_t]
        unfold sAhead
        constructor
        · rintro ⟨-, k, x, y, z⟩
          have := hI.a40 (6 * q + k)
          rw [h40, h40] at z
          exact ⟨k, x, y, by rw [ew k x (by omega), e]; omega⟩
        · rintro ⟨k, x, y, z⟩
          rw [ew k x (by omega), e] at z
          exact ⟨hb, k, x, y, by rw [h40, h40, z]⟩
      show (dRk X q (dBw D (D 1 0).toNat) (n + 1)).2 = sRankN Y q n + (@ite Int (sTyped Y (Y 1 (6 * q + n))) (Classical.propDecidable _) (@ite Int (sAhead Y q n) (Classical.propDecidable _) 1 11) 0)
      have es : dRk X q (dBw D (D 1 0).toNat) (n + 1) = if (dBw D (D 1 0).toNat).testBit (X 40 (6 * q + n)).toNat = true then ((dRk X q (dBw D (D 1 0).toNat) n).1 ||| 2 ^ (X 40 (6 * q + n)).toNat, (dRk X q (dBw D (D 1 0).toNat) n).2 + (if (dRk X q (dBw D (D 1 0).toNat) n).1.testBit (X 40 (6 * q + n)).toNat = true then 1 else 11)) else dRk X q (dBw D (D 1 0).toNat) n := rfl
      rw [es, ← ih (by omega)]
      by_cases t : (dBw D (D 1 0).toNat).testBit (X 40 (6 * q + n)).toNat = true
      · rw [if_pos t, if_pos (ht.mp t)]
        show (dRk X q (dBw D (D 1 0).toNat) n).2 + (if (dRk X q (dBw D (D 1 0).toNat) n).1.testBit (X 40 (6 * q + n)).toNat = true then 1 else 11) = _
        by_cases u : (dRk X q (dBw D (D 1 0).toNat) n).1.testBit (X 40 (6 * q + n)).toNat = true
        · rw [if_pos u, if_pos ((ha t).mp u)]
        · rw [if_neg u, if_neg (fun w => u ((ha t).mpr w))]
      · rw [if_neg t, if_neg (fun w => t (ht.mpr w))]
        omega
  unfold dRank sRank
  rw [h41, y2, e2]
  exact key _ (by omega)
theorem sShift_v {r : Int} : ∀ (n : Nat) (M : MS), (∀ j, (sShift r n M).1 ≤ j → j < n → M 7 j < r) ∧ ((sShift r n M).1 = 0 ∨ ¬ M 7 ((sShift r n M).1 - 1) < r) ∧ ∀ k, 0 ≤ k → (sShift r n M).2 7 k = (if (sShift r n M).1 < k ∧ k ≤ n then M 7 (k - 1) else M 7 k) ∧ (sShift r n M).2 6 k = if (sShift r n M).1 < k ∧ k ≤ n then M 6 (k - 1) else M 6 k := by
  intro n
  induction n with
  | zero =>
    intro M
    refine ⟨fun j a b => ?_, Or.inl rfl, fun k a => ?_⟩
    · have a : 0 ≤ j := a
      omega
    · have : ¬ ((0 : Int) < k ∧ k ≤ ((0 : Nat) : Int)) := by omega
      show M 7 k = (if (0 : Int) < k ∧ k ≤ ((0 : Nat) : Int) then M 7 (k - 1) else M 7 k) ∧ M 6 k = if (0 : Int) < k ∧ k ≤ ((0 : Nat) : Int) then M 6 (k - 1) else M 6 k
      rw [if_neg this, if_neg this]
      exact ⟨rfl, rfl⟩
  | succ n ih =>
    intro M
    unfold sShift
    by_cases e : M 7 n < r
    · rw [if_pos e]
      obtain ⟨h1, h2, h3⟩ := ih (mset (mset M 7 (n + 1) (M 7 n)) 6 (n + 1) (M 6 n))
      obtain ⟨-, b1, b2⟩ := sShift_o (r := r) n (mset (mset M 7 (n + 1) (M 7 n)) 6 (n + 1) (M 6 n))
      generalize sShift r n (mset (mset M 7 (n + 1) (M 7 n)) 6 (n + 1) (M 6 n)) = z at h1 h2 h3 b1 b2
      have e7 : ∀ k, mset (mset M 7 (n + 1) (M 7 n)) 6 (n + 1) (M 6 n) 7 k = if k = (n : Int) + 1 then M 7 n else M 7 k := fun k => by rw [mset_n (by decide), mset_f]
      have e6 : ∀ k, mset (mset M 7 (n + 1) (M 7 n)) 6 (n + 1) (M 6 n) 6 k = if k = (n : Int) + 1 then M 6 n else M 6 k := fun k => by rw [mset_f, mset_n (by decide)]
      refine ⟨fun j a b => ?_, ?_, fun k a => ?_⟩
      · by_cases e2 : j = n
        · rw [e2]; exact e
        · have := h1 j a (by omega)
          rw [e7, if_neg (by omega)] at this
          exact this
      · rcases h2 with h2 | h2
        · exact Or.inl h2
        · rw [e7, if_neg (by omega)] at h2
          exact Or.inr h2
      · obtain ⟨h4, h5⟩ := h3 k a
        rw [h4, h5, e7, e7, e6, e6]
        by_cases c1 : k = (n : Int) + 1
        · rw [if_neg (show ¬ (z.1 < k ∧ k ≤ (n : Int)) by omega), if_neg (show ¬ (z.1 < k ∧ k ≤ (n : Int)) by omega), if_pos c1, if_pos c1, if_pos (show z.1 < k ∧ k ≤ ((n + 1 : Nat) : Int) by omega), if_pos (show z.1 < k ∧ k ≤ ((n + 1 : Nat) : Int) by omega), c1, show (n : Int) + 1 - 1 = n by omega]
          exact ⟨rfl, rfl⟩
        · by_cases c2 : z.1 < k ∧ k ≤ (n : Int)
          · have c3 : z.1 < k ∧ k ≤ ((n + 1 : Nat) : Int) := by omega
            have c4 : ¬ k - 1 = (n : Int) + 1 := by omega
            rw [if_pos c2, if_pos c2, if_pos c3, if_pos c3, if_neg c4, if_neg c4]
            exact ⟨rfl, rfl⟩
          · have c3 : ¬ (z.1 < k ∧ k ≤ ((n + 1 : Nat) : Int)) := by omega
            rw [if_neg c2, if_neg c2, if_neg c3, if_neg c3, if_neg c1, if_neg c1]
            exact ⟨rfl, rfl⟩
    · rw [if_neg e]
      refine ⟨fun j a b => ?_, Or.inr ?_, fun k a => ?_⟩
      · have a : (n : Int) + 1 ≤ j := a
        omega
      · show ¬ M 7 ((n : Int) + 1 - 1) < r
        rw [show (n : Int) + 1 - 1 = n by omega]
        exact e
      · have : ¬ ((n : Int) + 1 < k ∧ k ≤ ((n + 1 : Nat) : Int)) := by omega
        show M 7 k = (if (n : Int) + 1 < k ∧ k ≤ ((n + 1 : Nat) : Int) then M 7 (k - 1) else M 7 k) ∧ M 6 k = if (n : Int) + 1 < k ∧ k ≤ ((n + 1 : Nat) : Int) then M 6 (k - 1) else M 6 k
        rw [if_neg this, if_neg this]
        exact ⟨rfl, rfl⟩
/-- the search on both sides -/
def SeR (D M X Y : MS) (n : Int) : Prop :=
  ((∀ f k, f ≠ 27 → ¬ (f = 70 ∧ k = 0) → ¬ (f = 71 ∧ 0 ≤ k ∧ k < 40) → X f k = D f k) ∧ OnlyF [6, 7, 21, 27] M Y) ∧ (Y 21 0 = X 70 0 ∧ 0 ≤ X 70 0 ∧ X 70 0 ≤ n) ∧
  (∀ k, 0 ≤ k → k < X 70 0 → Y 6 k = X 71 (40 * 0 + k) ∧ Y 7 k = X 27 (X 71 (40 * 0 + k)) ∧ 0 ≤ X 71 (40 * 0 + k) ∧ X 71 (40 * 0 + k) < n) ∧ ∀ j k, 0 ≤ j → j < k → k < X 70 0 → Y 7 k ≤ Y 7 j
theorem SeR.st {D M X Y : MS} {n : Int} (H : DM D M) (R : SeR D M X Y n) (hn : iQ D n) : SeR D M (dSe1 (dBw D (D 1 0).toNat) X n) (sSearch1 Y n) (n + 1) := by
  obtain ⟨⟨oX, oY⟩, ⟨c1, c2, c3⟩, r1, r2⟩ := id R
  have c := H.1.2.1.c
  have hn' : 0 ≤ n ∧ n < D 90 0 := hn
  have hr : dRank X n (dBw D (D 1 0).toNat) = sRank Y n := rk_both H hn (fun k => oX _ _ (by decide) (by omega) (by omega)) (fun k => oX _ _ (by decide) (by omega) (by omega)) (fun k => oY _ _ (by decide)) (fun k => oY _ _ (by decide)) (fun k => oY _ _ (by decide)) (oY _ _ (by decide))
  have hr0 : 0 ≤ sRank Y n := by
    have := sRankN_r (M := Y) (q := n) (Y 2 n).toNat
    unfold sRank
    omega
  unfold dSe1 sSearch1
  rw [hr]
  have e27 : ∀ k, mset X 27 n (sRank Y n) 27 k = if k = n then sRank Y n else X 27 k := fun k => mset_f
  have eX : ∀ f k, f ≠ 27 → mset X 27 n (sRank Y n) f k = X f k := fun f k h => mset_n h
  by_cases h0 : sRank Y n = 0
  · rw [if_neg (by omega), if_pos h0]
    refine ⟨⟨fun f k a b d => (eX f k a).trans (oX f k a b d), oY⟩, ⟨?_, ?_, ?_⟩, fun k a b => ?_, fun j k a b d => ?_⟩
    · rw [eX 70 0 (by decide)]; exact c1
    · rw [eX 70 0 (by decide)]; exact c2
    · rw [eX 70 0 (by decide)]; omega
    · rw [eX 70 0 (by decide)] at b
      obtain ⟨x1, x2, x3, x4⟩ := r1 k a b
      rw [eX 71 _ (by decide), e27, if_neg (by omega)]
      exact ⟨x1, x2, x3, by omega⟩
    · rw [eX 70 0 (by decide)] at d
      exact r2 j k a b d
  · rw [if_pos (by omega), if_neg h0, c1]
    obtain ⟨v1, v2, v3⟩ := sShift_v (r := sRank Y n) (X 70 0).toNat Y
    obtain ⟨v4, v5, v6⟩ := sShift_o (r := sRank Y n) (X 70 0).toNat Y
    generalize sShift (sRank Y n) (X 70 0).toNat Y = z at v1 v2 v3 v4 v5 v6
    have ez : (((X 70 0).toNat : Nat) : Int) = X 70 0 := by omega
    rw [ez] at v1 v6
    simp only [ez] at v3
    -- the place
    have hlt : ∀ j, 0 ≤ j → j < z.1 → sRank Y n ≤ Y 7 j := fun j a b => by
      rcases v2 with v2 | v2
      · omega
      · by_cases e : j = z.1 - 1
        · rw [e]; omega
        · have := r2 j (z.1 - 1) a (by omega) (by omega)
          omega
    have hrk : ∀ j, 0 ≤ j → j < X 70 0 → mset X 27 n (sRank Y n) 27 (mset X 27 n (sRank Y n) 71 (40 * 0 + j)) = Y 7 j := fun j a b => by
      obtain ⟨x1, x2, x3, x4⟩ := r1 j a b
      rw [eX 71 _ (by decide), e27, if_neg (by omega), x2]
    have hpl : dPl (mset X 27 n (sRank Y n)) (sRank Y n) = z.1 := by
      unfold dPl
      rw [eX 70 0 (by decide)]
      by_cases e : z.1 < X 70 0
      · refine dFst_at v5 (fun j a b => ?_) ?_ _ (by omega)
        · show sRank Y n ≤ mset X 27 n (sRank Y n) 27 (mset X 27 n (sRank Y n) 71 (40 * 0 + j))
          rw [hrk j a (by omega)]
          exact hlt j a b
        · show ¬ sRank Y n ≤ mset X 27 n (sRank Y n) 27 (mset X 27 n (sRank Y n) 71 (40 * 0 + z.1))
          rw [hrk z.1 v5 e]
          have := v1 z.1 (Int.le_refl _) e
          omega
      · rw [dFst_no _ (fun j a b => ?_)]
        · omega
        · show sRank Y n ≤ mset X 27 n (sRank Y n) 27 (mset X 27 n (sRank Y n) 71 (40 * 0 + j))
          rw [hrk j a (by omega)]
          exact hlt j a (by omega)
    rw [hpl]
    -- the lists behind
    have f70 : dIn (mset X 27 n (sRank Y n)) 0 z.1 n 70 0 = X 70 0 + 1 := by
      unfold dIn
      rw [if_pos ⟨rfl, rfl⟩, eX 70 0 (by decide)]
    have f71 : ∀ k, 0 ≤ k → k < 40 → dIn (mset X 27 n (sRank Y n)) 0 z.1 n 71 (40 * 0 + k) = if k = z.1 then n else if z.1 < k then X 71 (40 * 0 + (k - 1)) else X 71 (40 * 0 + k) := fun k a b => by
      unfold dIn
      rw [if_neg (by omega)]
      by_cases e : k = z.1
      · rw [if_pos (show (71 : Nat) = 71 ∧ 40 * 0 + k = 40 * 0 + z.1 from ⟨rfl, by omega⟩), if_pos e]
      · rw [if_neg (show ¬ ((71 : Nat) = 71 ∧ 40 * 0 + k = 40 * 0 + z.1) by omega), if_neg e]
        by_cases e2 : z.1 < k
        · rw [if_pos (show (71 : Nat) = 71 ∧ 40 * 0 + z.1 < 40 * 0 + k ∧ 40 * 0 + k < 40 * 0 + 40 by omega), if_pos e2, eX 71 _ (by decide), show (40 * 0 + k - 1 : Int) = 40 * 0 + (k - 1) by omega]
        · rw [if_neg (show ¬ ((71 : Nat) = 71 ∧ 40 * 0 + z.1 < 40 * 0 + k ∧ 40 * 0 + k < 40 * 0 + 40) by omega), if_neg e2, eX 71 _ (by decide)]
    have fo : ∀ f k, f ≠ 70 → f ≠ 71 → dIn (mset X 27 n (sRank Y n)) 0 z.1 n f k = mset X 27 n (sRank Y n) f k := fun f k a b => by
      unfold dIn
      rw [if_neg (fun w => a w.1), if_neg (fun w => b w.1), if_neg (fun w => b w.1)]
    have g7 : ∀ k, 0 ≤ k → k ≤ X 70 0 → mset (mset (mset z.2 7 z.1 (sRank Y n)) 6 z.1 n) 21 0 (z.2 21 0 + 1) 7 k = if k = z.1 then sRank Y n else if z.1 < k then Y 7 (k - 1) else Y 7 k := fun k a b => by
      rw [mset_n (by decide), mset_n (by decide), mset_f]
      by_cases e : k = z.1
      · rw [if_pos e, if_pos e]
      · rw [if_neg e, if_neg e, (v3 k a).1]
        by_cases e2 : z.1 < k
        · rw [if_pos ⟨e2, b⟩, if_pos e2]
        · rw [if_neg (fun w => e2 w.1), if_neg e2]
    have g6 : ∀ k, 0 ≤ k → k ≤ X 70 0 → mset (mset (mset z.2 7 z.1 (sRank Y n)) 6 z.1 n) 21 0 (z.2 21 0 + 1) 6 k = if k = z.1 then n else if z.1 < k then Y 6 (k - 1) else Y 6 k := fun k a b => by
      rw [mset_n (by decide), mset_f, mset_n (by decide)]
      by_cases e : k = z.1
      · rw [if_pos e, if_pos e]
      · rw [if_neg e, if_neg e, (v3 k a).2]
        by_cases e2 : z.1 < k
        · rw [if_pos ⟨e2, b⟩, if_pos e2]
        · rw [if_neg (fun w => e2 w.1), if_neg e2]
    refine ⟨⟨fun f k a b d => ?_, (((oY.tr (v4.w (by decide))).st (by decide)).st (by decide)).st (by decide)⟩, ⟨?_, ?_, ?_⟩, fun k a b => ?_, fun j k a b d => ?_⟩
    · unfold dIn
      rw [if_neg b, if_neg (fun w => d ⟨w.1, by omega, by omega⟩), if_neg (fun w => d ⟨w.1, by omega, by omega⟩), eX f k a]
      exact oX f k a b d
    · rw [f70, mset_s, v4 21 0 (by decide), c1]
    · rw [f70]; omega
    · rw [f70]; omega
    · rw [f70] at b
      rw [g6 k a (by omega), g7 k a (by omega), f71 k a (by omega), fo 27 _ (by decide) (by decide), e27]
      by_cases e : k = z.1
      · rw [if_pos e, if_pos e, if_pos e, if_pos rfl]
        exact ⟨rfl, rfl, hn'.1, by omega⟩
      · rw [if_neg e, if_neg e, if_neg e]
        by_cases e2 : z.1 < k
        · obtain ⟨x1, x2, x3, x4⟩ := r1 (k - 1) (by omega) (by omega)
          rw [if_pos e2, if_pos e2, if_pos e2, if_neg (by omega)]
          exact ⟨x1, x2, x3, by omega⟩
        · obtain ⟨x1, x2, x3, x4⟩ := r1 k a (by omega)
          rw [if_neg e2, if_neg e2, if_neg e2, if_neg (by omega)]
          exact ⟨x1, x2, x3, by omega⟩
    · rw [f70] at d
      rw [g7 k (by omega) (by omega), g7 j a (by omega)]
      by_cases e : k = z.1
      · rw [if_pos e, if_neg (by omega), if_neg (by omega)]
        exact hlt j a (by omega)
      · rw [if_neg e]
        by_cases e2 : z.1 < k
        · rw [if_pos e2]
          have hk := v1 (k - 1) (by omega) (by omega)
          by_cases e3 : j = z.1
          · rw [if_pos e3]; omega
          · rw [if_neg e3]
            by_cases e4 : z.1 < j
            · rw [if_pos e4]
              exact r2 (j - 1) (k - 1) (by omega) (by omega) (by omega)
            · rw [if_neg e4]
              have := hlt j a (by omega)
              omega
        · rw [if_neg e2, if_neg (by omega), if_neg (by omega)]
          exact r2 j k a b (by omega)
theorem g_search {D M : MS} (H : DM D M) : AG [eUO] (d_search D) (s_search M) := by
  have hI := H.1.2.1
  have c := hI.c
  have i90 := hI.n.1
  have z45 := hI.a70 45
  refine AG.ite (by rw [H.g1.1]) (fun _ => .no 0 H.th rfl mset_s) (fun _ => ?_)
  rw [H.nn.1]
  have key : ∀ n : Nat, (n : Int) ≤ D 90 0 → SeR D M (dSeN D (dBw D (D 1 0).toNat) n) (sSearchN (mset (sT M 0) 21 0 0) n) n := by
    intro n
    induction n with
    | zero =>
      intro _
      have e : mset D 70 0 0 70 0 = 0 := mset_s
      refine ⟨⟨fun f k a b d => if_neg b, (OnlyF.rf.st (by decide)).st (by decide)⟩, ⟨?_, ?_, ?_⟩, fun k a b => ?_, fun j k a b d => ?_⟩
      · exact mset_s.trans e.symm
      · show 0 ≤ mset D 70 0 0 70 0; omega
      · show mset D 70 0 0 70 0 ≤ ((0 : Nat) : Int); omega
      · have b : k < mset D 70 0 0 70 0 := b; omega
      · have d : k < mset D 70 0 0 70 0 := d; omega
    | succ n ih =>
      intro hn
      exact (ih (by omega)).st H ⟨by omega, by omega⟩
  obtain ⟨⟨oX, oY⟩, ⟨c1, c2, c3⟩, r1, r2⟩ := key (D 90 0).toNat (by omega)
  obtain ⟨-, iX, -⟩ := dSeN_o hI (dBw D (D 1 0).toNat) (D 90 0).toNat (by omega)
  obtain ⟨s1, s2, s3⟩ := sSearchN_o (M := mset (sT M 0) 21 0 0) mset_s (D 90 0).toNat
  have iY : IM (sSearchN (mset (sT M 0) 21 0 0) (D 90 0).toNat) := ((H.2.1.th (c := 0)).s21 (z := 0) (by decide)).of67 s1 ⟨s2, by omega⟩
  have t27 : sSearchN (mset (sT M 0) 21 0 0) (D 90 0).toNat 27 0 = 0 := (s1 27 0 (by decide)).trans ((mset_n (by decide)).trans mset_s)
  generalize dSeN D (dBw D (D 1 0).toNat) (D 90 0).toNat = X at oX c1 c2 c3 r1 r2 iX
  generalize sSearchN (mset (sT M 0) 21 0 0) (D 90 0).toNat = Y at oY c1 r1 r2 iY t27
  obtain ⟨⟨⟨⟨a1, a2, a3⟩, ⟨b1, b2, b3, b4, b5⟩, d1, d2, d3, d4, d5, d6, d7⟩, -, e1⟩, -, hH, hL, hZ⟩ := H.1
  have dd : ∀ f k, f ≠ 27 → f ≠ 70 → f ≠ 71 → X f k = D f k := fun f k a b d => oX f k a (fun w => b w.1) (fun w => d w.1)
  have d70 : ∀ k, k ≠ 0 → X 70 k = D 70 k := fun k h => oX _ _ (by decide) (by omega) (by omega)
  have d71 : ∀ k, 40 ≤ k → X 71 k = D 71 k := fun k h => oX _ _ (by decide) (by omega) (by omega)
  have hRX : RX X Y := by
    refine ⟨⟨⟨?_, ?_, ?_⟩, ⟨?_, ?_, ?_, ?_, ?_⟩, ?_, ?_, ?_, ?_, ?_, ?_, ?_⟩, ⟨c1, fun k a b => ⟨(r1 k a b).1, (r1 k a b).2.1⟩⟩, ?_⟩
    · rw [oY 20 0 (by decide), dd 90 0 (by decide) (by decide) (by decide)]; exact a1
    · rw [oY 22 0 (by decide), dd 91 0 (by decide) (by decide) (by decide)]; exact a2
    · rw [oY 23 0 (by decide), dd 92 0 (by decide) (by decide) (by decide)]; exact a3
    · rw [oY 19 0 (by decide), dd 1 0 (by decide) (by decide) (by decide)]; exact b1
    · rw [oY 24 0 (by decide), dd 6 0 (by decide) (by decide) (by decide)]; exact b2
    · rw [oY 29 0 (by decide), dd 7 0 (by decide) (by decide) (by decide)]; exact b3
    · rw [oY 25 0 (by decide), dd 8 0 (by decide) (by decide) (by decide)]; exact b4
    · rw [oY 26 0 (by decide), dd 9 0 (by decide) (by decide) (by decide)]; exact b5
    · rw [dd 1 0 (by decide) (by decide) (by decide)]
      intro k x y
      rw [oY 0 k (by decide), dd 0 k (by decide) (by decide) (by decide)]
      exact d1 k x y
    · unfold iQ
      rw [dd 90 0 (by decide) (by decide) (by decide)]
      intro q hq
      rw [oY 2 q (by decide), oY 3 q (by decide), oY 4 q (by decide), oY 5 q (by decide), dd 41 q (by decide) (by decide) (by decide), dd 23 q (by decide) (by decide) (by decide), dd 26 q (by decide) (by decide) (by decide), dd 30 q (by decide) (by decide) (by decide)]
      exact d2 q hq
    · unfold iQ
      rw [dd 90 0 (by decide) (by decide) (by decide)]
      intro q k hq
      rw [oY 1 _ (by decide), dd 41 q (by decide) (by decide) (by decide), dd 40 _ (by decide) (by decide) (by decide)]
      exact d3 q k hq
    · unfold iP
      rw [dd 91 0 (by decide) (by decide) (by decide)]
      intro p hp
      rw [oY 8 p (by decide), oY 12 p (by decide), oY 9 p (by decide), oY 14 p (by decide), dd 50 p (by decide) (by decide) (by decide), dd 51 p (by decide) (by decide) (by decide), dd 52 p (by decide) (by decide) (by decide), dd 54 p (by decide) (by decide) (by decide)]
      exact d4 p hp
    · unfold iS
      rw [dd 92 0 (by decide) (by decide) (by decide)]
      intro s hs
      rw [oY 13 s (by decide), dd 60 s (by decide) (by decide) (by decide)]
      refine ⟨(d5 s hs).1, fun k x y => ?_⟩
      rw [oY 15 _ (by decide), dd 61 _ (by decide) (by decide) (by decide)]
      exact (d5 s hs).2 k x y
    · rw [dd 91 0 (by decide) (by decide) (by decide)]
      intro p hp
      rw [oY 14 p (by decide)]
      exact d6 p hp
    · rw [dd 92 0 (by decide) (by decide) (by decide)]
      intro k hk
      rw [oY 15 k (by decide)]
      exact d7 k hk
    · unfold Rc iS
      rw [dd 92 0 (by decide) (by decide) (by decide)]
      intro s hs
      rw [oY 17 s (by decide), dd 62 s (by decide) (by decide) (by decide), d70 _ (by omega)]
      refine ⟨(e1 s hs).1, (e1 s hs).2.1, fun k x y => ?_⟩
      rw [oY 16 _ (by decide), d71 _ (by omega)]
      exact (e1 s hs).2.2 k x y
  have oa : oA D X := ⟨⟨dd _ _ (by decide) (by decide) (by decide), dd _ _ (by decide) (by decide) (by decide)⟩, fun k => ⟨dd _ _ (by decide) (by decide) (by decide), dd _ _ (by decide) (by decide) (by decide), dd _ _ (by decide) (by decide) (by decide), dd _ _ (by decide) (by decide) (by decide), dd _ _ (by decide) (by decide) (by decide)⟩, fun k a _ => d70 k (by omega), fun k a _ => d71 k (by omega)⟩
  refine .ok ⟨H.1.c hRX iX ⟨⟨dd _ _ (by decide) (by decide) (by decide), dd _ _ (by decide) (by decide) (by decide), dd _ _ (by decide) (by decide) (by decide), dd _ _ (by decide) (by decide) (by decide)⟩, fun k => ⟨dd _ _ (by decide) (by decide) (by decide), dd _ _ (by decide) (by decide) (by decide), dd _ _ (by decide) (by decide) (by decide), dd _ _ (by decide) (by decide) (by decide), dd _ _ (by decide) (by decide) (by decide), dd _ _ (by decide) (by decide) (by decide), dd _ _ (by decide) (by decide) (by decide)⟩, fun k a _ => d70 k (by omega), fun k a _ => d71 k (by omega)⟩ (fun k => ⟨oY _ _ (by decide), oY _ _ (by decide), oY _ _ (by decide), oY _ _ (by decide)⟩) (oY _ _ (by decide)), iY, H.2.2.1.c hI oa, H.2.2.2.1.c hI oa (fun k => dd _ _ (by decide) (by decide) (by decide)), fun k => ?_⟩ c1.symm t27
  rw [dd 29 k (by decide) (by decide) (by decide)]
  exact H.2.2.2.2 k

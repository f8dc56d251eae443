/-- a new sheet with these questions -/
def nS (D : MS) (E : Int → Int) (z : Int) : MS := fun f k =>
  if f = 92 ∧ k = 0 then D 92 0 + 1 else if k = D 92 0 ∧ f = 60 then 115 else if k = D 92 0 ∧ f = 62 then z else if f = 61 ∧ 27 * D 92 0 ≤ k ∧ k < 27 * D 92 0 + 27 then 0 else if f = 70 ∧ k = 15 + D 92 0 then z else if f = 71 ∧ 40 * (15 + D 92 0) ≤ k ∧ k < 40 * (15 + D 92 0) + 40 then E (k - 40 * (15 + D 92 0)) else D f k
theorem dMs_n {D : MS} {l : Int} : dMs D l = nS D (fun j => D 71 (40 * l + j)) (D 70 l) := rfl
theorem nS_d {D : MS} {E : Int → Int} {z : Int} {f : Nat} {k : Int} (h1 : ¬ (f = 92 ∧ k = 0)) (h2 : ¬ (k = D 92 0 ∧ (f = 60 ∨ f = 62))) (h3 : ¬ (f = 61 ∧ 27 * D 92 0 ≤ k ∧ k < 27 * D 92 0 + 27)) (h4 : ¬ (f = 70 ∧ k = 15 + D 92 0)) (h5 : ¬ (f = 71 ∧ 40 * (15 + D 92 0) ≤ k ∧ k < 40 * (15 + D 92 0) + 40)) : nS D E z f k = D f k := by
  unfold nS
  rw [if_neg h1, if_neg (by omega), if_neg (by omega), if_neg h3, if_neg h4, if_neg h5]
abbrev dNS (D : MS) (E : Int → Int) (z : Int) : MS := dAd (dHoN (nS D E z) (15 + D 92 0) 1 z.toNat) 47 (D 92 0)
theorem PS.ns {D M : MS} (H : PS D M) {E : Int → Int} {z : Int} (hn : D 92 0 ≤ 29) (hz : 0 ≤ z ∧ z ≤ 27) (hE : ∀ k, 0 ≤ k → k < z → iQ D (E k) ∧ D 28 (E k) = 0 ∧ M 16 (27 * D 92 0 + k) = E k) (hd : ∀ j k, 0 ≤ j → j < z → 0 ≤ k → k < z → E j = E k → j = k) (hI1 : ID (dNS D E z)) : PS (dNS D E z) (sMade M z) := by
  obtain ⟨hR, hI, hH, hIM, hP, hZ, hA, hS, h9⟩ := H
  have i92 := hI.n.2.2
  have z47 := hI.a70 47
  have c := hI.c
  have i91 := hI.n.2.1
  have z46 := hI.a70 46
  have e23 : M 23 0 = D 92 0 := hR.1.1.2.2
  obtain ⟨⟨⟨a1, a2, a3⟩, ⟨b1, b2, b3, b4, b5⟩, c1, c2, c3, c4, c5, c6, c7⟩, ⟨d1, d2⟩, e1⟩ := id hR
  obtain ⟨H1, H2, H3⟩ := id hH
  have o28 := (dHoN_q (D := nS D E z) (l := 15 + D 92 0) (v := 1) z.toNat).1
  have hX47 : dHoN (nS D E z) (15 + D 92 0) 1 z.toNat 70 47 = D 92 0 := by
    rw [o28 70 47 (by decide), nS_d (by omega) (by omega) (by omega) (by omega) (by omega)]
    exact i92.symm
  have hO : ∀ f k, f ∉ [28, 60, 61, 62, 70, 71, 92] → dNS D E z f k = D f k := fun f k h => by
    simp at h
    unfold dNS
    rw [dAd_n (by omega) (by omega), o28 f k (by simp; omega), nS_d (by omega) (by omega) (by omega) (by omega) (by omega)]
  have e92 : dNS D E z 92 0 = D 92 0 + 1 := by
    unfold dNS
    rw [dAd_n (by decide) (by decide), o28 92 0 (by decide)]
    exact if_pos ⟨rfl, rfl⟩
  have e60 : ∀ k, dNS D E z 60 k = if k = D 92 0 then 115 else D 60 k := fun k => by
    unfold dNS
    rw [dAd_n (by decide) (by decide), o28 60 k (by decide)]
    unfold nS
    rw [if_neg (by omega)]
    by_cases e : k = D 92 0
    · rw [if_pos ⟨e, rfl⟩, if_pos e]
    · rw [if_neg (fun w => e w.1), if_neg e, if_neg (by omega), if_neg (by omega), if_neg (by omega), if_neg (by omega)]
  have e62 : ∀ k, dNS D E z 62 k = if k = D 92 0 then z else D 62 k := fun k => by
    unfold dNS
    rw [dAd_n (by decide) (by decide), o28 62 k (by decide)]
    unfold nS
    rw [if_neg (by omega), if_neg (by omega)]
    by_cases e : k = D 92 0
    · rw [if_pos ⟨e, rfl⟩, if_pos e]
    · rw [if_neg (fun w => e w.1), if_neg e, if_neg (by omega), if_neg (by omega), if_neg (by omega)]
  have e61o : ∀ k, k < 27 * D 92 0 → dNS D E z 61 k = D 61 k := fun k h => by
    unfold dNS
    rw [dAd_n (by decide) (by decide), o28 61 k (by decide), nS_d (by omega) (by omega) (by omega) (by omega) (by omega)]
  have e61n : ∀ k, 0 ≤ k → k < 27 → dNS D E z 61 (27 * D 92 0 + k) = 0 := fun k x y => by
    unfold dNS
    rw [dAd_n (by decide) (by decide), o28 61 _ (by decide)]
    unfold nS
    rw [if_neg (by omega), if_neg (by omega), if_neg (by omega), if_pos (by omega)]
  have e70 : ∀ k, k ≠ 47 → dNS D E z 70 k = if k = 15 + D 92 0 then z else D 70 k := fun k h => by
    show mset (mset (dHoN (nS D E z) (15 + D 92 0) 1 z.toNat) 71 _ _) 70 47 _ 70 k = _
    rw [mset_k h, mset_n (by decide), o28 70 k (by decide)]
    unfold nS
    rw [if_neg (by omega), if_neg (by omega), if_neg (by omega), if_neg (by omega)]
    by_cases e : k = 15 + D 92 0
    · rw [if_pos ⟨rfl, e⟩, if_pos e]
    · rw [if_neg (fun w => e w.2), if_neg e, if_neg (by omega)]
  have e70n : dNS D E z 70 (15 + D 92 0) = z := by rw [e70 _ (by omega), if_pos rfl]
  have e70o : ∀ k, k < 45 → k ≠ 15 + D 92 0 → dNS D E z 70 k = D 70 k := fun k h ne => by rw [e70 _ (by omega), if_neg ne]
  have e71o : ∀ k, k < 40 * (15 + D 92 0) → dNS D E z 71 k = D 71 k := fun k h => by
    show mset (mset (dHoN (nS D E z) (15 + D 92 0) 1 z.toNat) 71 (40 * 47 + dHoN (nS D E z) (15 + D 92 0) 1 z.toNat 70 47) _) 70 47 _ 71 k = _
    rw [mset_n (by decide), hX47, mset_k (by omega), o28 71 k (by decide), nS_d (by omega) (by omega) (by omega) (by omega) (by omega)]
  have e71n : ∀ k, 0 ≤ k → k < 40 → dNS D E z 71 (40 * (15 + D 92 0) + k) = E k := fun k x y => by
    show mset (mset (dHoN (nS D E z) (15 + D 92 0) 1 z.toNat) 71 (40 * 47 + dHoN (nS D E z) (15 + D 92 0) 1 z.toNat 70 47) _) 70 47 _ 71 _ = _
    rw [mset_n (by decide), hX47, mset_k (by omega), o28 71 _ (by decide)]
    unfold nS
    rw [if_neg (by omega), if_neg (by omega), if_neg (by omega), if_neg (by omega), if_neg (by omega), if_pos (by omega), show 40 * (15 + D 92 0) + k - 40 * (15 + D 92 0) = k by omega]
  have e28 : ∀ q, (dNS D E z 28 q = 1 ∧ ∃ k, 0 ≤ k ∧ k < z ∧ E k = q) ∨ (dNS D E z 28 q = D 28 q ∧ ∀ k, 0 ≤ k → k < z → E k ≠ q) := fun q => by
    have ee : dNS D E z 28 q = dHoN (nS D E z) (15 + D 92 0) 1 z.toNat 28 q := dAd_n (by decide) (by decide)
    have e2 : nS D E z 28 q = D 28 q := nS_d (by omega) (by omega) (by omega) (by omega) (by omega)
    have e3 : ∀ k, 0 ≤ k → k < 40 → nS D E z 71 (40 * (15 + D 92 0) + k) = E k := fun k x y => by
      unfold nS
      rw [if_neg (by omega), if_neg (by omega), if_neg (by omega), if_neg (by omega), if_neg (by omega), if_pos (by omega), show 40 * (15 + D 92 0) + k - 40 * (15 + D 92 0) = k by omega]
    rw [ee]
    rcases dHoN_v (D := nS D E z) (l := 15 + D 92 0) (v := 1) (q := q) z.toNat with ⟨a, k, x, y, w⟩ | ⟨a, b⟩
    · rw [e3 k x (by omega)] at w
      exact Or.inl ⟨a, k, x, by omega, w⟩
    · refine Or.inr ⟨by rw [a, e2], fun k x y w => b k x (by omega) ?_⟩
      rw [e3 k x (by omega)]
      exact w
  have oM : OnlyF [13, 17, 23] M (sMade M z) := ((OnlyF.rf.st (by decide)).st (by decide)).st (by decide)
  have m13 : ∀ k, sMade M z 13 k = if k = D 92 0 then 115 else M 13 k := fun k => by
    unfold sMade
    rw [mset_n (by decide), mset_f, mset_n (by decide), e23]
  have m17 : ∀ k, sMade M z 17 k = if k = D 92 0 then z else M 17 k := fun k => by
    unfold sMade
    rw [mset_n (by decide), mset_n (by decide), mset_f, e23]
  have m23 : sMade M z 23 0 = D 92 0 + 1 := by
    unfold sMade
    rw [mset_s, e23]
  have hpl : ∀ l, pl (dNS D E z) l ↔ pl D l ∨ l = 15 + D 92 0 := fun l => by
    unfold pl
    rw [hO 91 0 (by decide), e92, e60]
    by_cases e : l - 15 = D 92 0
    · rw [if_pos e]; omega
    · rw [if_neg e]; omega
  have plt : ∀ l, pl D l → l < 15 + D 92 0 := fun l h => by
    unfold pl at h
    omega
  have hent : ∀ l k, pl (dNS D E z) l → 0 ≤ k → k < dNS D E z 70 l → (pl D l ∧ k < D 70 l ∧ dNS D E z 71 (40 * l + k) = D 71 (40 * l + k)) ∨ (l = 15 + D 92 0 ∧ k < z ∧ dNS D E z 71 (40 * l + k) = E k) := fun l k h a b => by
    rcases (hpl l).mp h with h | h
    · have h3 := plt l h
      have h4 := pl_r hI h
      rw [e70o l h4.2.1 (by omega)] at b
      exact Or.inl ⟨h, b, e71o _ (by omega)⟩
    · subst h
      rw [e70n] at b
      exact Or.inr ⟨rfl, b, e71n k a (by omega)⟩
  have hback : ∀ l k, pl D l → 0 ≤ k → k < D 70 l → pl (dNS D E z) l ∧ k < dNS D E z 70 l ∧ dNS D E z 71 (40 * l + k) = D 71 (40 * l + k) := fun l k h a b => by
    have h3 := plt l h
    have h4 := pl_r hI h
    refine ⟨(hpl l).mpr (Or.inl h), ?_, e71o _ (by omega)⟩
    rw [e70o l h4.2.1 (by omega)]
    exact b
  have hno : ∀ l k j, pl D l → 0 ≤ k → k < D 70 l → 0 ≤ j → j < z → D 71 (40 * l + k) ≠ E j := fun l k j h a b x y e => by
    have hq := hE j x y
    have := (H2 _ hq.1).mpr ⟨l, k, h, a, b, e⟩
    omega
  refine ⟨⟨⟨⟨?_, ?_, ?_⟩, ⟨?_, ?_, ?_, ?_, ?_⟩, ?_, ?_, ?_, ?_, ?_, ?_, ?_⟩, ⟨?_, ?_⟩, ?_⟩, hI1, ⟨?_, ?_, ?_⟩, ?_, fun p hp => ?_, fun p hp => ?_, fun q hq => ?_, fun s hs => ?_, fun k => ?_⟩
  · rw [hO 90 0 (by decide), oM 20 0 (by decide)]; exact a1
  · rw [hO 91 0 (by decide), oM 22 0 (by decide)]; exact a2
  · rw [e92]; exact m23
  · rw [hO 1 0 (by decide), oM 19 0 (by decide)]; exact b1
  · rw [hO 6 0 (by decide), oM 24 0 (by decide)]; exact b2
  · rw [hO 7 0 (by decide), oM 29 0 (by decide)]; exact b3
  · rw [hO 8 0 (by decide), oM 25 0 (by decide)]; exact b4
  · rw [hO 9 0 (by decide), oM 26 0 (by decide)]; exact b5
  · rw [hO 1 0 (by decide)]
    intro k x y
    rw [hO 0 k (by decide), oM 0 k (by decide)]
    exact c1 k x y
  · unfold iQ
    rw [hO 90 0 (by decide)]
    intro q hq
    rw [hO 41 q (by decide), hO 23 q (by decide), hO 26 q (by decide), hO 30 q (by decide), oM 2 q (by decide), oM 3 q (by decide), oM 4 q (by decide), oM 5 q (by decide)]
    exact c2 q hq
  · unfold iQ
    rw [hO 90 0 (by decide)]
    intro q k hq
    rw [hO 41 q (by decide), hO 40 _ (by decide), oM 1 _ (by decide)]
    exact c3 q k hq
  · unfold iP
    rw [hO 91 0 (by decide)]
    intro p hp
    rw [hO 50 p (by decide), hO 51 p (by decide), hO 52 p (by decide), hO 54 p (by decide), oM 8 p (by decide), oM 12 p (by decide), oM 9 p (by decide), oM 14 p (by decide)]
    exact c4 p hp
  · unfold iS
    rw [e92]
    intro s hs
    rw [e60, m13]
    by_cases e : s = D 92 0
    · subst e
      rw [if_pos rfl, if_pos rfl]
      refine ⟨rfl, fun k x y => ?_⟩
      rw [e61n k x y, oM 15 _ (by decide)]
      exact c7 _ (by omega)
    · rw [if_neg e, if_neg e]
      have hs2 : iS D s := ⟨hs.1, by omega⟩
      refine ⟨(c5 s hs2).1, fun k x y => ?_⟩
      rw [e61o _ (by omega), oM 15 _ (by decide)]
      exact (c5 s hs2).2 k x y
  · rw [hO 91 0 (by decide)]
    intro p hp
    rw [oM 14 p (by decide)]
    exact c6 p hp
  · rw [e92]
    intro k hk
    rw [oM 15 k (by decide)]
    exact c7 k (by omega)
  · rw [e70o 0 (by decide) (by omega), oM 21 0 (by decide)]
    exact d1
  · rw [e70o 0 (by decide) (by omega)]
    have z0 := hI.a70 0
    intro k x y
    rw [e71o _ (by omega), oM 6 k (by decide), oM 7 k (by decide), hO 27 _ (by decide)]
    exact d2 k x y
  · unfold Rc iS
    rw [e92]
    intro s hs
    rw [e62, m17]
    by_cases e : s = D 92 0
    · subst e
      rw [if_pos rfl, if_pos rfl, e70n]
      refine ⟨rfl, rfl, fun k x y => ?_⟩
      rw [e71n k x (by omega), oM 16 _ (by decide)]
      exact (hE k x y).2.2
    · rw [if_neg e, if_neg e]
      have hs2 : iS D s := ⟨hs.1, by omega⟩
      have h27 := hI.l27 (p := s) (by omega)
      rw [e70o _ (by omega) (by omega)]
      refine ⟨(e1 s hs2).1, (e1 s hs2).2.1, fun k x y => ?_⟩
      rw [e71o _ (by omega), oM 16 _ (by decide)]
      exact (e1 s hs2).2.2 k x y
  · intro l k l' k' h h' a b a' b' e
    rcases hent l k h a b with ⟨x1, x2, x3⟩ | ⟨x1, x2, x3⟩
    · rcases hent l' k' h' a' b' with ⟨y1, y2, y3⟩ | ⟨y1, y2, y3⟩
      · rw [x3, y3] at e
        exact H1 l k l' k' x1 y1 a x2 a' y2 e
      · rw [x3, y3] at e
        exact absurd e (hno l k k' x1 a x2 a' y2)
    · rcases hent l' k' h' a' b' with ⟨y1, y2, y3⟩ | ⟨y1, y2, y3⟩
      · rw [x3, y3] at e
        exact absurd e.symm (hno l' k' k y1 a' y2 a x2)
      · rw [x3, y3] at e
        exact ⟨x1.trans y1.symm, hd k k' a x2 a' y2 e⟩
  · unfold iQ
    rw [hO 90 0 (by decide)]
    intro q hq
    rcases e28 q with ⟨u, k, x, y, w⟩ | ⟨u, v⟩
    · rw [u]
      refine ⟨fun _ => ⟨15 + D 92 0, k, (hpl _).mpr (Or.inr rfl), x, by rw [e70n]; exact y, ?_⟩, fun _ => rfl⟩
      rw [e71n k x (by omega)]
      exact w
    · rw [u, H2 q hq]
      constructor
      · rintro ⟨l, k, h, a, b, e⟩
        obtain ⟨x1, x2, x3⟩ := hback l k h a b
        exact ⟨l, k, x1, a, x2, by rw [x3]; exact e⟩
      · rintro ⟨l, k, h, a, b, e⟩
        rcases hent l k h a b with ⟨x1, x2, x3⟩ | ⟨x1, x2, x3⟩
        · exact ⟨l, k, x1, a, x2, by rw [← x3]; exact e⟩
        · exact absurd (x3.symm.trans e) (v k a x2)
  · intro l k h a b
    unfold iQ
    rw [hO 90 0 (by decide)]
    rcases hent l k h a b with ⟨x1, x2, x3⟩ | ⟨x1, x2, x3⟩
    · rw [x3]; exact H3 l k x1 a x2
    · rw [x3]; exact (hE k a x2).1
  · have e := hIM.1.2.2.2.2.1
    unfold sMade
    rw [e23]
    exact (((hIM.s17 hz).s13 (by decide)).s23 (by omega))
  · unfold iP at hp
    rw [hO 91 0 (by decide)] at hp
    have h9 := hI.l9 (p := p) (by omega)
    obtain ⟨x1, x2⟩ := hP p hp
    have e70p : dNS D E z 70 (3 + p) = D 70 (3 + p) := e70o _ (by omega) (by omega)
    have hf : sFrc (sMade M z) p ↔ sFrc M p := by
      unfold sFrc
      rw [oM 14 _ (by decide), oM 24 _ (by decide), oM 8 _ (by decide)]
    refine ⟨?_, fun ho => ?_⟩
    · rcases x1 with ⟨x1, x3⟩ | ⟨x1, x3⟩
      · refine Or.inl ⟨?_, fun k a b => ?_⟩
        · rw [e70p, oM 11 _ (by decide)]; exact x1
        · rw [e70p] at b
          unfold xD
          rw [e71o _ (by omega), oM 10 _ (by decide)]
          exact x3 k a b
      · exact Or.inr ⟨by rw [e70p]; exact x1, fun w => x3 (hf.mp w)⟩
    · unfold dOpen at ho
      rw [hO 54 _ (by decide), hO 6 _ (by decide), hO 50 _ (by decide)] at ho
      have x2 := x2 ho
      unfold PKp gK gF xD at x2 ⊢
      rw [e70p, hO 51 p (by decide)]
      rcases x2 with x2 | x2
      · refine Or.inl fun k a b => ?_
        rw [e71o _ (by omega), hO 23 _ (by decide)]
        exact x2 k a b
      · refine Or.inr fun i j a b d => ?_
        rw [e71o _ (by omega), e71o _ (by omega), hO 26 _ (by decide), hO 26 _ (by decide)]
        exact x2 i j a b d
  · rw [hO 91 0 (by decide)] at hp
    rw [oM 11 _ (by decide)]
    exact hZ p hp
  · unfold iQ at hq
    rw [hO 90 0 (by decide)] at hq
    obtain ⟨v1, v2⟩ := hA q hq
    have hac : ∀ n : Nat, (n : Int) ≤ D 92 0 → dAc (dNS D E z) q n = dAc D q n := by
      intro n
      induction n with
      | zero => intro _; rfl
      | succ n ih =>
        intro hn2
        have h27 := hI.l27 (p := (n : Int)) (by omega)
        have E1 : aE (dNS D E z) q n ↔ aE D q n := by
          unfold aE
          rw [e70o _ (by omega) (by omega)]
          constructor
          · rintro ⟨k, x, y, w, v⟩
            rw [e71o _ (by omega)] at w
            rw [e61o _ (by omega)] at v
            exact ⟨k, x, y, w, v⟩
          · rintro ⟨k, x, y, w, v⟩
            refine ⟨k, x, y, ?_, ?_⟩
            · rw [e71o _ (by omega)]; exact w
            · rw [e61o _ (by omega)]; exact v
        show dAc (dNS D E z) q n + @ite Int (aE (dNS D E z) q n) (Classical.propDecidable _) 1 0 = dAc D q n + @ite Int (aE D q n) (Classical.propDecidable _) 1 0
        rw [ih (by omega)]
        by_cases w : aE D q n
        · rw [if_pos w, if_pos (E1.mpr w)]
        · have w2 : ¬ aE (dNS D E z) q n := fun v => w (E1.mp v)
          rw [if_neg w, if_neg w2]
    rw [hO 23 _ (by decide), hO 25 _ (by decide), e92, dLv_c (fun k => hO 22 k (by decide)) (fun k => hO 42 k (by decide))]
    refine ⟨v1, ?_⟩
    rw [tnat (by omega)]
    have nE : ¬ aE (dNS D E z) q (((D 92 0).toNat : Nat) : Int) := by
      rw [ntc (by omega)]
      rintro ⟨k, x, y, w, v⟩
      rw [e70n] at y
      rw [e61n k x (by omega)] at v
      omega
    show _ = dAc (dNS D E z) q (D 92 0).toNat + @ite Int (aE (dNS D E z) q (((D 92 0).toNat : Nat) : Int)) (Classical.propDecidable _) 1 0
    rw [hac _ (by omega), if_neg nE, ← v2]
    omega
  · unfold iS at hs
    rw [e92] at hs
    rw [e60]
    by_cases e : s = D 92 0
    · subst e
      rw [if_pos rfl, e70n]
      refine ⟨fun j k x y x' y' e => ?_, Or.inl rfl, fun k x y => ?_⟩
      · rw [e71n j x (by omega), e71n k x' (by omega)] at e
        exact hd j k x y x' y' e
      · unfold iQ
        rw [e71n k x (by omega), hO 90 0 (by decide)]
        exact (hE k x y).1
    · rw [if_neg e]
      have hs2 : iS D s := ⟨hs.1, by omega⟩
      have h27 := hI.l27 (p := s) (by omega)
      obtain ⟨w1, w2, w3⟩ := hS s hs2
      rw [e70o _ (by omega) (by omega)]
      refine ⟨fun j k x y x' y' e => ?_, w2, fun k x y => ?_⟩
      · rw [e71o _ (by omega), e71o _ (by omega)] at e
        exact w1 j k x y x' y' e
      · unfold iQ
        rw [e71o _ (by omega), hO 90 0 (by decide)]
        exact w3 k x y
  · rw [hO 29 k (by decide)]
    exact h9 k

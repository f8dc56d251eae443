/-- a plan made -/
theorem PS.pn {D M : MS} (H : DM D M) {w kd n : Int} (hn : D 91 0 ≤ 11) (hw : 0 ≤ w ∧ w ≤ 999) (hkd : 0 ≤ kd ∧ kd < 65536) (hm : 0 ≤ n ∧ n ≤ 9) : PS (dAd (dMp D w kd n) 46 (D 91 0)) (sPlan M w kd n) := by
  have hI := H.1.2.1
  have hI1 := dMp_I hI hn hw (kd := kd) (by omega) hm
  have i91 := hI.n.2.1
  have z46 := hI.a70 46
  have c := hI.c
  have e22 := H.nn.2.1
  have hX46 : dMp D w kd n 70 46 = D 91 0 := (dMp_d (by omega) (by omega) (by omega)).trans i91.symm
  obtain ⟨⟨⟨⟨a1, a2, a3⟩, ⟨b1, b2, b3, b4, b5⟩, c1, c2, c3, c4, c5, c6, c7⟩, ⟨d1, d2⟩, e1⟩, -, ⟨H1, H2, H3⟩, hL, hZ⟩ := H.1
  have hO : ∀ f k, f ∉ [50, 51, 52, 54, 70, 71, 91] → dAd (dMp D w kd n) 46 (D 91 0) f k = D f k := fun f k h => by
    simp at h
    rw [dAd_n (by omega) (by omega), dMp_d (by omega) (by omega) (by omega)]
  have e91 : dAd (dMp D w kd n) 46 (D 91 0) 91 0 = D 91 0 + 1 := (dAd_n (by decide) (by decide)).trans (if_pos ⟨rfl, rfl⟩)
  have hP : ∀ f k, f = 50 ∨ f = 51 ∨ f = 52 ∨ f = 54 → k ≠ D 91 0 → dAd (dMp D w kd n) 46 (D 91 0) f k = D f k := fun f k h ne => by
    rw [dAd_n (by omega) (by omega), dMp_d (by omega) (by omega) (by omega)]
  have e50 : dAd (dMp D w kd n) 46 (D 91 0) 50 (D 91 0) = w := by rw [dAd_n (by decide) (by decide)]; simp [dMp]
  have e51 : dAd (dMp D w kd n) 46 (D 91 0) 51 (D 91 0) = kd := by rw [dAd_n (by decide) (by decide)]; simp [dMp]
  have e52 : dAd (dMp D w kd n) 46 (D 91 0) 52 (D 91 0) = n := by rw [dAd_n (by decide) (by decide)]; simp [dMp]
  have e54 : dAd (dMp D w kd n) 46 (D 91 0) 54 (D 91 0) = 0 := by rw [dAd_n (by decide) (by decide)]; simp [dMp]
  have e70n : dAd (dMp D w kd n) 46 (D 91 0) 70 (3 + D 91 0) = 0 := by
    show mset (mset (dMp D w kd n) 71 _ _) 70 46 _ 70 (3 + D 91 0) = 0
    rw [mset_k (by omega), mset_n (by decide)]
    simp [dMp]
  have e70 : ∀ k, k ≠ 46 → k ≠ 3 + D 91 0 → dAd (dMp D w kd n) 46 (D 91 0) 70 k = D 70 k := fun k h h' => by
    show mset (mset (dMp D w kd n) 71 _ _) 70 46 _ 70 k = D 70 k
    rw [mset_k h, mset_n (by decide), dMp_d (by omega) (by omega) (by omega)]
  have e71 : ∀ k, k < 1840 → dAd (dMp D w kd n) 46 (D 91 0) 71 k = D 71 k := fun k h => by
    show mset (mset (dMp D w kd n) 71 (40 * 46 + dMp D w kd n 70 46) _) 70 46 _ 71 k = D 71 k
    rw [mset_n (by decide), hX46, mset_k (by omega), dMp_d (by omega) (by omega) (by omega)]
  have eM8 : ∀ k, k ≠ D 91 0 → sPlan M w kd n 8 k = M 8 k ∧ sPlan M w kd n 12 k = M 12 k ∧ sPlan M w kd n 9 k = M 9 k := fun k ne => by
    unfold sPlan
    rw [e22, mset_n (by decide), mset_n (by decide), mset_n (by decide), mset_k ne, mset_n (by decide), mset_n (by decide), mset_k ne, mset_n (by decide), mset_n (by decide), mset_k ne]
    exact ⟨rfl, rfl, rfl⟩
  have eM8n : sPlan M w kd n 8 (D 91 0) = w ∧ sPlan M w kd n 12 (D 91 0) = kd ∧ sPlan M w kd n 9 (D 91 0) = n := by
    unfold sPlan
    rw [e22, mset_n (by decide), mset_n (by decide), mset_n (by decide), mset_s, mset_n (by decide), mset_n (by decide), mset_s, mset_n (by decide), mset_s]
    exact ⟨rfl, rfl, rfl⟩
  have e22n : sPlan M w kd n 22 0 = D 91 0 + 1 := by
    unfold sPlan
    rw [mset_s, e22]
  have oa : oA D (dAd (dMp D w kd n) 46 (D 91 0)) := ⟨⟨hO _ _ (by decide), hO _ _ (by decide)⟩, fun k => ⟨hO _ _ (by decide), hO _ _ (by decide), hO _ _ (by decide), hO _ _ (by decide), hO _ _ (by decide)⟩, fun k _ _ => e70 _ (by omega) (by omega), fun k _ _ => e71 _ (by omega)⟩
  have hpl : ∀ l, pl (dAd (dMp D w kd n) 46 (D 91 0)) l ↔ pl D l ∨ l = 3 + D 91 0 := fun l => by
    unfold pl
    rw [e91, hO 92 0 (by decide), hO 60 _ (by decide)]
    omega
  have hent : ∀ l k, pl (dAd (dMp D w kd n) 46 (D 91 0)) l → 0 ≤ k → k < dAd (dMp D w kd n) 46 (D 91 0) 70 l → pl D l ∧ k < D 70 l ∧ dAd (dMp D w kd n) 46 (D 91 0) 71 (40 * l + k) = D 71 (40 * l + k) := fun l k h a b => by
    have ne : l ≠ 3 + D 91 0 := fun e => by rw [e, e70n] at b; omega
    have h := ((hpl l).mp h).resolve_right ne
    have hr := pl_r hI h
    rw [e70 _ (by omega) ne] at b
    exact ⟨h, b, e71 _ (by omega)⟩
  have hback : ∀ l k, pl D l → 0 ≤ k → k < D 70 l → pl (dAd (dMp D w kd n) 46 (D 91 0)) l ∧ k < dAd (dMp D w kd n) 46 (D 91 0) 70 l ∧ dAd (dMp D w kd n) 46 (D 91 0) 71 (40 * l + k) = D 71 (40 * l + k) := fun l k h a b => by
    have hr := pl_r hI h
    have ne : l ≠ 3 + D 91 0 := fun e => by unfold pl at h; omega
    refine ⟨(hpl l).mpr (Or.inl h), ?_, e71 _ (by omega)⟩
    rw [e70 _ (by omega) ne]
    exact b
  refine ⟨⟨⟨⟨?_, ?_, ?_⟩, ⟨?_, ?_, ?_, ?_, ?_⟩, ?_, ?_, ?_, ?_, ?_, ?_, ?_⟩, ⟨?_, ?_⟩, ?_⟩, hI1, ⟨?_, ?_, ?_⟩, ?_, fun p hp => ?_, fun p hp => ?_, H.2.2.1.c hI oa, H.2.2.2.1.c hI oa (fun k => hO _ _ (by decide)), fun k => ?_⟩
  · rw [hO 90 0 (by decide)]; exact a1
  · rw [e91]; exact e22n
  · rw [hO 92 0 (by decide)]; exact a3
  · rw [hO 1 0 (by decide)]; exact b1
  · rw [hO 6 0 (by decide)]; exact b2
  · rw [hO 7 0 (by decide)]; exact b3
  · rw [hO 8 0 (by decide)]; exact b4
  · rw [hO 9 0 (by decide)]; exact b5
  · rw [hO 1 0 (by decide)]
    intro k x y
    rw [hO 0 k (by decide)]
    exact c1 k x y
  · unfold iQ
    rw [hO 90 0 (by decide)]
    intro q hq
    rw [hO 41 q (by decide), hO 23 q (by decide), hO 26 q (by decide), hO 30 q (by decide)]
    exact c2 q hq
  · unfold iQ
    rw [hO 90 0 (by decide)]
    intro q k hq
    rw [hO 41 q (by decide), hO 40 _ (by decide)]
    exact c3 q k hq
  · unfold iP
    rw [e91]
    intro p hp
    by_cases e : p = D 91 0
    · subst e
      rw [e50, e51, e52, e54]
      exact ⟨eM8n.1, eM8n.2.1, eM8n.2.2, c6 _ (Int.le_refl _)⟩
    · rw [hP 50 p (by decide) e, hP 51 p (by decide) e, hP 52 p (by decide) e, hP 54 p (by decide) e, (eM8 p e).1, (eM8 p e).2.1, (eM8 p e).2.2]
      exact c4 p ⟨hp.1, by omega⟩
  · unfold iS
    rw [hO 92 0 (by decide)]
    intro s hs
    rw [hO 60 s (by decide)]
    refine ⟨(c5 s hs).1, fun k x y => ?_⟩
    rw [hO 61 _ (by decide)]
    exact (c5 s hs).2 k x y
  · rw [e91]
    intro p hp
    exact c6 p (by omega)
  · rw [hO 92 0 (by decide)]
    exact c7
  · rw [e70 0 (by decide) (by omega)]
    exact d1
  · rw [e70 0 (by decide) (by omega)]
    have z0 := hI.a70 0
    intro k x y
    rw [e71 _ (by omega), hO 27 _ (by decide)]
    exact d2 k x y
  · unfold Rc iS
    rw [hO 92 0 (by decide)]
    intro s hs
    have h27 := hI.l27 (p := s) (by omega)
    rw [hO 62 s (by decide), e70 _ (by omega) (by omega)]
    refine ⟨(e1 s hs).1, (e1 s hs).2.1, fun k x y => ?_⟩
    rw [e71 _ (by omega)]
    exact (e1 s hs).2.2 k x y
  · intro l k l' k' h h' a b a' b' e
    obtain ⟨x1, x2, x3⟩ := hent l k h a b
    obtain ⟨y1, y2, y3⟩ := hent l' k' h' a' b'
    rw [x3, y3] at e
    exact H1 l k l' k' x1 y1 a x2 a' y2 e
  · unfold iQ
    rw [hO 90 0 (by decide)]
    intro q hq
    rw [hO 28 q (by decide), H2 q hq]
    constructor
    · rintro ⟨l, k, h, a, b, e⟩
      obtain ⟨x1, x2, x3⟩ := hback l k h a b
      exact ⟨l, k, x1, a, x2, by rw [x3]; exact e⟩
    · rintro ⟨l, k, h, a, b, e⟩
      obtain ⟨x1, x2, x3⟩ := hent l k h a b
      exact ⟨l, k, x1, a, x2, by rw [← x3]; exact e⟩
  · intro l k h a b
    obtain ⟨x1, x2, x3⟩ := hent l k h a b
    unfold iQ
    rw [x3, hO 90 0 (by decide)]
    exact H3 l k x1 a x2
  · have e := H.2.1.1.2.2.2.1
    exact ((((H.2.1.th.s8 hw).s12 hkd).s9 hm).s22 (by omega))
  · unfold iP at hp
    rw [e91] at hp
    by_cases e : p = D 91 0
    · subst e
      refine ⟨Or.inl ⟨?_, fun k a b => ?_⟩, fun _ => Or.inl fun k a b => ?_⟩
      · rw [e70n]; exact hZ _ (Int.le_refl _)
      · rw [e70n] at b; omega
      · rw [e70n] at b; omega
    · have hp2 : iP D p := ⟨hp.1, by omega⟩
      have h9 := hI.l9 (p := p) (by omega)
      obtain ⟨x1, x2⟩ := H.pl hp2
      have e70p : dAd (dMp D w kd n) 46 (D 91 0) 70 (3 + p) = D 70 (3 + p) := e70 _ (by omega) (by omega)
      have hf : sFrc (sPlan M w kd n) p ↔ sFrc M p := by
        unfold sFrc
        rw [(eM8 p e).1]
        exact Iff.rfl
      refine ⟨?_, fun _ => ?_⟩
      · rcases x1 with ⟨x1, x3⟩ | ⟨x1, x3⟩
        · refine Or.inl ⟨?_, fun k a b => ?_⟩
          · rw [e70p]; exact x1
          · rw [e70p] at b
            show M 10 (9 * p + k) = _
            unfold xD
            rw [e71 _ (by omega)]
            exact x3 k a b
        · exact Or.inr ⟨by rw [e70p]; exact x1, fun w => x3 (hf.mp w)⟩
      · unfold PKp gK gF xD at x2 ⊢
        rw [e70p, hP 51 p (by decide) e]
        rcases x2 with x2 | x2
        · refine Or.inl fun k a b => ?_
          rw [e71 _ (by omega), hO 23 _ (by decide)]
          exact x2 k a b
        · refine Or.inr fun i j a b d => ?_
          rw [e71 _ (by omega), e71 _ (by omega), hO 26 _ (by decide), hO 26 _ (by decide)]
          exact x2 i j a b d
  · rw [e91] at hp
    exact hZ p (by omega)
  · rw [hO 29 _ (by decide)]
    exact H.2.2.2.2 k
theorem g_plan {D M : MS} (H : DM D M) (w kd n : Int) (hk : 0 ≤ kd ∧ kd < 65536) : AG [eIA, eIS] (d_plan D w kd n) (s_plan M w kd n) := by
  have e22 := H.nn.2.1
  have e24 := H.g1.2.1
  have a6 := H.1.2.1.a6
  have c := H.1.2.1.c
  unfold d_plan s_plan
  rw [e22, e24]
  by_cases h1 : w < D 6 0 ∨ 999 < w
  · have n1 : ¬ (D 6 0 ≤ w ∧ w ≤ 999) ∨ ¬ (kd = 101 ∨ kd = 109 ∨ kd = 104) ∨ ¬ (1 ≤ n ∧ n ≤ 9) := Or.inl (by omega)
    rw [if_pos h1, if_pos n1]
    exact .no 0 H.th rfl mset_s
  · rw [if_neg h1]
    by_cases h2 : ¬ (kd = 101 ∨ kd = 109 ∨ kd = 104)
    · have n1 : ¬ (D 6 0 ≤ w ∧ w ≤ 999) ∨ ¬ (kd = 101 ∨ kd = 109 ∨ kd = 104) ∨ ¬ (1 ≤ n ∧ n ≤ 9) := Or.inr (Or.inl h2)
      rw [if_pos h2, if_pos n1]
      exact .no 0 H.th rfl mset_s
    · rw [if_neg h2]
      by_cases h3 : n < 1 ∨ 9 < n
      · have n1 : ¬ (D 6 0 ≤ w ∧ w ≤ 999) ∨ ¬ (kd = 101 ∨ kd = 109 ∨ kd = 104) ∨ ¬ (1 ≤ n ∧ n ≤ 9) := Or.inr (Or.inr (by omega))
        rw [if_pos h3, if_pos n1]
        exact .no 0 H.th rfl mset_s
      · have n1 : ¬ (¬ (D 6 0 ≤ w ∧ w ≤ 999) ∨ ¬ (kd = 101 ∨ kd = 109 ∨ kd = 104) ∨ ¬ (1 ≤ n ∧ n ≤ 9)) := by omega
        rw [if_neg h3, if_neg n1]
        refine AG.ite (by omega) (fun _ => .no 1 H.th rfl mset_s) (fun h4 => ?_)
        exact .set (PS.pn H (by omega) (by omega) hk (by omega)) (by omega) rfl

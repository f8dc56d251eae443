/-- the two states, but for the plans' lists -/
def Ra (D M : MS) : Prop :=
  (M 20 0 = D 90 0 ∧ M 22 0 = D 91 0 ∧ M 23 0 = D 92 0) ∧ (M 19 0 = D 1 0 ∧ M 24 0 = D 6 0 ∧ M 29 0 = D 7 0 ∧ M 25 0 = D 8 0 ∧ M 26 0 = D 9 0) ∧ (∀ k, 0 ≤ k → k < D 1 0 → M 0 k = D 0 k) ∧
  (∀ q, iQ D q → M 2 q = D 41 q ∧ M 3 q = D 23 q ∧ M 4 q = D 26 q ∧ ((D 30 q = -1 ∧ M 5 q = -100) ∨ (0 ≤ D 30 q ∧ M 5 q = D 30 q))) ∧
  (∀ q k, iQ D q → 0 ≤ k → k < D 41 q → M 1 (6 * q + k) = D 40 (6 * q + k)) ∧
  (∀ p, iP D p → M 8 p = D 50 p ∧ M 12 p = D 51 p ∧ M 9 p = D 52 p ∧ M 14 p = D 54 p) ∧
  (∀ s, iS D s → M 13 s = D 60 s ∧ ∀ k, 0 ≤ k → k < 27 → M 15 (27 * s + k) = D 61 (27 * s + k)) ∧
  (∀ p, D 91 0 ≤ p → M 14 p = 0) ∧ ∀ k, 27 * D 92 0 ≤ k → M 15 k = 0
def Rb (D M : MS) : Prop := M 21 0 = D 70 0 ∧ ∀ k, 0 ≤ k → k < D 70 0 → M 6 k = D 71 (40 * 0 + k) ∧ M 7 k = D 27 (D 71 (40 * 0 + k))
def Rc (D M : MS) : Prop := ∀ s, iS D s → M 17 s = D 70 (15 + s) ∧ D 62 s = D 70 (15 + s) ∧ ∀ k, 0 ≤ k → k < D 70 (15 + s) → M 16 (27 * s + k) = D 71 (40 * (15 + s) + k)
def RX (D M : MS) : Prop := Ra D M ∧ Rb D M ∧ Rc D M
theorem RX.st {D D' M M' : MS} (H : RX D M) (hI : ID D) (hS : oS D D') (hM : OnlyF [10, 11] M M') : RX D' M' := by
  obtain ⟨⟨⟨a1, a2, a3⟩, ⟨b1, b2, b3, b4, b5⟩, c1, c2, c3, c4, c5, c6, c7⟩, ⟨d1, d2⟩, e1⟩ := H
  have dd : ∀ f k, f ≠ 28 → f ≠ 70 → f ≠ 71 → D' f k = D f k := fun f k x y z => hS f k x (fun w => y w.1) (fun w => z w.1)
  have mm : ∀ f k, f ≠ 10 → f ≠ 11 → M' f k = M f k := fun f k x y => hM f k (by simp; exact ⟨x, y⟩)
  have n0 := hI.a70 0
  have d70 : D' 70 0 = D 70 0 := hS _ _ (by decide) (by omega) (by omega)
  have d70s : ∀ s, 0 ≤ s → D' 70 (15 + s) = D 70 (15 + s) := fun s hs => hS _ _ (by decide) (by omega) (by omega)
  have d71 : ∀ k, k < 120 ∨ 600 ≤ k → D' 71 k = D 71 k := fun k hk => hS _ _ (by decide) (by omega) (by omega)
  refine ⟨⟨?_, ?_, ?_, ?_, ?_, ?_, ?_, ?_, ?_⟩, ⟨?_, ?_⟩, ?_⟩
  · rw [mm 20 0 (by decide) (by decide), mm 22 0 (by decide) (by decide), mm 23 0 (by decide) (by decide), dd 90 0 (by decide) (by decide) (by decide), dd 91 0 (by decide) (by decide) (by decide), dd 92 0 (by decide) (by decide) (by decide)]
    exact ⟨a1, a2, a3⟩
  · rw [mm 19 0 (by decide) (by decide), mm 24 0 (by decide) (by decide), mm 29 0 (by decide) (by decide), mm 25 0 (by decide) (by decide), mm 26 0 (by decide) (by decide), dd 1 0 (by decide) (by decide) (by decide), dd 6 0 (by decide) (by decide) (by decide), dd 7 0 (by decide) (by decide) (by decide), dd 8 0 (by decide) (by decide) (by decide), dd 9 0 (by decide) (by decide) (by decide)]
    exact ⟨b1, b2, b3, b4, b5⟩
  · rw [dd 1 0 (by decide) (by decide) (by decide)]
    intro k x y
    rw [mm 0 k (by decide) (by decide), dd 0 k (by decide) (by decide) (by decide)]
    exact c1 k x y
  · unfold iQ
    rw [dd 90 0 (by decide) (by decide) (by decide)]
    intro q hq
    rw [mm 2 q (by decide) (by decide), mm 3 q (by decide) (by decide), mm 4 q (by decide) (by decide), mm 5 q (by decide) (by decide), dd 41 q (by decide) (by decide) (by decide), dd 23 q (by decide) (by decide) (by decide), dd 26 q (by decide) (by decide) (by decide), dd 30 q (by decide) (by decide) (by decide)]
    exact c2 q hq
  · unfold iQ
    rw [dd 90 0 (by decide) (by decide) (by decide)]
    intro q k hq
    rw [mm 1 _ (by decide) (by decide), dd 41 q (by decide) (by decide) (by decide), dd 40 _ (by decide) (by decide) (by decide)]
    exact c3 q k hq
  · unfold iP
    rw [dd 91 0 (by decide) (by decide) (by decide)]
    intro p hp
    rw [mm 8 p (by decide) (by decide), mm 12 p (by decide) (by decide), mm 9 p (by decide) (by decide), mm 14 p (by decide) (by decide), dd 50 p (by decide) (by decide) (by decide), dd 51 p (by decide) (by decide) (by decide), dd 52 p (by decide) (by decide) (by decide), dd 54 p (by decide) (by decide) (by decide)]
    exact c4 p hp
  · unfold iS
    rw [dd 92 0 (by decide) (by decide) (by decide)]
    intro s hs
    rw [mm 13 s (by decide) (by decide), dd 60 s (by decide) (by decide) (by decide)]
    refine ⟨(c5 s hs).1, fun k x y => ?_⟩
    rw [mm 15 _ (by decide) (by decide), dd 61 _ (by decide) (by decide) (by decide)]
    exact (c5 s hs).2 k x y
  · rw [dd 91 0 (by decide) (by decide) (by decide)]
    intro p hp
    rw [mm 14 p (by decide) (by decide)]
    exact c6 p hp
  · rw [dd 92 0 (by decide) (by decide) (by decide)]
    intro k hk
    rw [mm 15 k (by decide) (by decide)]
    exact c7 k hk
  · rw [mm 21 0 (by decide) (by decide), d70]
    exact d1
  · rw [d70]
    intro k x y
    rw [mm 6 k (by decide) (by decide), mm 7 k (by decide) (by decide), d71 _ (by omega), dd 27 _ (by decide) (by decide) (by decide)]
    exact d2 k x y
  · unfold Rc iS
    rw [dd 92 0 (by decide) (by decide) (by decide)]
    intro s hs
    rw [mm 17 s (by decide) (by decide), dd 62 s (by decide) (by decide) (by decide), d70s s hs.1]
    refine ⟨(e1 s hs).1, (e1 s hs).2.1, fun k x y => ?_⟩
    rw [mm 16 _ (by decide) (by decide), d71 _ (by omega)]
    exact (e1 s hs).2.2 k x y
def Rw (D M : MS) (p : Int) : Prop := M 11 p = D 70 (3 + p) ∧ ∀ k, 0 ≤ k → k < D 70 (3 + p) → M 10 (9 * p + k) = xD D p k
def RLp (D M : MS) (p : Int) : Prop := (sFrc M p → Rw D M p) ∧ (¬ sFrc M p → D 70 (3 + p) = 0)
def PLp (D M : MS) (p : Int) : Prop := Rw D M p ∨ (D 70 (3 + p) = 0 ∧ ¬ sFrc M p)
def KPp (D : MS) (p : Int) : Prop := ∀ j, 0 ≤ j → j < D 70 (3 + p) → dFit D p j
def S1 (i : Int) (D M : MS) : Prop := RX D M ∧ ID D ∧ HD D ∧ (∀ p, iP D p → p < i → RLp D M p ∧ KPp D p) ∧ (∀ p, iP D p → i ≤ p → PLp D M p ∧ (dOpen D p → PKp D p)) ∧ ∀ p, D 91 0 ≤ p → M 11 p = 0
def S2 (D M : MS) : Prop := RX D M ∧ ID D ∧ HD D ∧ (∀ p, iP D p → RLp D M p ∧ KPp D p) ∧ ∀ p, D 91 0 ≤ p → M 11 p = 0
theorem RX.frc {D M : MS} (H : RX D M) {p : Int} (hp : iP D p) : sFrc M p ↔ dOpen D p := by
  obtain ⟨⟨-, ⟨-, b2, -⟩, -, -, -, c4, -⟩, -⟩ := H
  obtain ⟨x1, -, -, x4⟩ := c4 p hp
  unfold sFrc dOpen
  rw [x1, x4, b2]
theorem frc_c {M M' : MS} (hM : OnlyF [10, 11] M M') (p : Int) : sFrc M' p ↔ sFrc M p := by
  unfold sFrc
  rw [hM 14 p (by decide), hM 24 0 (by decide), hM 8 p (by decide)]
/-- what other plans have is the same -/
theorem oth {D D' M M' : MS} {i p : Int} (hI : ID D) (hp : iP D p) (ne : p ≠ i) (h1 : ∀ f k, f ≠ 28 → ¬ (f = 70 ∧ k = 3 + i) → ¬ (f = 71 ∧ 40 * (3 + i) ≤ k ∧ k < 40 * (3 + i) + 40) → D' f k = D f k) (h2 : ∀ f j, f ≠ 11 → ¬ (f = 10 ∧ 9 * i ≤ j ∧ j < 9 * i + 9) → M' f j = M f j) (h3 : ∀ j, j ≠ i → M' 11 j = M 11 j) (hf : sFrc M' p ↔ sFrc M p) :
    D' 70 (3 + p) = D 70 (3 + p) ∧ (∀ k, 0 ≤ k → k < 40 → xD D' p k = xD D p k) ∧ (Rw D M p → Rw D' M' p) ∧ (RLp D M p → RLp D' M' p) ∧ (PLp D M p → PLp D' M' p) ∧ (KPp D p → KPp D' p) ∧ (PKp D p → PKp D' p) := by
  have c := hI.c
  have hp' : 0 ≤ p ∧ p < D 91 0 := hp
  have hn := hI.a70 (3 + p)
  have h9 := hI.l9 (p := p) (by omega)
  have e70 : D' 70 (3 + p) = D 70 (3 + p) := h1 _ _ (by decide) (by omega) (by omega)
  have e71 : ∀ k, 0 ≤ k → k < 40 → D' 71 (40 * (3 + p) + k) = D 71 (40 * (3 + p) + k) := fun k a b => h1 _ _ (by decide) (by omega) (by omega)
  have e23 : ∀ k, D' 23 k = D 23 k := fun k => h1 _ _ (by decide) (by omega) (by omega)
  have e26 : ∀ k, D' 26 k = D 26 k := fun k => h1 _ _ (by decide) (by omega) (by omega)
  have e51 : D' 51 p = D 51 p := h1 _ _ (by decide) (by omega) (by omega)
  have rw1 : Rw D M p → Rw D' M' p := fun ⟨a, b⟩ => by
    unfold Rw
    rw [e70, h3 p ne]
    refine ⟨a, fun k x y => ?_⟩
    rw [h2 10 _ (by decide) (by omega)]
    show _ = D' 71 (40 * (3 + p) + k)
    rw [e71 k x (by omega)]
    exact b k x y
  refine ⟨e70, e71, rw1, fun ⟨a, b⟩ => ⟨fun w => rw1 (a (hf.mp w)), fun w => by rw [e70]; exact b (fun x => w (hf.mpr x))⟩, fun h => ?_, fun h => ?_, fun h => ?_⟩
  · rcases h with h | ⟨h, w⟩
    · exact Or.inl (rw1 h)
    · exact Or.inr ⟨by rw [e70]; exact h, fun x => w (hf.mp x)⟩
  · intro j a b
    rw [e70] at b
    have := h j a b
    unfold dFit dRel at this ⊢
    rw [e71 j a (by omega), e23, e51]
    refine ⟨this.1, fun ⟨k, x, y, z, v⟩ => this.2 ⟨k, x, y, ?_, ?_⟩⟩
    · rw [e70] at z; exact z
    · rw [e70] at z
      rw [e71 k x (by omega), e26, e26] at v
      exact v
  · unfold PKp gK gF at h ⊢
    rw [e70, e51]
    rcases h with h | h
    · refine Or.inl fun k a b => ?_
      show sKd (D' 23 (D' 71 (40 * (3 + p) + k))) = _
      rw [e71 k a (by omega), e23]
      exact h k a b
    · refine Or.inr fun m j a b x => ?_
      show D' 26 (D' 71 (40 * (3 + p) + m)) ≠ D' 26 (D' 71 (40 * (3 + p) + j))
      rw [e71 m a (by omega), e71 j (by omega) (by omega), e26, e26]
      exact h m j a b x
theorem S1.step {i : Int} {D M : MS} (H : S1 i D M) (hIM : IM M) (hi : iP D i) : S1 (i + 1) (dLg i D) (sLg i M) := by
  obtain ⟨hR, hI, hH, hL, hP, hZ⟩ := H
  have c := hI.c
  have hi' : 0 ≤ i ∧ i < D 91 0 := hi
  have hn := hI.a70 (3 + i)
  obtain ⟨o1, o2⟩ := dLg_o i hI hi'
  have o3 : oS D (dLg i D) := dLg_S (by omega)
  obtain ⟨o4, o5⟩ := sLg_o (p := i) hIM
  have e91 : dLg i D 91 0 = D 91 0 := o1 _ _ (by decide)
  have hfr := frc_c o4
  obtain ⟨p1, p2⟩ := hP i hi (Int.le_refl _)
  have hq := hR.1.2.2.2.1
  by_cases ho : dOpen D i
  · have hf := (hR.frc hi).mpr ho
    have hraw : Rw D M i := by
      rcases p1 with p1 | p1
      · exact p1
      · exact absurd hf p1.2
    have hent : ∀ k, 0 ≤ k → k < D 70 (3 + i) → iQ D (xD D i k) := fun k a b => hH.2.2 _ _ (Or.inl (by omega)) a b
    obtain ⟨M', D', eM, eD, b1, b2, b3, b4, b5, b6, b7, b8⟩ := lg_both hI hi hraw.1 hraw.2 (fun k a b => ⟨(hq _ (hent k a b)).2.1, (hq _ (hent k a b)).2.2.1⟩) (hR.1.2.2.2.2.2.1 i hi).2.1 hH (p2 ho) hf
    have eD2 : dLg i D = D' := by
      unfold dLg
      rw [if_pos ho]
      exact eD.symm
    rw [eD2, ← eM]
    rw [eD2] at o1 o2 o3 e91
    rw [← eM] at hfr o4
    have ot : ∀ p, iP D p → p ≠ i → _ := fun p hp ne => oth hI hp ne b5 b1 b2 (hfr p)
    refine ⟨hR.st hI o3 o4, o2, b6, fun p hp hlt => ?_, fun p hp hle => ?_, fun p hp => ?_⟩
    · unfold iP at hp
      rw [e91] at hp
      by_cases e : p = i
      · subst e
        exact ⟨⟨fun _ => ⟨b3, b4⟩, fun w => absurd ((hfr p).mpr hf) w⟩, b8⟩
      · have := ot p hp e
        have h3 := hL p hp (by omega)
        exact ⟨this.2.2.2.1 h3.1, this.2.2.2.2.2.1 h3.2⟩
    · unfold iP at hp
      rw [e91] at hp
      have := ot p hp (by omega)
      have h3 := hP p hp (by omega)
      refine ⟨this.2.2.2.2.1 h3.1, fun w => this.2.2.2.2.2.2 (h3.2 ?_)⟩
      unfold dOpen at w ⊢
      rw [o1 54 p (by decide), o1 6 0 (by decide), o1 50 p (by decide)] at w
      exact w
    · rw [e91] at hp
      rw [b2 p (by omega)]
      exact hZ p hp
  · have hf : ¬ sFrc M i := fun w => ho ((hR.frc hi).mp w)
    have eM : sLg i M = M := if_neg hf
    have eD : dLg i D = dLa D i := if_neg ho
    rw [eM]
    rw [eD] at o1 o2 o3 e91 ⊢
    have hz : dLa D i 70 (3 + i) = 0 := mset_s
    have b5 : ∀ f k, f ≠ 28 → ¬ (f = 70 ∧ k = 3 + i) → ¬ (f = 71 ∧ 40 * (3 + i) ≤ k ∧ k < 40 * (3 + i) + 40) → dLa D i f k = D f k := fun f k a b _ => (if_neg b).trans ((dHoN_o hI (l := 3 + i) (v := 0) (Or.inl rfl) _).1 f k (by simp; exact a))
    have ot : ∀ p, iP D p → p ≠ i → _ := fun p hp ne => oth (M := M) (M' := M) hI hp ne b5 (fun _ _ _ _ => rfl) (fun _ _ => rfl) Iff.rfl
    refine ⟨hR.st hI o3 OnlyF.rf, o2, hH.la hI hi', fun p hp hlt => ?_, fun p hp hle => ?_, fun p hp => ?_⟩
    · unfold iP at hp
      rw [e91] at hp
      by_cases e : p = i
      · subst e
        exact ⟨⟨fun w => absurd w hf, fun _ => hz⟩, fun j a b => by omega⟩
      · have := ot p hp e
        have h3 := hL p hp (by omega)
        exact ⟨this.2.2.2.1 h3.1, this.2.2.2.2.2.1 h3.2⟩
    · unfold iP at hp
      rw [e91] at hp
      have := ot p hp (by omega)
      have h3 := hP p hp (by omega)
      refine ⟨this.2.2.2.2.1 h3.1, fun w => this.2.2.2.2.2.2 (h3.2 ?_)⟩
      unfold dOpen at w ⊢
      rw [o1 54 p (by decide), o1 6 0 (by decide), o1 50 p (by decide)] at w
      exact w
    · rw [e91] at hp
      exact hZ p hp
theorem S1.all {D M : MS} (H : S1 0 D M) (hIM : IM M) : ∀ n : Nat, (n : Int) ≤ D 91 0 → S1 n (dS1 D n) (sL1 M n) := by
  intro n
  induction n with
  | zero => exact fun _ => H
  | succ n ih =>
    intro hn
    have h1 := ih (by omega)
    have e : dS1 D n 91 0 = D 91 0 := (dS1_o H.2.1 n (by omega)).1 _ _ (by decide)
    have := h1.step (sL1_o hIM n).2 (i := n) ⟨by omega, by omega⟩
    exact this
/-- free on both sides -/
theorem S2.fr {D M : MS} (H : S2 D M) {q : Int} (hq : iQ D q) : dAv D q ↔ sFree M q := by
  obtain ⟨hR, hI, ⟨H1, H2, H3⟩, hL, hZ⟩ := H
  obtain ⟨⟨⟨a1, a2, a3⟩, ⟨-, b2, -⟩, -, c2, -, c4, c5, -⟩, -, e1⟩ := id hR
  have hx := (c2 q hq).2.2.2
  have h6 := hI.a6
  have h28 := hI.a28 q
  have hheld : sHeld M q ↔ D 28 q = 1 := by
    rw [H2 q hq]
    refine ⟨fun h => ?_, fun ⟨l, k, h, a, b, w⟩ => ?_⟩
    · rcases h with ⟨p, k, x1, x2, x3, x4, x5⟩ | ⟨s, x1, x2, x3, k, x4, x5, x6⟩
      · have hp : iP D p := ⟨x1, by omega⟩
        obtain ⟨l1, l2⟩ := (hL p hp).1
        unfold sHb at x4
        by_cases hf : sFrc M p
        · rw [if_pos hf] at x4
          obtain ⟨r1, r2⟩ := l1 hf
          have hp' : 0 ≤ p ∧ p < D 91 0 := hp
          exact ⟨3 + p, k, Or.inl (by omega), x3, by omega, by rw [← x5, r2 k x3 (by omega)]⟩
        · rw [if_neg hf] at x4
          omega
      · have hs : iS D s := ⟨x1, by omega⟩
        obtain ⟨r1, r2, r3⟩ := e1 s hs
        have hs' : 0 ≤ s ∧ s < D 92 0 := hs
        refine ⟨15 + s, k, Or.inr ⟨by omega, by omega, ?_⟩, x4, by omega, by rw [← x6, r3 k x4 (by omega)]⟩
        rw [show 15 + s - 15 = s by omega, ← (c5 s hs).1]
        exact x3
    · rcases h with h | ⟨h, h', h5⟩
      · have hp : iP D (l - 3) := ⟨by omega, by omega⟩
        obtain ⟨l1, l2⟩ := (hL _ hp).1
        rw [show 3 + (l - 3) = l by omega] at l2
        by_cases hf : sFrc M (l - 3)
        · obtain ⟨r1, r2⟩ := l1 hf
          rw [show 3 + (l - 3) = l by omega] at r1 r2
          refine Or.inl ⟨l - 3, k, hp.1, by omega, a, ?_, ?_⟩
          · unfold sHb
            rw [if_pos hf]
            omega
          · rw [r2 k a b]
            show D 71 (40 * (3 + (l - 3)) + k) = q
            rw [show 3 + (l - 3) = l by omega]
            exact w
        · have := l2 hf
          omega
      · have hs : iS D (l - 15) := ⟨by omega, by omega⟩
        obtain ⟨r1, r2, r3⟩ := e1 _ hs
        rw [show 15 + (l - 15) = l by omega] at r1 r3
        refine Or.inr ⟨l - 15, hs.1, by omega, ?_, k, a, by omega, ?_⟩
        · rw [(c5 _ hs).1]; exact h5
        · rw [r3 k a b]; exact w
  unfold sFree dAv
  rw [hheld, b2]
  omega
theorem S2.step {D M : MS} (H : S2 D M) {p q : Int} (hp : iP D p) (hq : iQ D q) (ho : dOpen D p) : S2 (dFi1 p D q) (sFl1 p M q) := by
  have hfr := H.fr hq
  obtain ⟨hR, hI, hH, hL, hZ⟩ := id H
  have c := hI.c
  have hp' : 0 ≤ p ∧ p < D 91 0 := hp
  have hn := hI.a70 (3 + p)
  have h52 := hI.a52 p
  have hf := (hR.frc hp).mpr ho
  obtain ⟨⟨l1, l2⟩, l3⟩ := hL p hp
  obtain ⟨r1, r2⟩ := l1 hf
  obtain ⟨⟨⟨a1, a2, a3⟩, -, -, c2, -, c4, -⟩, -⟩ := id hR
  obtain ⟨y1, y2, y3, y4⟩ := c4 p hp
  obtain ⟨z1, z2, z3, z4⟩ := c2 q hq
  have hent : ∀ k, 0 ≤ k → k < D 70 (3 + p) → iQ D (xD D p k) := fun k a b => hH.2.2 _ _ (Or.inl (by omega)) a b
  have hcond : ((sFrc M p ∧ M 11 p < M 9 p) ∧ sKd (M 3 q) = M 12 p ∧ sFree M q ∧ ¬ sTwIn M p (M 11 p) q) ↔ (0 < D 52 p - D 70 (3 + p) ∧ dCan D q (D 51 p) (3 + p)) := by
    unfold dCan
    rw [r1, y3, z2, y2, ← hfr]
    refine ⟨fun ⟨⟨_, a⟩, b, d, e⟩ => ⟨by omega, b, d, fun ⟨k, k1, k2, k3, k4⟩ => e ⟨k, k1, k3, ?_, ?_⟩⟩, fun ⟨a, b, d, e⟩ => ⟨⟨hf, by omega⟩, b, d, fun ⟨k, k1, k2, k3, k4⟩ => e ⟨k, k1, k2, k2, ?_⟩⟩⟩
    · rw [r2 k k1 k3]
      intro w
      have := (hH.2.1 q hq).mpr ⟨3 + p, k, Or.inl (by omega), k1, k3, w⟩
      have := d.1
      omega
    · rw [r2 k k1 k3, (c2 _ (hent k k1 k3)).2.2.1, z3]
      exact k4
    · rw [r2 k k1 k2, (c2 _ (hent k k1 k2)).2.2.1, z3] at k4
      exact k4
  unfold dFi1 sFl1
  by_cases hc : 0 < D 52 p - D 70 (3 + p) ∧ dCan D q (D 51 p) (3 + p)
  · rw [if_pos hc, if_pos (hcond.mpr hc)]
    obtain ⟨h1, hk, hav, hnr⟩ := hc
    have o1 : OnlyF [28, 70, 71] D (mset (dAd D (3 + p) q) 28 q 1) := (dAd_o.w (by decide)).st (by decide)
    have o2 : ID (mset (dAd D (3 + p) q) 28 q 1) := (hI.ad (by omega) (by omega) (fun _ _ => by omega) (fun _ => by omega)).s28 (Or.inr rfl)
    have b5 : ∀ f k, f ≠ 28 → ¬ (f = 70 ∧ k = 3 + p) → ¬ (f = 71 ∧ 40 * (3 + p) ≤ k ∧ k < 40 * (3 + p) + 40) → mset (dAd D (3 + p) q) 28 q 1 f k = D f k := fun f k a b d => by
      rw [mset_n a]
      show mset (mset D 71 (40 * (3 + p) + D 70 (3 + p)) q) 70 (3 + p) (D 70 (3 + p) + 1) f k = _
      rw [mset2, if_neg b, mset2, if_neg (fun w => d ⟨w.1, by omega, by omega⟩)]
    have o3 : oS D (mset (dAd D (3 + p) q) 28 q 1) := fun f k x y z => b5 f k x (fun w => y ⟨w.1, by omega, by omega⟩) (fun w => z ⟨w.1, by omega, by omega⟩)
    have o4 : OnlyF [10, 11] M (mset (mset M 10 (9 * p + M 11 p) q) 11 p (M 11 p + 1)) := (OnlyF.rf.st (by decide)).st (by decide)
    have e91 : mset (dAd D (3 + p) q) 28 q 1 91 0 = D 91 0 := o1 _ _ (by decide)
    have hff := frc_c o4
    have e70 : mset (dAd D (3 + p) q) 28 q 1 70 (3 + p) = D 70 (3 + p) + 1 := (mset_n (by decide)).trans mset_s
    have e71 : ∀ k, xD (mset (dAd D (3 + p) q) 28 q 1) p k = if k = D 70 (3 + p) then q else xD D p k := fun k => by
      show mset (dAd D (3 + p) q) 28 q 1 71 (40 * (3 + p) + k) = _
      rw [mset_n (by decide)]
      show mset (mset D 71 (40 * (3 + p) + D 70 (3 + p)) q) 70 (3 + p) (D 70 (3 + p) + 1) 71 (40 * (3 + p) + k) = _
      rw [mset_n (by decide), mset_f]
      by_cases e : k = D 70 (3 + p)
      · rw [if_pos (by omega), if_pos e]
      · rw [if_neg (by omega), if_neg e]
    have ot : ∀ j, iP D j → j ≠ p → _ := fun j hj ne => oth (M' := mset (mset M 10 (9 * p + M 11 p) q) 11 p (M 11 p + 1)) hI hj ne b5 (fun f k x y => by rw [mset_n x, mset2, if_neg (fun w => y ⟨w.1, by omega, by omega⟩)]) (fun k ne => by rw [mset_k ne]; exact mset_n (by decide)) (hff j)
    refine ⟨hR.st hI o3 o4, o2, hH.ad hI hp' (by omega) hq hav.1, fun j hj => ?_, fun j hj => ?_⟩
    · unfold iP at hj
      rw [e91] at hj
      by_cases e : j = p
      · subst e
        refine ⟨⟨fun _ => ⟨?_, fun k a b => ?_⟩, fun w => absurd ((hff j).mpr hf) w⟩, fun k a b => ?_⟩
        · rw [mset_s, e70, r1]
        · rw [e70] at b
          rw [e71 k, mset_n (by decide), mset_f, r1]
          by_cases e : k = D 70 (3 + j)
          · rw [if_pos (by omega), if_pos e]
          · rw [if_neg (by omega), if_neg e]
            exact r2 k a (by omega)
        · rw [e70] at b
          have e23 : ∀ k, mset (dAd D (3 + j) q) 28 q 1 23 k = D 23 k := fun k => o1 _ _ (by decide)
          have e26 : ∀ k, mset (dAd D (3 + j) q) 28 q 1 26 k = D 26 k := fun k => o1 _ _ (by decide)
          have e51 : mset (dAd D (3 + j) q) 28 q 1 51 j = D 51 j := o1 _ _ (by decide)
          have e71' : ∀ k, mset (dAd D (3 + j) q) 28 q 1 71 (40 * (3 + j) + k) = if k = D 70 (3 + j) then q else xD D j k := e71
          unfold dFit dRel
          rw [e71', e23, e51]
          by_cases e : k = D 70 (3 + j)
          · rw [if_pos e]
            refine ⟨hk, fun ⟨m, x, y, z, v⟩ => hnr ⟨m, x, by omega, by omega, ?_⟩⟩
            rw [e71', if_neg (by omega), e26, e26] at v
            exact v
          · rw [if_neg e]
            have := l3 k a (by omega)
            refine ⟨this.1, fun ⟨m, x, y, z, v⟩ => this.2 ⟨m, x, y, by omega, ?_⟩⟩
            rw [e71', if_neg (by omega), e26, e26] at v
            exact v
      · have := ot j hj e
        have h3 := hL j hj
        exact ⟨this.2.2.2.1 h3.1, this.2.2.2.2.2.1 h3.2⟩
    · rw [e91] at hj
      rw [mset_k (by omega), mset_n (by decide)]
      exact hZ j hj
  · rw [if_neg hc, if_neg (fun w => hc (hcond.mp w))]
    exact H
theorem S2.fil {D M : MS} (H : S2 D M) {p : Int} (hp : iP D p) (ho : dOpen D p) : ∀ n : Nat, (n : Int) ≤ D 90 0 → S2 (dFiN p D n) (sFlN p M n) := by
  intro n
  induction n with
  | zero => exact fun _ => H
  | succ n ih =>
    intro hn
    have h1 := ih (by omega)
    have hp' : 0 ≤ p ∧ p < D 91 0 := hp
    have c := H.2.1.c
    obtain ⟨o, -⟩ := dFiN_o (p := p) H.2.1 (by omega) n
    have e90 := o 90 0 (by decide)
    have e91 := o 91 0 (by decide)
    refine h1.step ⟨hp'.1, by omega⟩ ⟨by omega, by omega⟩ ?_
    unfold dOpen
    rw [o 54 p (by decide), o 6 0 (by decide), o 50 p (by decide)]
    exact ho
theorem S2.one {D M : MS} (H : S2 D M) {p : Int} (hp : iP D p) : S2 (dFl p D) (sFlN p M (M 20 0).toNat) := by
  have e : M 20 0 = D 90 0 := H.1.1.1.1
  have hz := H.2.1.a70 45
  have hn := H.2.1.n
  unfold dFl
  by_cases ho : dOpen D p
  · rw [if_pos ho, e]
    exact H.fil hp ho _ (by omega)
  · rw [if_neg ho]
    have hf : ¬ sFrc M p := fun w => ho ((H.1.frc hp).mp w)
    have : sFlN p M (M 20 0).toNat = M := sFlN_e (k := 0) (by decide) rfl (fun w => hf w.1) _ (by omega)
    rw [this]
    exact H
theorem S2.all {D M : MS} (H : S2 D M) (hIM : IM M) : ∀ n : Nat, (n : Int) ≤ D 91 0 → S2 (dS2 D n) (sL2 M n) := by
  intro n
  induction n with
  | zero => exact fun _ => H
  | succ n ih =>
    intro hn
    have h1 := ih (by omega)
    have e : dS2 D n 91 0 = D 91 0 := (dS2_o H.2.1 n (by omega)).1 _ _ (by decide)
    have e2 : sL2 M n 20 0 = M 20 0 := (sL2_o hIM n).1 _ _ (by decide)
    have := h1.one (p := n) ⟨by omega, by omega⟩
    rw [e2] at this
    exact this
/-- settling is the same on both sides -/
theorem settle_both {D M : MS} (hR : RX D M) (hI : ID D) (hH : HD D) (hIM : IM M) (hP : ∀ p, iP D p → PLp D M p ∧ (dOpen D p → PKp D p)) (hZ : ∀ p, D 91 0 ≤ p → M 11 p = 0) : S2 (dSet D) (sSettle M) := by
  have hz := hI.a70 46
  have hn := hI.n
  have h1 : S1 0 D M := ⟨hR, hI, hH, fun p hp hlt => by have := hp.1; omega, fun p hp _ => hP p hp, hZ⟩
  have e22 : M 22 0 = D 91 0 := hR.1.1.2.1
  have h2 := h1.all hIM (D 91 0).toNat (by omega)
  have e : dS1 D (D 91 0).toNat 91 0 = D 91 0 := (dS1_o hI (D 91 0).toNat (by omega)).1 _ _ (by decide)
  obtain ⟨a, b, c, d, -, f⟩ := h2
  have h3 : S2 (dS1 D (D 91 0).toNat) (sL1 M (D 91 0).toNat) := ⟨a, b, c, fun p hp => d p hp (by have h9 : 0 ≤ p ∧ p < dS1 D (D 91 0).toNat 91 0 := hp; omega), f⟩
  have h4 := h3.all (sL1_o hIM _).2 (D 91 0).toNat (by omega)
  unfold dSet sSettle
  rw [e22]
  exact h4

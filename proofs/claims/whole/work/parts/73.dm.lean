/-- what no relation of the two states looks at -/
def oW (D D' : MS) : Prop := ∀ f k, (f ≠ 28 ∧ f ≠ 29 ∧ f ≠ 80 ∧ f ≠ 81) → ¬ (f = 70 ∧ 1 ≤ k ∧ k < 15) → ¬ (f = 71 ∧ 40 ≤ k ∧ k < 600) → D' f k = D f k
def mW (M M' : MS) : Prop := ∀ f k, (f ≠ 10 ∧ f ≠ 11 ∧ f ≠ 18 ∧ f ≠ 27 ∧ f ≠ 28 ∧ f ≠ 30) → ¬ (f = 16 ∧ 27 * M 23 0 ≤ k) → M' f k = M f k
theorem RX.w {D D' M M' : MS} (H : RX D M) (hI : ID D) (hS : oW D D') (hM : mW M M') : RX D' M' := by
  obtain ⟨⟨⟨a1, a2, a3⟩, ⟨b1, b2, b3, b4, b5⟩, c1, c2, c3, c4, c5, c6, c7⟩, ⟨d1, d2⟩, e1⟩ := H
  have dd : ∀ f k, f ≠ 28 ∧ f ≠ 29 ∧ f ≠ 80 ∧ f ≠ 81 → f ≠ 70 → f ≠ 71 → D' f k = D f k := fun f k x y z => hS f k x (fun w => y w.1) (fun w => z w.1)
  have mm : ∀ f k, f ≠ 16 → (f ≠ 10 ∧ f ≠ 11 ∧ f ≠ 18 ∧ f ≠ 27 ∧ f ≠ 28 ∧ f ≠ 30) → M' f k = M f k := fun f k x y => hM f k y (fun w => x w.1)
  have m16 : ∀ k, k < 27 * M 23 0 → M' 16 k = M 16 k := fun k hk => hM 16 k (by decide) (fun w => by omega)
  have n0 := hI.a70 0
  have d70 : D' 70 0 = D 70 0 := hS _ _ (by decide) (by omega) (by omega)
  have d70s : ∀ s, 0 ≤ s → D' 70 (15 + s) = D 70 (15 + s) := fun s hs => hS _ _ (by decide) (by omega) (by omega)
  have d71 : ∀ k, k < 40 ∨ 600 ≤ k → D' 71 k = D 71 k := fun k hk => hS _ _ (by decide) (by omega) (by omega)
  refine ⟨⟨?_, ?_, ?_, ?_, ?_, ?_, ?_, ?_, ?_⟩, ⟨?_, ?_⟩, ?_⟩
  · rw [mm 20 0 (by decide) (by decide), mm 22 0 (by decide) (by decide), mm 23 0 (by decide) (by decide), dd 90 0 (by decide) (by decide) (by decide), dd 91 0 (by decide) (by decide) (by decide), dd 92 0 (by decide) (by decide) (by decide)]
    exact ⟨a1, a2, a3⟩
  · rw [mm 19 0 (by decide) (by decide), mm 24 0 (by decide) (by decide), mm 29 0 (by decide) (by decide), mm 25 0 (by decide) (by decide), mm 26 0 (by decide) (by decide), dd 1 0 (by decide) (by decide) (by decide), dd 6 0 (by decide) (by decide) (by decide), dd 7 0 (by decide) (by decide) (by decide), dd 8 0 (by decide) (by decide) (by decide), dd 9 0 (by decide) (by decide) (by decide)]
    exact ⟨b1, b2, b3, b4, b5⟩
  · rw [dd 1 0 (by decide) (by decide) (by decide)]
    intro k x y
    rw [mm 0 k (by decide) (by decide), dd 0 k (by decide) (by decide) (by decide)]
    exact c1 k x y
  · unfold iQ
    rw [dd 90 0 (by decide) (by decide) (by decide)]
    intro q hq
    rw [mm 2 q (by decide) (by decide), mm 3 q (by decide) (by decide), mm 4 q (by decide) (by decide), mm 5 q (by decide) (by decide), dd 41 q (by decide) (by decide) (by decide), dd 23 q (by decide) (by decide) (by decide), dd 26 q (by decide) (by decide) (by decide), dd 30 q (by decide) (by decide) (by decide)]
    exact c2 q hq
  · unfold iQ
    rw [dd 90 0 (by decide) (by decide) (by decide)]
    intro q k hq
    rw [mm 1 _ (by decide) (by decide), dd 41 q (by decide) (by decide) (by decide), dd 40 _ (by decide) (by decide) (by decide)]
    exact c3 q k hq
  · unfold iP
    rw [dd 91 0 (by decide) (by decide) (by decide)]
    intro p hp
    rw [mm 8 p (by decide) (by decide), mm 12 p (by decide) (by decide), mm 9 p (by decide) (by decide), mm 14 p (by decide) (by decide), dd 50 p (by decide) (by decide) (by decide), dd 51 p (by decide) (by decide) (by decide), dd 52 p (by decide) (by decide) (by decide), dd 54 p (by decide) (by decide) (by decide)]
    exact c4 p hp
  · unfold iS
    rw [dd 92 0 (by decide) (by decide) (by decide)]
    intro s hs
    rw [mm 13 s (by decide) (by decide), dd 60 s (by decide) (by decide) (by decide)]
    refine ⟨(c5 s hs).1, fun k x y => ?_⟩
    rw [mm 15 _ (by decide) (by decide), dd 61 _ (by decide) (by decide) (by decide)]
    exact (c5 s hs).2 k x y
  · rw [dd 91 0 (by decide) (by decide) (by decide)]
    intro p hp
    rw [mm 14 p (by decide) (by decide)]
    exact c6 p hp
  · rw [dd 92 0 (by decide) (by decide) (by decide)]
    intro k hk
    rw [mm 15 k (by decide) (by decide)]
    exact c7 k hk
  · rw [mm 21 0 (by decide) (by decide), d70]
    exact d1
  · rw [d70]
    intro k x y
    rw [mm 6 k (by decide) (by decide), mm 7 k (by decide) (by decide), d71 _ (by omega), dd 27 _ (by decide) (by decide) (by decide)]
    exact d2 k x y
  · unfold Rc iS
    rw [dd 92 0 (by decide) (by decide) (by decide)]
    intro s hs
    rw [mm 17 s (by decide) (by decide), dd 62 s (by decide) (by decide) (by decide), d70s s hs.1]
    refine ⟨(e1 s hs).1, (e1 s hs).2.1, fun k x y => ?_⟩
    have h27 := hI.l27 (p := s) (by have c := hI.c; omega)
    rw [m16 _ (by omega), d71 _ (by omega)]
    exact (e1 s hs).2.2 k x y

/-- the developers' lists are the same, and what decides them -/
def oH (D D' : MS) : Prop := (D' 90 0 = D 90 0 ∧ D' 91 0 = D 91 0 ∧ D' 92 0 = D 92 0 ∧ D' 6 0 = D 6 0) ∧ (∀ k, D' 23 k = D 23 k ∧ D' 26 k = D 26 k ∧ D' 28 k = D 28 k ∧ D' 50 k = D 50 k ∧ D' 51 k = D 51 k ∧ D' 54 k = D 54 k ∧ D' 60 k = D 60 k) ∧ (∀ k, 3 ≤ k → k < 45 → D' 70 k = D 70 k) ∧ ∀ k, 120 ≤ k → k < 1800 → D' 71 k = D 71 k
theorem pl_r {D : MS} (hI : ID D) {l : Int} (h : pl D l) : 3 ≤ l ∧ l < 45 ∧ D 70 l ≤ 39 ∧ 0 ≤ D 70 l := by
  have c := hI.c
  have h1 := hI.a70 l
  rcases h with h | h
  · have := hI.l9 (p := l - 3) (by omega)
    rw [show 3 + (l - 3) = l by omega] at this
    omega
  · have := hI.l27 (p := l - 15) (by omega)
    rw [show 15 + (l - 15) = l by omega] at this
    omega
theorem HD.c {D D' : MS} (H : HD D) (hI : ID D) (o : oH D D') : HD D' := by
  obtain ⟨⟨o1, o2, o3, -⟩, o4, o5, o6⟩ := o
  obtain ⟨H1, H2, H3⟩ := H
  have hpl : ∀ l, pl D' l ↔ pl D l := pl_c o2 o3 (fun k => (o4 k).2.2.2.2.2.2)
  have e70 : ∀ l, pl D l → D' 70 l = D 70 l := fun l h => by
    have := pl_r hI h
    exact o5 l (by omega) (by omega)
  have e71 : ∀ l k, pl D l → 0 ≤ k → k < D 70 l → D' 71 (40 * l + k) = D 71 (40 * l + k) := fun l k h a b => by
    have := pl_r hI h
    exact o6 _ (by omega) (by omega)
  refine ⟨fun l k l' k' h h' a b a' b' e => ?_, fun q hq => ?_, fun l k h a b => ?_⟩
  · rw [hpl] at h h'
    rw [e70 l h] at b
    rw [e70 l' h'] at b'
    rw [e71 l k h a b, e71 l' k' h' a' b'] at e
    exact H1 l k l' k' h h' a b a' b' e
  · unfold iQ at hq
    rw [o1] at hq
    rw [(o4 q).2.2.1, H2 q hq]
    refine ⟨fun ⟨l, k, h, a, b, w⟩ => ⟨l, k, (hpl l).mpr h, a, by rw [e70 l h]; exact b, by rw [e71 l k h a b]; exact w⟩, fun ⟨l, k, h, a, b, w⟩ => ?_⟩
    rw [hpl] at h
    rw [e70 l h] at b
    rw [e71 l k h a b] at w
    exact ⟨l, k, h, a, b, w⟩
  · rw [hpl] at h
    rw [e70 l h] at b
    unfold iQ
    rw [e71 l k h a b, o1]
    exact H3 l k h a b
theorem S2.c {D D' M M' : MS} (H : S2 D M) (hR : RX D' M') (hI' : ID D') (o : oH D D') (hM : ∀ k, M' 14 k = M 14 k ∧ M' 8 k = M 8 k ∧ M' 10 k = M 10 k ∧ M' 11 k = M 11 k) (h24 : M' 24 0 = M 24 0) : S2 D' M' := by
  obtain ⟨-, hI, hH, hL, hZ⟩ := H
  have hc := hI.c
  obtain ⟨⟨o1, o2, o3, o3'⟩, o4, o5, o6⟩ := id o
  have hfr : ∀ p, sFrc M' p ↔ sFrc M p := fun p => by
    unfold sFrc
    rw [(hM p).1, (hM p).2.1, h24]
  refine ⟨hR, hI', hH.c hI o, fun p hp => ?_, fun p hp => ?_⟩
  · unfold iP at hp
    rw [o2] at hp
    obtain ⟨⟨l1, l2⟩, l3⟩ := hL p hp
    have h9 := hI.l9 (p := p) (by omega)
    have e70 : D' 70 (3 + p) = D 70 (3 + p) := o5 _ (by omega) (by omega)
    have e71 : ∀ k, 0 ≤ k → k < 40 → D' 71 (40 * (3 + p) + k) = D 71 (40 * (3 + p) + k) := fun k a b => o6 _ (by omega) (by omega)
    refine ⟨⟨fun w => ?_, fun w => ?_⟩, fun j a b => ?_⟩
    · obtain ⟨r1, r2⟩ := l1 ((hfr p).mp w)
      unfold Rw
      rw [(hM p).2.2.2, e70]
      refine ⟨r1, fun k a b => ?_⟩
      rw [(hM _).2.2.1]
      show _ = D' 71 (40 * (3 + p) + k)
      rw [e71 k a (by omega)]
      exact r2 k a b
    · rw [e70]
      exact l2 (fun x => w ((hfr p).mpr x))
    · rw [e70] at b
      have := l3 j a b
      unfold dFit dRel at this ⊢
      rw [e71 j a (by omega), (o4 _).1, (o4 p).2.2.2.2.1]
      refine ⟨this.1, fun ⟨k, x, y, z, v⟩ => this.2 ⟨k, x, y, ?_, ?_⟩⟩
      · rw [e70] at z; exact z
      · rw [e70] at z
        rw [e71 k x (by omega), (o4 _).2.1, (o4 _).2.1] at v
        exact v
  · rw [o2] at hp
    rw [(hM p).2.2.2]
    exact hZ p hp
/-- how many sheets have an answer for a question -/
noncomputable def dAc (D : MS) (q : Int) : Nat → Int
  | 0 => 0
  | n + 1 => dAc D q n + @ite Int (∃ k, 0 ≤ k ∧ k < D 70 (15 + (n : Int)) ∧ D 71 (40 * (15 + (n : Int)) + k) = q ∧ D 61 (27 * (n : Int) + k) = 1) (Classical.propDecidable _) 1 0
def AN (D : MS) : Prop := ∀ q, iQ D q → D 23 q = dLv D q (D 25 q).toNat ∧ D 25 q = dAc D q (D 92 0).toNat
def SHD (D : MS) : Prop := ∀ s, iS D s → (∀ j k, 0 ≤ j → j < D 70 (15 + s) → 0 ≤ k → k < D 70 (15 + s) → D 71 (40 * (15 + s) + j) = D 71 (40 * (15 + s) + k) → j = k) ∧ (D 60 s = 115 ∨ D 60 s = 112 ∨ D 60 s = 99) ∧ ∀ k, 0 ≤ k → k < D 70 (15 + s) → iQ D (D 71 (40 * (15 + s) + k))
def H9 (D : MS) : Prop := ∀ k, 0 ≤ D 29 k ∧ D 29 k ≤ 3000
def DM (D M : MS) : Prop := S2 D M ∧ IM M ∧ AN D ∧ SHD D ∧ H9 D
/-- the sheets and the answers are the same -/
def oA (D D' : MS) : Prop := (D' 90 0 = D 90 0 ∧ D' 92 0 = D 92 0) ∧ (∀ k, D' 22 k = D 22 k ∧ D' 23 k = D 23 k ∧ D' 25 k = D 25 k ∧ D' 42 k = D 42 k ∧ D' 61 k = D 61 k) ∧ (∀ k, 15 ≤ k → k < 45 → D' 70 k = D 70 k) ∧ ∀ k, 600 ≤ k → k < 1800 → D' 71 k = D 71 k
theorem dLv_c {D D' : MS} (h1 : ∀ k, D' 22 k = D 22 k) (h2 : ∀ k, D' 42 k = D 42 k) (q : Int) : ∀ n : Nat, dLv D' q n = dLv D q n := by
  intro n
  induction n with
  | zero => exact h1 q
  | succ n ih =>
    show sLv (dLv D' q n) (D' 42 (30 * q + n) ≠ 0) = sLv (dLv D q n) (D 42 (30 * q + n) ≠ 0)
    rw [ih, h2]
theorem dAc_c {D D' : MS} {q : Int} (hI : ID D) : ∀ n : Nat, n ≤ 30 → (∀ k, D' 61 k = D 61 k) → (∀ k, 15 ≤ k → k < 15 + (n : Int) → D' 70 k = D 70 k) → (∀ k, 600 ≤ k → k < 600 + 40 * (n : Int) → D' 71 k = D 71 k) → dAc D' q n = dAc D q n := by
  intro n
  induction n with
  | zero => intro _ _ _ _; rfl
  | succ n ih =>
    intro hn h1 h2 h3
    have h27 := hI.l27 (p := (n : Int)) (by omega)
    show dAc D' q n + _ = dAc D q n + _
    rw [ih (by omega) h1 (fun k a b => h2 k a (by omega)) (fun k a b => h3 k a (by omega))]
    congr 1
    have e : (∃ k, 0 ≤ k ∧ k < D' 70 (15 + (n : Int)) ∧ D' 71 (40 * (15 + (n : Int)) + k) = q ∧ D' 61 (27 * (n : Int) + k) = 1) ↔ (∃ k, 0 ≤ k ∧ k < D 70 (15 + (n : Int)) ∧ D 71 (40 * (15 + (n : Int)) + k) = q ∧ D 61 (27 * (n : Int) + k) = 1) := by
      rw [h2 _ (by omega) (by omega)]
      refine ⟨fun ⟨k, a, b, c, d⟩ => ⟨k, a, b, ?_, ?_⟩, fun ⟨k, a, b, c, d⟩ => ⟨k, a, b, ?_, ?_⟩⟩
      · rw [h3 _ (by omega) (by omega)] at c; exact c
      · rw [h1] at d; exact d
      · rw [h3 _ (by omega) (by omega)]; exact c
      · rw [h1]; exact d
    by_cases w : (∃ k, 0 ≤ k ∧ k < D 70 (15 + (n : Int)) ∧ D 71 (40 * (15 + (n : Int)) + k) = q ∧ D 61 (27 * (n : Int) + k) = 1)
    · rw [if_pos w, if_pos (e.mpr w)]
    · rw [if_neg w, if_neg (fun x => w (e.mp x))]
theorem AN.c {D D' : MS} (H : AN D) (hI : ID D) (o : oA D D') : AN D' := by
  obtain ⟨⟨o1, o3⟩, o4, o5, o6⟩ := o
  have c := hI.c
  intro q hq
  unfold iQ at hq
  rw [o1] at hq
  rw [(o4 q).2.1, (o4 q).2.2.1, o3, dLv_c (fun k => (o4 k).1) (fun k => (o4 k).2.2.2.1), dAc_c hI _ (by omega) (fun k => (o4 k).2.2.2.2) (fun k a b => o5 k a (by omega)) (fun k a b => o6 k a (by omega))]
  exact H q hq
theorem SHD.c {D D' : MS} (H : SHD D) (hI : ID D) (o : oA D D') (h60 : ∀ k, D' 60 k = D 60 k) : SHD D' := by
  obtain ⟨⟨o1, o3⟩, o4, o5, o6⟩ := o
  have c := hI.c
  intro s hs
  unfold iS at hs
  rw [o3] at hs
  have h27 := hI.l27 (p := s) (by omega)
  have e71 : ∀ k, 0 ≤ k → k < 40 → D' 71 (40 * (15 + s) + k) = D 71 (40 * (15 + s) + k) := fun k a b => o6 _ (by omega) (by omega)
  obtain ⟨h1, h2, h3⟩ := H s hs
  rw [o5 _ (by omega) (by omega), h60]
  refine ⟨fun j k a b x y w => ?_, h2, fun k a b => ?_⟩
  · rw [e71 j a (by omega), e71 k x (by omega)] at w
    exact h1 j k a b x y w
  · unfold iQ
    rw [e71 k a (by omega), o1]
    exact h3 k a b
theorem oS.A {D D' : MS} (o : oS D D') : oA D D' := ⟨⟨o _ _ (by decide) (by omega) (by omega), o _ _ (by decide) (by omega) (by omega)⟩, fun k => ⟨o _ _ (by decide) (by omega) (by omega), o _ _ (by decide) (by omega) (by omega), o _ _ (by decide) (by omega) (by omega), o _ _ (by decide) (by omega) (by omega), o _ _ (by decide) (by omega) (by omega)⟩, fun k a b => o _ _ (by decide) (by omega) (by omega), fun k a b => o _ _ (by decide) (by omega) (by omega)⟩
theorem KPp.pk {D : MS} {p : Int} (h : KPp D p) : PKp D p := Or.inl fun k a b => (h k a b).1
theorem RLp.pl {D M : MS} {p : Int} (h : RLp D M p) : PLp D M p := by
  by_cases f : sFrc M p
  · exact Or.inl (h.1 f)
  · exact Or.inr ⟨h.2 f, f⟩
/-- a call that settles -/
theorem DM.set {D M : MS} (hR : RX D M) (hI : ID D) (hH : HD D) (hIM : IM M) (hP : ∀ p, iP D p → PLp D M p ∧ (dOpen D p → PKp D p)) (hZ : ∀ p, D 91 0 ≤ p → M 11 p = 0) (hA : AN D) (hS : SHD D) (h9 : H9 D) : DM (dSet D) (sSettle M) := by
  have oo := dSet_S hI
  exact ⟨settle_both hR hI hH hIM hP hZ, (sSettle_o hIM).2, hA.c hI oo.A, hS.c hI oo.A (fun k => oo _ _ (by decide) (by omega) (by omega)), fun k => by rw [oo 29 k (by decide) (by omega) (by omega)]; exact h9 k⟩
/-- a call that only looks, but for what nobody sees -/
def oQ (D D' : MS) : Prop := ∀ f k, (f ≠ 29 ∧ f ≠ 80 ∧ f ≠ 81) → ¬ (f = 70 ∧ 1 ≤ k ∧ k < 3) → ¬ (f = 71 ∧ 40 ≤ k ∧ k < 120) → D' f k = D f k
def mQ (M M' : MS) : Prop := ∀ f k, (f ≠ 18 ∧ f ≠ 27 ∧ f ≠ 28 ∧ f ≠ 30) → ¬ (f = 16 ∧ 27 * M 23 0 ≤ k) → M' f k = M f k
theorem oQ.rf {D : MS} : oQ D D := fun _ _ _ _ _ => rfl
theorem mQ.th {M : MS} {c : Int} : mQ M (mset M 27 0 c) := fun _ _ h _ => mset_n h.2.1
theorem DM.q {D M D' M' : MS} (H : DM D M) (o : oQ D D') (hm : mQ M M') (hI' : ID D') (hIM' : IM M') (h9 : H9 D') : DM D' M' := by
  obtain ⟨hS, hIM, hA, hD, -⟩ := H
  have hI := hS.2.1
  have oa : oA D D' := ⟨⟨o _ _ (by decide) (by omega) (by omega), o _ _ (by decide) (by omega) (by omega)⟩, fun k => ⟨o _ _ (by decide) (by omega) (by omega), o _ _ (by decide) (by omega) (by omega), o _ _ (by decide) (by omega) (by omega), o _ _ (by decide) (by omega) (by omega), o _ _ (by decide) (by omega) (by omega)⟩, fun k a b => o _ _ (by decide) (by omega) (by omega), fun k a b => o _ _ (by decide) (by omega) (by omega)⟩
  have oh : oH D D' := ⟨⟨o _ _ (by decide) (by omega) (by omega), o _ _ (by decide) (by omega) (by omega), o _ _ (by decide) (by omega) (by omega), o _ _ (by decide) (by omega) (by omega)⟩, fun k => ⟨o _ _ (by decide) (by omega) (by omega), o _ _ (by decide) (by omega) (by omega), o _ _ (by decide) (by omega) (by omega), o _ _ (by decide) (by omega) (by omega), o _ _ (by decide) (by omega) (by omega), o _ _ (by decide) (by omega) (by omega), o _ _ (by decide) (by omega) (by omega)⟩, fun k a b => o _ _ (by decide) (by omega) (by omega), fun k a b => o _ _ (by decide) (by omega) (by omega)⟩
  refine ⟨hS.c (hS.1.w hI (fun f k x y z => o f k ⟨x.2.1, x.2.2⟩ (fun w => y ⟨w.1, w.2.1, by omega⟩) (fun w => z ⟨w.1, w.2.1, by omega⟩)) (fun f k x y => hm f k ⟨x.2.2.1, x.2.2.2.1, x.2.2.2.2.1, x.2.2.2.2.2⟩ y)) hI' oh (fun k => ⟨hm _ _ (by decide) (by omega), hm _ _ (by decide) (by omega), hm _ _ (by decide) (by omega), hm _ _ (by decide) (by omega)⟩) (hm _ _ (by decide) (by omega)), hIM', hA.c hI oa, hD.c hI oa (fun k => o _ _ (by decide) (by omega) (by omega)), h9⟩
theorem IM.th {M : MS} {c : Int} (h : IM M) : IM (mset M 27 0 c) := h
theorem DM.th {D M : MS} {c : Int} (H : DM D M) : DM D (mset M 27 0 c) := H.q oQ.rf mQ.th H.1.2.1 H.2.1.th H.2.2.2.2
theorem DM.m {D M M' : MS} (H : DM D M) (e : ∃ c, M' = mset M 27 0 c) : DM D M' := by
  obtain ⟨c, rfl⟩ := e
  exact H.th

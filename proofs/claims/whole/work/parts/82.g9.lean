/-- the text -/
def TXr (D M : MS) : Prop := M 28 0 = D 80 0 ∧ 0 ≤ D 80 0 ∧ ∀ k, 0 ≤ k → k < D 80 0 → M 18 k = D 81 k
theorem TXr.pc {D M : MS} (H : TXr D M) (c : Int) : TXr (dPc D c) (sPut M c) := by
  obtain ⟨a, b, d⟩ := H
  refine ⟨?_, ?_, fun k x y => ?_⟩
  · show mset (mset M 18 _ _) 28 0 (M 28 0 + 1) 28 0 = mset (mset D 81 _ _) 80 0 (D 80 0 + 1) 80 0
    rw [mset_s, mset_s, a]
  · show 0 ≤ mset (mset D 81 _ _) 80 0 (D 80 0 + 1) 80 0
    rw [mset_s]; omega
  · have y : k < mset (mset D 81 (D 80 0) c) 80 0 (D 80 0 + 1) 80 0 := y
    rw [mset_s] at y
    show mset M 18 (M 28 0) c 18 k = mset D 81 (D 80 0) c 81 k
    rw [mset_f, mset_f, a]
    by_cases e : k = D 80 0
    · rw [if_pos e, if_pos e]
    · rw [if_neg e, if_neg e]
      exact d k x (by omega)
theorem TXr.pn {D M : MS} (H : TXr D M) (n : Int) : TXr (dPn D n) (sPutN M n) := by
  unfold dPn sPutN
  by_cases e : n < 10
  · rw [if_pos e, if_neg (by omega)]
    exact H.pc _
  · rw [if_neg e, if_pos (by omega)]
    exact (H.pc _).pc _
theorem TXr.all {D M : MS} {s : Int} (H : TXr D M) (z : Int) (he : ∀ k, 0 ≤ k → k < z → M 16 (27 * s + k) = D 71 (40 * (15 + s) + k)) : ∀ n : Nat, (n : Int) ≤ z → TXr (dTxN D s n) (sTxN M s n) := by
  intro n
  induction n with
  | zero => exact fun _ => H
  | succ n ih =>
    intro hn
    have h := ih (by omega)
    show TXr (dPn (if (0 : Int) < n then dPc (dTxN D s n) 44 else dTxN D s n) (D 71 (40 * (15 + s) + n))) (sPutN (if (0 : Int) < n then sPut (sTxN M s n) 44 else sTxN M s n) (M 16 (27 * s + n)))
    rw [he n (by omega) (by omega)]
    refine TXr.pn ?_ _
    by_cases e : (0 : Int) < n
    · rw [if_pos e, if_pos e]
      exact h.pc _
    · rw [if_neg e, if_neg e]
      exact h
theorem g_textOf {D M : MS} (H : DM D M) (s i : Int) : AG [eIO, eNS] (d_textOf D s i) (s_textOf M s i) :=
  AG.ite (not_c (H.is s)) (fun _ => .no 0 H.th rfl mset_s) (fun hs => by
    have hs := Classical.not_not.mp hs
    have hs' : 0 ≤ s ∧ s < D 92 0 := hs
    have hI := H.1.2.1
    have c := hI.c
    have h27 := hI.l27 (p := s) (by omega)
    have z15 := hI.a70 (15 + s)
    obtain ⟨t1, t2, t3⟩ := H.sh s hs
    have h0 : TXr (mset D 80 0 0) (mset (sT M 0) 28 0 0) := ⟨mset_s.trans mset_s.symm, (by rw [mset_s]; decide), fun k a b => by rw [mset_s] at b; omega⟩
    have h1 := (h0.pn s).pc 58
    obtain ⟨oD, iD⟩ := dTx_o s hI hs'
    have im0 : IM (mset (sT M 0) 28 0 0) := (H.2.1.th (c := 0)).s28
    obtain ⟨p1, p2, -⟩ := sPutN_o im0 (n := s) (by omega)
    obtain ⟨p3, p4, -⟩ := sPut_o p2 (c := 58) (by omega)
    obtain ⟨p5, p6, -⟩ := sTxN_o p4 (s := s) (M 17 s).toNat
    have oM : OnlyF [18, 27, 28] M (sTx M s) := ((((OnlyF.rf (fs := [18, 27, 28]) (M := M)).st (f := 27) (k := 0) (z := 0) (by decide)).st (f := 28) (k := 0) (z := 0) (by decide)).tr (p1.w (by decide))).tr ((p3.tr p5).w (by decide))
    have iM : IM (sTx M s) := p6
    have e71 : ∀ k, dPc (dPn (mset D 80 0 0) s) 58 71 k = D 71 k := fun k => by
      unfold dPc dPn dPc
      split <;> rfl
    have e16 : ∀ k, sPut (sPutN (mset (sT M 0) 28 0 0) s) 58 16 k = M 16 k := fun k => by
      unfold sPut sPutN sPut
      split <;> rfl
    have hT : TXr (dTx D s) (sTx M s) := by
      unfold dTx sTx
      rw [t1]
      refine h1.all (D 70 (15 + s)) (fun k a b => ?_) _ (by omega)
      rw [e71, e16]
      exact t3 k a b
    have hDM : DM (dTx D s) (sTx M s) := H.q (fun f k a _ _ => oD f k (by simp; omega)) (fun f k a _ => oM f k (by simp; omega)) iD iM (fun k => by rw [oD 29 k (by decide)]; exact H.2.2.2.2 k)
    refine AG.ite (not_c (by rw [hT.1])) (fun _ => .no 1 hDM.th rfl mset_s) (fun h2 => ?_)
    have h2 := Classical.not_not.mp h2
    exact .ok hDM.th (hT.2.2 i h2.1 h2.2).symm mset_s)
/-- who holds is counted -/
def TT (D X : MS) (t q : Int) : Prop := (X 29 q = 0 ∧ ∀ l k, pl D l → l < t → 0 ≤ k → k < D 70 l → D 71 (40 * l + k) ≠ q) ∨ (X 29 q = 1 ∧ ∃ l k, pl D l ∧ l < t ∧ 0 ≤ k ∧ k < D 70 l ∧ D 71 (40 * l + k) = q)
theorem dCh_v {D : MS} {l q : Int} : ∀ n : Nat, (∀ j k, 0 ≤ j → j < (n : Int) → 0 ≤ k → k < (n : Int) → D 71 (40 * l + j) = D 71 (40 * l + k) → j = k) → (dCh D l n 29 q = D 29 q + 1 ∧ ∃ k, 0 ≤ k ∧ k < (n : Int) ∧ D 71 (40 * l + k) = q) ∨ (dCh D l n 29 q = D 29 q ∧ ∀ k, 0 ≤ k → k < (n : Int) → D 71 (40 * l + k) ≠ q) := by
  intro n
  induction n with
  | zero => exact fun _ => Or.inr ⟨rfl, fun k a b => by omega⟩
  | succ n ih =>
    intro hd
    have ih := ih (fun j k a b a' b' => hd j k a (by omega) a' (by omega))
    show (mset (dCh D l n) 29 (D 71 (40 * l + n)) (dCh D l n 29 (D 71 (40 * l + n)) + 1) 29 q = _ ∧ _) ∨ (mset (dCh D l n) 29 (D 71 (40 * l + n)) (dCh D l n 29 (D 71 (40 * l + n)) + 1) 29 q = _ ∧ _)
    rw [mset_f]
    by_cases e : q = D 71 (40 * l + n)
    · rw [if_pos e]
      rw [← e]
      rcases ih with ⟨-, k, b, c, d⟩ | ⟨a, -⟩
      · have := hd k n b (by omega) (by omega) (by omega) (by rw [d, e])
        omega
      · rw [a]
        exact Or.inl ⟨rfl, n, by omega, by omega, e.symm⟩
    · rw [if_neg e]
      rcases ih with ⟨a, k, b, c, d⟩ | ⟨a, b⟩
      · exact Or.inl ⟨a, k, b, by omega, d⟩
      · refine Or.inr ⟨a, fun k x y w => ?_⟩
        by_cases e2 : k = n
        · subst e2; exact e w.symm
        · exact b k x (by omega) w
theorem TT.st {D X : MS} {t q : Int} (T : TT D X t q) (hH : HD D) (hI : ID D) (o : OnlyF [29] D X) (hp : pl D t) : TT D (dCh X t (X 70 t).toNat) (t + 1) q := by
  have e70 : X 70 t = D 70 t := o _ _ (by decide)
  have e71 : ∀ k, X 71 k = D 71 k := fun k => o _ _ (by decide)
  have z := hI.a70 t
  rw [e70]
  rcases dCh_v (D := X) (l := t) (q := q) (D 70 t).toNat (fun j k a b a' b' e => by
    rw [e71, e71] at e
    exact (hH.1 t j t k hp hp a (by omega) a' (by omega) e).2) with ⟨a, k, b, b', d⟩ | ⟨a, b⟩
  · rw [e71] at d
    rcases T with ⟨x, y⟩ | ⟨x, l, j, h, h', y, y', w⟩
    · exact Or.inr ⟨by rw [a, x]; rfl, t, k, hp, by omega, b, by omega, d⟩
    · have := (hH.1 l j t k h hp y y' b (by omega) (by rw [w, d])).1
      omega
  · rcases T with ⟨x, y⟩ | ⟨x, l, j, h, h', y, y', w⟩
    · refine Or.inl ⟨by rw [a, x], fun l k h h' u v w => ?_⟩
      by_cases e : l = t
      · subst e
        have := b k u (by omega)
        rw [e71] at this
        exact this w
      · exact y l k h (by omega) u v w
    · exact Or.inr ⟨by rw [a, x], l, j, h, by omega, y, y', w⟩
theorem dCh_out {D X : MS} {t q : Int} (hH : HD D) (hI : ID D) (o : OnlyF [29] D X) (hp : pl D t) (hq : ¬ iQ D q) : dCh X t (X 70 t).toNat 29 q = X 29 q := by
  have e70 : X 70 t = D 70 t := o _ _ (by decide)
  have e71 : ∀ k, X 71 k = D 71 k := fun k => o _ _ (by decide)
  have z := hI.a70 t
  rw [e70]
  have : ∀ n : Nat, (n : Int) ≤ D 70 t → dCh X t n 29 q = X 29 q := by
    intro n
    induction n with
    | zero => exact fun _ => rfl
    | succ n ih =>
      intro hn
      show mset (dCh X t n) 29 (X 71 (40 * t + n)) (dCh X t n 29 (X 71 (40 * t + n)) + 1) 29 q = _
      have ne : q ≠ X 71 (40 * t + n) := fun e => hq (by rw [e, e71]; exact hH.2.2 t n hp (by omega) (by omega))
      rw [mset_k ne]
      exact ih (by omega)
  exact this _ (by omega)
theorem g_isSound {D M : MS} (H : DM D M) : AG [] (d_isSound D) (1, mset M 27 0 0) := by
  have hI := H.1.2.1
  have hH := H.1.2.2.1
  have c := hI.c
  obtain ⟨i90, i91, i92⟩ := hI.n
  have z45 := hI.a70 45
  have z46 := hI.a70 46
  have z47 := hI.a70 47
  have h9 := H.2.2.2.2
  obtain ⟨y1, y2, y3⟩ := dZr_o hI (D 90 0).toNat
  -- the plans
  have hp : ∀ n : Nat, (n : Int) ≤ D 91 0 → (∀ q, iQ D q → TT D (dNp D n) (3 + n) q) ∧ ∀ q, ¬ iQ D q → dNp D n 29 q = D 29 q := by
    intro n
    induction n with
    | zero =>
      intro _
      refine ⟨fun q hq => Or.inl ⟨?_, fun l k h h' => ?_⟩, fun q hq => ?_⟩
      · have hq : 0 ≤ q ∧ q < D 90 0 := hq
        show dZr D (D 90 0).toNat 29 q = 0
        rw [y3, if_pos (by omega)]
      · unfold pl at h
        omega
      · unfold iQ at hq
        show dZr D (D 90 0).toNat 29 q = D 29 q
        rw [y3, if_neg (by omega)]
    | succ n ih =>
      intro hn
      obtain ⟨a, b⟩ := ih (by omega)
      have o := (dNp_o hI h9 n).1
      have hpl : pl D (3 + n) := Or.inl (by omega)
      refine ⟨fun q hq => ?_, fun q hq => ?_⟩
      · have := (a q hq).st hH hI o hpl
        rw [show (3 : Int) + n + 1 = 3 + ((n + 1 : Nat) : Int) by omega] at this
        exact this
      · exact (dCh_out hH hI o hpl hq).trans (b q hq)
  obtain ⟨p1, p2⟩ := hp (D 91 0).toNat (by omega)
  obtain ⟨p3, p4, p5⟩ := dNp_o hI h9 (D 91 0).toNat
  -- the sheets
  have hs : ∀ n : Nat, (n : Int) ≤ D 92 0 → (∀ q, iQ D q → TT D (dNs D (dNp D (D 91 0).toNat) n) (15 + n) q) ∧ ∀ q, ¬ iQ D q → dNs D (dNp D (D 91 0).toNat) n 29 q = D 29 q := by
    intro n
    induction n with
    | zero =>
      intro _
      refine ⟨fun q hq => ?_, p2⟩
      have h := p1 q hq
      rcases h with ⟨x, y⟩ | ⟨x, l, j, h, h', y, y', w⟩
      · refine Or.inl ⟨x, fun l k h h' => y l k h ?_⟩
        unfold pl at h
        omega
      · exact Or.inr ⟨x, l, j, h, by omega, y, y', w⟩
    | succ n ih =>
      intro hn
      obtain ⟨a, b⟩ := ih (by omega)
      have o : OnlyF [29] D (dNs D (dNp D (D 91 0).toNat) n) := p3.tr (dNs_o (D0 := D) p4 p5 n).1
      show (∀ q, iQ D q → TT D (if D 60 n = 115 then dCh (dNs D (dNp D (D 91 0).toNat) n) (15 + n) (dNs D (dNp D (D 91 0).toNat) n 70 (15 + n)).toNat else dNs D (dNp D (D 91 0).toNat) n) (15 + ((n + 1 : Nat) : Int)) q) ∧ ∀ q, ¬ iQ D q → (if D 60 n = 115 then dCh (dNs D (dNp D (D 91 0).toNat) n) (15 + n) (dNs D (dNp D (D 91 0).toNat) n 70 (15 + n)).toNat else dNs D (dNp D (D 91 0).toNat) n) 29 q = D 29 q
      by_cases e : D 60 n = 115
      · have hpl : pl D (15 + n) := Or.inr ⟨by omega, by omega, by rw [show (15 : Int) + n - 15 = n by omega]; exact e⟩
        rw [if_pos e]
        refine ⟨fun q hq => ?_, fun q hq => (dCh_out hH hI o hpl hq).trans (b q hq)⟩
        have := (a q hq).st hH hI o hpl
        rw [show (15 : Int) + n + 1 = 15 + ((n + 1 : Nat) : Int) by omega] at this
        exact this
      · rw [if_neg e]
        refine ⟨fun q hq => ?_, b⟩
        rcases a q hq with ⟨x, y⟩ | ⟨x, l, j, h, h', y, y', w⟩
        · refine Or.inl ⟨x, fun l k h h' => y l k h ?_⟩
          have : l ≠ 15 + n := fun e2 => by
            unfold pl at h
            rcases h with h | ⟨-, -, h⟩
            · omega
            · rw [e2, show (15 : Int) + n - 15 = n by omega] at h
              exact e h
          omega
        · exact Or.inr ⟨x, l, j, h, by omega, y, y', w⟩
  obtain ⟨s1, s2⟩ := hs (D 92 0).toNat (by omega)
  obtain ⟨q1, q2, q3⟩ := dNs_o (D0 := D) p4 p5 (D 92 0).toNat
  have oN : OnlyF [29] D (dNt D) := p3.tr q1
  have h29 : ∀ q, iQ D q → 0 ≤ dNt D 29 q ∧ dNt D 29 q ≤ 1 := fun q hq => by
    have h := s1 q hq
    have h2 : (dNt D 29 q = 0 ∧ _) ∨ (dNt D 29 q = 1 ∧ _) := h
    omega
  have hlv : dLvA D := fun j a b => (H.2.2.1 j ⟨a, b⟩).1
  have hn1 : dN1 D := fun q a b => (h29 q ⟨a, b⟩).2
  have hkp : dKept (dNt D) := by
    unfold dKept
    rw [oN 91 0 (by decide)]
    intro p a b j x y
    rw [oN 70 _ (by decide)] at y
    have := (H.1.2.2.2.1 p ⟨a, b⟩).2 j x y
    unfold dFit dRel at this ⊢
    rw [oN 51 _ (by decide), oN 23 _ (by decide), oN 71 _ (by decide)]
    refine ⟨this.1, fun ⟨k, u, v, v', w⟩ => this.2 ⟨k, u, v, ?_, ?_⟩⟩
    · rw [oN 70 _ (by decide)] at v'; exact v'
    · rw [oN 26 _ (by decide), oN 26 _ (by decide), oN 71 _ (by decide)] at w; exact w
  unfold d_isSound
  rw [if_pos hlv, if_pos hn1]
  have e1 : pI (dKept (dNt D)) = 1 := if_pos hkp
  refine .ok (H.q (fun f k a _ _ => oN f k (by simp; exact a.1)) mQ.th q2 H.2.1.th (fun k => ?_)) e1 mset_s
  by_cases hq : iQ D k
  · have := h29 k hq
    omega
  · have e : dNt D 29 k = D 29 k := s2 k hq
    rw [e]
    exact h9 k

abbrev xD (D : MS) (p k : Int) : Int := D 71 (40 * (3 + p) + k)
def gK (D : MS) (p k : Int) : Prop := sKd (D 23 (xD D p k)) = D 51 p
def gF (D : MS) (p k : Int) : Int := D 26 (xD D p k)
def gG (D : MS) (p : Int) : Int → Prop := gP (gK D p) (gF D p)
/-- while plan p lets go: i are still to be looked at -/
def DInv (D0 : MS) (p i : Int) (D : MS) : Prop := (∀ f k, f ≠ 28 → ¬ (f = 70 ∧ k = 3 + p) → ¬ (f = 71 ∧ 40 * (3 + p) ≤ k ∧ k < 40 * (3 + p) + 40) → D f k = D0 f k) ∧
  D 70 (3 + p) = i + (gC (gG D0 p) (D0 70 (3 + p)).toNat - gC (gG D0 p) i.toNat) ∧ (∀ j, 0 ≤ j → j < i → xD D p j = xD D0 p j) ∧ ∀ j, i ≤ j → j < D0 70 (3 + p) → gG D0 p j → xD D p (i + (gC (gG D0 p) j.toNat - gC (gG D0 p) i.toNat)) = xD D0 p j
theorem dFit_g {D0 D : MS} {p i : Int} (h : DInv D0 p (i + 1) D) (hi : 0 ≤ i ∧ i + 1 ≤ D0 70 (3 + p)) : dFit D p i ↔ gG D0 p i := by
  obtain ⟨h1, h2, h3, h4⟩ := h
  have e23 : ∀ k, D 23 k = D0 23 k := fun k => h1 _ _ (by decide) (by omega) (by omega)
  have e26 : ∀ k, D 26 k = D0 26 k := fun k => h1 _ _ (by decide) (by omega) (by omega)
  have e51 : D 51 p = D0 51 p := h1 _ _ (by decide) (by omega) (by omega)
  have hc := gC_le (G := gG D0 p) (i := i + 1) (j := D0 70 (3 + p)) ⟨by omega, hi.2⟩
  have hx : ∀ j, 0 ≤ j → j < i + 1 → D 71 (40 * (3 + p) + j) = xD D0 p j := h3
  unfold dFit dRel gG gP gK gF
  rw [hx i hi.1 (by omega), e23, e51]
  simp only [e26]
  refine ⟨fun ⟨a, b⟩ => ⟨a, fun j x y w => b ⟨j, x, y, by omega, by rw [hx j x (by omega)]; exact w⟩⟩, fun ⟨a, b⟩ => ⟨a, fun ⟨j, x, y, z, w⟩ => b j x y (by rw [hx j x (by omega)] at w; exact w)⟩⟩
theorem dLu1_k {D0 D : MS} {p i : Int} (h : DInv D0 p (i + 1) D) (hi : 0 ≤ i ∧ i + 1 ≤ D0 70 (3 + p)) (hn : D0 70 (3 + p) ≤ 39) : DInv D0 p i (dLu1 p D i) := by
  have hf := dFit_g h hi
  obtain ⟨h1, h2, h3, h4⟩ := h
  have hc := gC_le (G := gG D0 p) (i := i + 1) (j := D0 70 (3 + p)) ⟨by omega, hi.2⟩
  have hc0 := gC_0 (G := gG D0 p) (j := i) hi.1
  unfold dLu1
  by_cases g : gG D0 p i
  · rw [if_pos (hf.mpr g)]
    have e := gC_t hi.1 g
    refine ⟨h1, by omega, fun j a b => h3 j a (by omega), fun j a b c => ?_⟩
    by_cases e2 : j = i
    · subst e2
      rw [show j + (gC (gG D0 p) j.toNat - gC (gG D0 p) j.toNat) = j by omega]
      exact h3 j (by omega) (by omega)
    · have := h4 j (by omega) b c
      rw [e] at this
      rw [show i + (gC (gG D0 p) j.toNat - gC (gG D0 p) i.toNat) = i + 1 + (gC (gG D0 p) j.toNat - (gC (gG D0 p) i.toNat + 1)) by omega]
      exact this
  · rw [if_neg (fun w => g (hf.mp w))]
    have e := gC_f hi.1 g
    have e70 : mset (dRm D (3 + p) i) 28 (D 71 (40 * (3 + p) + i)) 0 70 (3 + p) = D 70 (3 + p) - 1 := by
      rw [mset_n (by decide)]
      exact if_pos ⟨rfl, rfl⟩
    have e71 : ∀ k, 0 ≤ k → k < 39 → xD (mset (dRm D (3 + p) i) 28 (D 71 (40 * (3 + p) + i)) 0) p k = if i ≤ k then xD D p (k + 1) else xD D p k := fun k x y => by
      show mset (dRm D (3 + p) i) 28 (D 71 (40 * (3 + p) + i)) 0 71 (40 * (3 + p) + k) = _
      rw [mset_n (by decide)]
      unfold dRm
      rw [if_neg (by omega)]
      by_cases e : i ≤ k
      · rw [if_pos ⟨rfl, by omega, by omega⟩, if_pos e]
        show D 71 _ = D 71 _
        congr 1
        omega
      · rw [if_neg (by omega), if_neg e]
    refine ⟨fun f k a b c => ?_, by rw [e70]; omega, fun j a b => ?_, fun j a b c => ?_⟩
    · rw [mset_n a]
      refine Eq.trans ?_ (h1 f k a b c)
      unfold dRm
      rw [if_neg b, if_neg (by omega)]
    · rw [e71 j a (by omega), if_neg (by omega)]
      exact h3 j a (by omega)
    · by_cases e2 : j = i
      · rw [e2] at c
        exact absurd c g
      · have := h4 j (by omega) b c
        have hcj := gC_le (G := gG D0 p) (i := i) (j := j) ⟨hi.1, a⟩
        have hlt := gC_le (G := gG D0 p) (i := i + 1) (j := j) ⟨by omega, by omega⟩
        rw [e71 _ (by omega) (by omega), if_pos (by omega)]
        rw [e] at this
        rw [show i + (gC (gG D0 p) j.toNat - gC (gG D0 p) i.toNat) + 1 = i + 1 + (gC (gG D0 p) j.toNat - gC (gG D0 p) i.toNat) by omega]
        exact this
theorem dLu_k {D0 : MS} {p : Int} (hn : D0 70 (3 + p) ≤ 39) : ∀ (i : Nat) (D : MS), (i : Int) ≤ D0 70 (3 + p) → DInv D0 p i D → DInv D0 p 0 (dLu p i D) := by
  intro i
  induction i with
  | zero => intro D _ h; exact h
  | succ i ih =>
    intro D hi h
    exact ih _ (by omega) (dLu1_k (i := i) h ⟨by omega, hi⟩ hn)
theorem dLu_f {D : MS} {p : Int} (hn : 0 ≤ D 70 (3 + p) ∧ D 70 (3 + p) ≤ 39) : DInv D p 0 (dLu p (D 70 (3 + p)).toNat D) := by
  have e : ((D 70 (3 + p)).toNat : Int) = D 70 (3 + p) := by omega
  refine dLu_k hn.2 _ D (by omega) ⟨fun _ _ _ _ _ => rfl, by rw [e]; omega, fun _ _ _ => rfl, fun j a b _ => ?_⟩
  omega
theorem dLu_HD {p : Int} : ∀ (n : Nat) (D : MS), ID D → HD D → (0 ≤ p ∧ p < D 91 0) → (n : Int) ≤ D 70 (3 + p) → HD (dLu p n D) := by
  intro n
  induction n with
  | zero => intro D _ h _ _; exact h
  | succ n ih =>
    intro D hI h hp hn
    have c := hI.c
    obtain ⟨a, b, d⟩ := dLu1_o hI (p := p) (k := n) (by omega) (by omega)
    have e := a 91 0 (by decide)
    refine ih _ b ?_ (by omega) d
    unfold dLu1
    split
    · exact h
    · exact h.rm hI hp (by omega)
/-- the model's plan lets go -/
def MInv (M0 : MS) (D0 : MS) (p k : Int) (x : MS × Int) : Prop := (∀ f j, ¬ (f = 10 ∧ 9 * p ≤ j ∧ j < 9 * p + 9) → x.1 f j = M0 f j) ∧ x.2 = gC (gG D0 p) k.toNat ∧ (∀ j, 0 ≤ j → j < k → gG D0 p j → x.1 10 (9 * p + gC (gG D0 p) j.toNat) = xD D0 p j) ∧ ∀ j, k ≤ j → j < D0 70 (3 + p) → x.1 10 (9 * p + j) = xD D0 p j
def PKp (D : MS) (p : Int) : Prop := (∀ k, 0 ≤ k → k < D 70 (3 + p) → gK D p k) ∨ ∀ i j, 0 ≤ i → i < j → j < D 70 (3 + p) → gF D p i ≠ gF D p j
theorem sLgN_k {M D : MS} {p : Int} (hn : 0 ≤ D 70 (3 + p) ∧ D 70 (3 + p) ≤ 9) (hraw : ∀ k, 0 ≤ k → k < D 70 (3 + p) → M 10 (9 * p + k) = xD D p k) (e3 : ∀ k, 0 ≤ k → k < D 70 (3 + p) → M 3 (xD D p k) = D 23 (xD D p k) ∧ M 4 (xD D p k) = D 26 (xD D p k)) (e12 : M 12 p = D 51 p) (hd : ∀ i j, 0 ≤ i → i < D 70 (3 + p) → 0 ≤ j → j < D 70 (3 + p) → xD D p i = xD D p j → i = j) (hK : PKp D p) :
    ∀ k : Nat, (k : Int) ≤ D 70 (3 + p) → MInv M D p k (sLgN p M k) := by
  intro k
  induction k with
  | zero => exact fun _ => ⟨fun _ _ _ => rfl, rfl, fun j a b => by omega, fun j a b => hraw j (by omega) b⟩
  | succ k ih =>
    intro hk
    obtain ⟨h1, h2, h3, h4⟩ := ih (by omega)
    show MInv M D p ((k + 1 : Nat) : Int) (sLg1 p (sLgN p M k) k)
    generalize sLgN p M k = x at h1 h2 h3 h4
    have xk := h4 k (by omega) (by omega)
    have hc0 := gC_0 (G := gG D p) (j := (k : Int)) (by omega)
    have x3 : ∀ q, x.1 3 q = M 3 q := fun q => h1 _ _ (by omega)
    have x4 : ∀ q, x.1 4 q = M 4 q := fun q => h1 _ _ (by omega)
    have x12 : x.1 12 p = M 12 p := h1 _ _ (by omega)
    have ek := e3 k (by omega) (by omega)
    -- the condition is that it is kept
    have hcond : (sKd (x.1 3 (x.1 10 (9 * p + k))) = x.1 12 p ∧ ¬ sTwIn x.1 p x.2 (x.1 10 (9 * p + k))) ↔ gG D p k := by
      rw [xk, x3, x12, ek.1, e12]
      refine ⟨fun ⟨a, b⟩ => ⟨a, fun j y z w => ?_⟩, fun ⟨a, b⟩ => ⟨a, fun ⟨m, y, z, w⟩ => ?_⟩⟩
      · apply b
        rcases hK with hA | hN
        · obtain ⟨i, i1, i2, i3, i4⟩ := gP_first (K := gK D p) (F := gF D p) (n := D 70 (3 + p)) hA j.toNat j (Nat.le_refl _) y (by omega)
          have e1 := h3 i i1 (by omega) i3
          have l1 := gC_lt (G := gG D p) (i := i) (j := (k : Int)) ⟨i1, by omega⟩ i3
          have l0 := gC_0 (G := gG D p) (j := i) i1
          refine ⟨gC (gG D p) i.toNat, l0.1, by omega, ?_⟩
          rw [e1]
          refine ⟨fun e => ?_, ?_⟩
          · have := hd i k i1 (by omega) (by omega) (by omega) e
            omega
          · rw [x4, x4, (e3 i i1 (by omega)).2, ek.2]
            exact i4.trans w
        · exact absurd w (hN j k y z (by omega))
      · rw [h2] at z
        obtain ⟨i, i1, i2, i3, i4⟩ := gC_sur k y z
        have e1 := h3 i i1 i2 i3
        rw [i4] at e1
        rw [e1] at w
        obtain ⟨w1, w2⟩ := w
        rw [x4, x4, (e3 i i1 (by omega)).2, ek.2] at w2
        exact b i i1 i2 w2
    have hk1 : (((k + 1 : Nat) : Int)).toNat = ((k : Int) + 1).toNat := by omega
    unfold sLg1
    by_cases g : gG D p k
    · rw [if_pos (hcond.mpr g)]
      have e := gC_t (G := gG D p) (k := (k : Int)) (by omega) g
      refine ⟨fun f j a => ?_, ?_, fun j a b c => ?_, fun j a b => ?_⟩
      · show mset x.1 10 (9 * p + x.2) _ f j = _
        rw [mset2, if_neg (fun w => a ⟨w.1, by omega, by omega⟩)]
        exact h1 f j a
      · show x.2 + 1 = _
        rw [hk1, e, h2]
      · show mset x.1 10 (9 * p + x.2) _ 10 (9 * p + gC (gG D p) j.toNat) = _
        by_cases e2 : j = k
        · subst e2
          rw [h2, mset_s]
          exact xk
        · have l1 := gC_lt (G := gG D p) (i := j) (j := (k : Int)) ⟨a, by omega⟩ c
          rw [mset_k (by omega)]
          exact h3 j a (by omega) c
      · show mset x.1 10 (9 * p + x.2) _ 10 (9 * p + j) = _
        rw [mset_k (by omega)]
        exact h4 j (by omega) b
    · rw [if_neg (fun w => g (hcond.mp w))]
      have e := gC_f (G := gG D p) (k := (k : Int)) (by omega) g
      refine ⟨h1, ?_, fun j a b c => ?_, fun j a b => h4 j (by omega) b⟩
      · rw [hk1, e, h2]
      · by_cases e2 : j = k
        · rw [e2] at c
          exact absurd c g
        · exact h3 j a (by omega) c
/-- both let go the same -/
theorem lg_both {M D : MS} {p : Int} (hI : ID D) (hp : iP D p) (e11 : M 11 p = D 70 (3 + p)) (hraw : ∀ k, 0 ≤ k → k < D 70 (3 + p) → M 10 (9 * p + k) = xD D p k) (e3 : ∀ k, 0 ≤ k → k < D 70 (3 + p) → M 3 (xD D p k) = D 23 (xD D p k) ∧ M 4 (xD D p k) = D 26 (xD D p k)) (e12 : M 12 p = D 51 p) (H : HD D) (hK : PKp D p) (hf : sFrc M p) :
    ∃ M' D', M' = sLg p M ∧ D' = dLu p (D 70 (3 + p)).toNat D ∧ (∀ f j, f ≠ 11 → ¬ (f = 10 ∧ 9 * p ≤ j ∧ j < 9 * p + 9) → M' f j = M f j) ∧ (∀ j, j ≠ p → M' 11 j = M 11 j) ∧ M' 11 p = D' 70 (3 + p) ∧ (∀ k, 0 ≤ k → k < D' 70 (3 + p) → M' 10 (9 * p + k) = xD D' p k) ∧
      (∀ f k, f ≠ 28 → ¬ (f = 70 ∧ k = 3 + p) → ¬ (f = 71 ∧ 40 * (3 + p) ≤ k ∧ k < 40 * (3 + p) + 40) → D' f k = D f k) ∧ HD D' ∧ ID D' ∧ ∀ j, 0 ≤ j → j < D' 70 (3 + p) → dFit D' p j := by
  have c := hI.c
  have hp' : 0 ≤ p ∧ p < D 91 0 := hp
  have hn := hI.a70 (3 + p)
  have h9 := hI.l9 (p := p) (by omega)
  have hd : ∀ i j, 0 ≤ i → i < D 70 (3 + p) → 0 ≤ j → j < D 70 (3 + p) → xD D p i = xD D p j → i = j := fun i j a b x y w => (H.1 _ i _ j (Or.inl (by omega)) (Or.inl (by omega)) a b x y w).2
  have hm := sLgN_k (M := M) ⟨hn.1, h9⟩ hraw e3 e12 hd hK (D 70 (3 + p)).toNat (by omega)
  have hD := dLu_f (D := D) (p := p) (by omega)
  have hH := dLu_HD (D 70 (3 + p)).toNat D hI H hp' (by omega)
  have hID := (dLu_o (p := p) (by omega) (D 70 (3 + p)).toNat D hI (by omega)).2
  have eM : sLg p M = mset (sLgN p M (D 70 (3 + p)).toNat).1 11 p (sLgN p M (D 70 (3 + p)).toNat).2 := by
    unfold sLg
    rw [if_pos hf, e11]
  obtain ⟨m1, m2, m3, m4⟩ := hm
  obtain ⟨d1, d2, d3, d4⟩ := hD
  rw [show (((D 70 (3 + p)).toNat : Int)) = D 70 (3 + p) by omega] at m2 m3 m4
  have e0 : gC (gG D p) (0 : Int).toNat = 0 := rfl
  rw [e0] at d2 d4
  refine ⟨_, _, rfl, rfl, fun f j a b => ?_, fun j a => ?_, ?_, fun k a b => ?_, d1, hH, hID, fun j a b => ?_⟩
  · rw [eM, mset_n a]
    exact m1 f j b
  · rw [eM, mset_k a]
    exact m1 11 j (by omega)
  · rw [eM, mset_s, m2]
    omega
  · obtain ⟨i, i1, i2, i3, i4⟩ := gC_sur (G := gG D p) (m := k) (D 70 (3 + p)).toNat a (by omega)
    rw [eM, mset_n (by decide)]
    have x1 := m3 i i1 (by omega) i3
    have x2 := d4 i i1 (by omega) i3
    rw [i4] at x1 x2
    rw [show (0 : Int) + (k - 0) = k by omega] at x2
    rw [x1, x2]
  · obtain ⟨i, i1, i2, i3, i4⟩ := gC_sur (G := gG D p) (m := j) (D 70 (3 + p)).toNat a (by omega)
    have x2 := d4 i i1 (by omega) i3
    rw [i4, show (0 : Int) + (j - 0) = j by omega] at x2
    have e23 : ∀ k, dLu p (D 70 (3 + p)).toNat D 23 k = D 23 k := fun k => d1 _ _ (by decide) (by omega) (by omega)
    have e26 : ∀ k, dLu p (D 70 (3 + p)).toNat D 26 k = D 26 k := fun k => d1 _ _ (by decide) (by omega) (by omega)
    have e51 : dLu p (D 70 (3 + p)).toNat D 51 p = D 51 p := d1 _ _ (by decide) (by omega) (by omega)
    unfold dFit
    rw [show dLu p (D 70 (3 + p)).toNat D 71 (40 * (3 + p) + j) = xD D p i from x2, e23, e51]
    refine ⟨i3.1, fun ⟨m, y, z, w, v⟩ => ?_⟩
    obtain ⟨s, s1, s2, s3, s4⟩ := gC_sur (G := gG D p) (m := m) (D 70 (3 + p)).toNat y (by omega)
    have x3 := d4 s s1 (by omega) s3
    rw [s4, show (0 : Int) + (m - 0) = m by omega] at x3
    rw [e26, e26, show dLu p (D 70 (3 + p)).toNat D 71 (40 * (3 + p) + m) = xD D p s from x3] at v
    have hsi : s < i := by
      rcases Int.lt_trichotomy s i with q | q | q
      · exact q
      · rw [q, i4] at s4; omega
      · have := gC_lt (G := gG D p) ⟨i1, q⟩ i3
        omega
    exact i3.2 s s1 hsi v

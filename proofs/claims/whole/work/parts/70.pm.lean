/-- what is kept of a row: of the right kind, and no relative stands before it -/
def gP (K : Int → Prop) (F : Int → Int) (k : Int) : Prop := K k ∧ ∀ j, 0 ≤ j → j < k → F j ≠ F k
noncomputable def gC (G : Int → Prop) : Nat → Int
  | 0 => 0
  | n + 1 => gC G n + @ite Int (G n) (Classical.propDecidable _) 1 0
theorem gC_s {G : Int → Prop} {k : Int} (h : 0 ≤ k) : gC G (k + 1).toNat = gC G k.toNat + @ite Int (G k) (Classical.propDecidable _) 1 0 := by
  rw [tnat h]
  show _ + @ite Int _ (Classical.propDecidable _) _ _ = _
  rw [ntc h]
theorem gC_t {G : Int → Prop} {k : Int} (h : 0 ≤ k) (g : G k) : gC G (k + 1).toNat = gC G k.toNat + 1 := by rw [gC_s h, if_pos g]
theorem gC_f {G : Int → Prop} {k : Int} (h : 0 ≤ k) (g : ¬ G k) : gC G (k + 1).toNat = gC G k.toNat := by rw [gC_s h, if_neg g]; omega
theorem gC_m {G : Int → Prop} {m : Nat} : ∀ j : Nat, gC G m ≤ gC G (m + j) ∧ gC G (m + j) ≤ gC G m + j := by
  intro j
  induction j with
  | zero => exact ⟨Int.le_refl _, by show gC G m ≤ gC G m + ((0 : Nat) : Int); omega⟩
  | succ j ih =>
    show gC G m ≤ gC G (m + j) + @ite Int (G ((m + j : Nat) : Int)) (Classical.propDecidable _) 1 0 ∧ gC G (m + j) + @ite Int (G ((m + j : Nat) : Int)) (Classical.propDecidable _) 1 0 ≤ gC G m + ((j + 1 : Nat) : Int)
    split <;> omega
theorem gC_le {G : Int → Prop} {i j : Int} (h : 0 ≤ i ∧ i ≤ j) : gC G i.toNat ≤ gC G j.toNat ∧ gC G j.toNat ≤ gC G i.toNat + (j - i) := by
  have := gC_m (G := G) (m := i.toNat) (j - i).toNat
  rw [show i.toNat + (j - i).toNat = j.toNat by omega] at this
  omega
theorem gC_lt {G : Int → Prop} {i j : Int} (h : 0 ≤ i ∧ i < j) (g : G i) : gC G i.toNat + 1 ≤ gC G j.toNat := by
  rw [← gC_t h.1 g]
  exact (gC_le ⟨by omega, by omega⟩).1
theorem gC_0 {G : Int → Prop} {j : Int} (h : 0 ≤ j) : 0 ≤ gC G j.toNat ∧ gC G j.toNat ≤ j := by
  have := gC_le (G := G) (i := 0) (j := j) ⟨by omega, h⟩
  have e : gC G (0 : Int).toNat = 0 := rfl
  omega
theorem gC_inj {G : Int → Prop} {i j : Int} (hi : 0 ≤ i) (hj : 0 ≤ j) (gi : G i) (gj : G j) (e : gC G i.toNat = gC G j.toNat) : i = j := by
  rcases Int.lt_trichotomy i j with h | h | h
  · have := gC_lt ⟨hi, h⟩ gi
    omega
  · exact h
  · have := gC_lt ⟨hj, h⟩ gj
    omega
theorem gC_sur {G : Int → Prop} {m : Int} : ∀ n : Nat, 0 ≤ m → m < gC G n → ∃ j, 0 ≤ j ∧ j < (n : Int) ∧ G j ∧ gC G j.toNat = m := by
  intro n
  induction n with
  | zero => intro a b; exact absurd b (by show ¬ m < 0; omega)
  | succ n ih =>
    intro a b
    by_cases c : m < gC G n
    · obtain ⟨j, h1, h2, h3⟩ := ih a c
      exact ⟨j, h1, by omega, h3⟩
    · have b : m < gC G n + @ite Int (G (n : Int)) (Classical.propDecidable _) 1 0 := b
      by_cases g : G (n : Int)
      · rw [if_pos g] at b
        exact ⟨n, by omega, by omega, g, by rw [Int.toNat_natCast]; omega⟩
      · rw [if_neg g] at b
        omega
/-- the first of a family is kept, if all are of the right kind -/
theorem gP_first {K : Int → Prop} {F : Int → Int} {n : Int} (hK : ∀ j, 0 ≤ j → j < n → K j) : ∀ (m : Nat) (j : Int), j.toNat ≤ m → 0 ≤ j → j < n → ∃ i, 0 ≤ i ∧ i ≤ j ∧ gP K F i ∧ F i = F j := by
  intro m
  induction m with
  | zero =>
    intro j h1 h2 h3
    exact ⟨j, h2, Int.le_refl _, ⟨hK j h2 h3, fun i a b => by omega⟩, rfl⟩
  | succ m ih =>
    intro j h1 h2 h3
    by_cases c : ∀ i, 0 ≤ i → i < j → F i ≠ F j
    · exact ⟨j, h2, Int.le_refl _, ⟨hK j h2 h3, c⟩, rfl⟩
    · obtain ⟨i, c1⟩ := Classical.not_forall.mp c
      obtain ⟨c2, c3⟩ := Classical.not_forall.mp c1
      obtain ⟨c4, c5⟩ := Classical.not_forall.mp c3
      have c5 := Classical.not_not.mp c5
      obtain ⟨k, k1, k2, k3, k4⟩ := ih i (by omega) c2 (by omega)
      exact ⟨k, k1, by omega, k3, k4.trans c5⟩
/-- places: which lists hold -/
def pl (D : MS) (l : Int) : Prop := (3 ≤ l ∧ l < 3 + D 91 0) ∨ (15 ≤ l ∧ l < 15 + D 92 0 ∧ D 60 (l - 15) = 115)
def HD (D : MS) : Prop := (∀ l k l' k', pl D l → pl D l' → 0 ≤ k → k < D 70 l → 0 ≤ k' → k' < D 70 l' → D 71 (40 * l + k) = D 71 (40 * l' + k') → l = l' ∧ k = k') ∧ (∀ q, iQ D q → (D 28 q = 1 ↔ ∃ l k, pl D l ∧ 0 ≤ k ∧ k < D 70 l ∧ D 71 (40 * l + k) = q)) ∧ ∀ l k, pl D l → 0 ≤ k → k < D 70 l → iQ D (D 71 (40 * l + k))
theorem pl_c {D D' : MS} (h1 : D' 91 0 = D 91 0) (h2 : D' 92 0 = D 92 0) (h3 : ∀ k, D' 60 k = D 60 k) (l : Int) : pl D' l ↔ pl D l := by
  unfold pl
  rw [h1, h2, h3]
theorem HD.rm {D : MS} (H : HD D) (hI : ID D) {p i : Int} (hp : 0 ≤ p ∧ p < D 91 0) (hi : 0 ≤ i ∧ i < D 70 (3 + p)) : HD (mset (dRm D (3 + p) i) 28 (D 71 (40 * (3 + p) + i)) 0) := by
  obtain ⟨H1, H2, H3⟩ := H
  have c := hI.c
  have hpl : ∀ l, pl (mset (dRm D (3 + p) i) 28 (D 71 (40 * (3 + p) + i)) 0) l ↔ pl D l := pl_c ((mset_n (by decide)).trans (dRm_o _ _ (by decide))) ((mset_n (by decide)).trans (dRm_o _ _ (by decide))) (fun k => (mset_n (by decide)).trans (dRm_o _ _ (by decide)))
  have pp : pl D (3 + p) := Or.inl (by omega)
  have e70 : ∀ l, mset (dRm D (3 + p) i) 28 (D 71 (40 * (3 + p) + i)) 0 70 l = if l = 3 + p then D 70 (3 + p) - 1 else D 70 l := fun l => by
    rw [mset_n (by decide)]
    unfold dRm
    by_cases e : l = 3 + p
    · rw [if_pos ⟨rfl, e⟩, if_pos e]
    · rw [if_neg (fun w => e w.2), if_neg e, if_neg (by omega)]
  have e71 : ∀ l k, 0 ≤ l → l < 48 → 0 ≤ k → k < 39 → mset (dRm D (3 + p) i) 28 (D 71 (40 * (3 + p) + i)) 0 71 (40 * l + k) = if l = 3 + p ∧ i ≤ k then D 71 (40 * l + (k + 1)) else D 71 (40 * l + k) := fun l k a b x y => by
    rw [mset_n (by decide)]
    unfold dRm
    rw [if_neg (by omega)]
    by_cases e : l = 3 + p ∧ i ≤ k
    · rw [if_pos ⟨rfl, by omega, by omega⟩, if_pos e]
      congr 1
      omega
    · rw [if_neg (by omega), if_neg e]
  have hbd : ∀ l, pl D l → 0 ≤ l ∧ l < 48 ∧ 0 ≤ D 70 l ∧ D 70 l ≤ 39 := fun l h => by
    have h1 := hI.a70 l
    rcases h with h | h
    · have := hI.l9 (p := l - 3) (by omega)
      rw [show 3 + (l - 3) = l by omega] at this
      omega
    · have := hI.l27 (p := l - 15) (by omega)
      rw [show 15 + (l - 15) = l by omega] at this
      omega
  -- the place that a place was
  have hf : ∀ l k, pl D l → 0 ≤ k → k < (if l = 3 + p then D 70 (3 + p) - 1 else D 70 l) → ∃ k2, 0 ≤ k2 ∧ k2 < D 70 l ∧ ¬ (l = 3 + p ∧ k2 = i) ∧ (k2 = if l = 3 + p ∧ i ≤ k then k + 1 else k) ∧ mset (dRm D (3 + p) i) 28 (D 71 (40 * (3 + p) + i)) 0 71 (40 * l + k) = D 71 (40 * l + k2) := fun l k h a b => by
    have hb := hbd l h
    have hb2 := hbd _ pp
    have b39 : k < 39 := by split at b <;> omega
    rw [e71 l k hb.1 hb.2.1 a b39]
    by_cases e : l = 3 + p ∧ i ≤ k
    · rw [if_pos e, if_pos e]
      rw [if_pos e.1] at b
      exact ⟨k + 1, by omega, by rw [e.1]; omega, by omega, rfl, rfl⟩
    · rw [if_neg e, if_neg e]
      refine ⟨k, a, ?_, by omega, rfl, rfl⟩
      by_cases e2 : l = 3 + p
      · rw [if_pos e2] at b; rw [e2]; omega
      · rw [if_neg e2] at b; exact b
  refine ⟨fun l k l' k' h h' a b a' b' e => ?_, fun q hq => ?_, fun l k h a b => ?_⟩
  · rw [hpl] at h h'
    rw [e70] at b b'
    obtain ⟨m, m1, m2, m3, m4, m5⟩ := hf l k h a b
    obtain ⟨m', n1, n2, n3, n4, n5⟩ := hf l' k' h' a' b'
    rw [m5, n5] at e
    obtain ⟨x, y⟩ := H1 l m l' m' h h' m1 m2 n1 n2 e
    subst x
    subst y
    refine ⟨rfl, ?_⟩
    rw [m4] at n4
    split at n4 <;> split at n4 <;> omega
  · have hq' : iQ D q := by
      have e : mset (dRm D (3 + p) i) 28 (D 71 (40 * (3 + p) + i)) 0 90 0 = D 90 0 := (mset_n (by decide)).trans (dRm_o _ _ (by decide))
      unfold iQ at hq ⊢
      rw [e] at hq
      exact hq
    rw [mset_f]
    have e28 : dRm D (3 + p) i 28 q = D 28 q := dRm_o _ _ (by decide)
    rw [e28]
    by_cases e : q = D 71 (40 * (3 + p) + i)
    · rw [if_pos e]
      refine ⟨fun w => by omega, fun ⟨l, k, h, a, b, w⟩ => ?_⟩
      rw [hpl] at h
      rw [e70] at b
      obtain ⟨m, m1, m2, m3, m4, m5⟩ := hf l k h a b
      rw [m5, e] at w
      obtain ⟨x, y⟩ := H1 l m (3 + p) i h pp m1 m2 hi.1 hi.2 w
      exact absurd ⟨x, y⟩ m3
    · rw [if_neg e, H2 q hq']
      refine ⟨fun ⟨l, k, h, a, b, w⟩ => ?_, fun ⟨l, k, h, a, b, w⟩ => ?_⟩
      · have hb := hbd l h
        by_cases e2 : l = 3 + p
        · subst e2
          by_cases e3 : k < i
          · refine ⟨3 + p, k, (hpl _).mpr h, a, ?_, ?_⟩
            · rw [e70, if_pos rfl]; omega
            · rw [e71 _ k hb.1 hb.2.1 a (by omega), if_neg (by omega)]; exact w
          · have e4 : k ≠ i := fun x => e (by rw [← w, x])
            refine ⟨3 + p, k - 1, (hpl _).mpr h, by omega, ?_, ?_⟩
            · rw [e70, if_pos rfl]; omega
            · rw [e71 _ (k - 1) hb.1 hb.2.1 (by omega) (by omega), if_pos ⟨rfl, by omega⟩, show k - 1 + 1 = k by omega]; exact w
        · refine ⟨l, k, (hpl _).mpr h, a, ?_, ?_⟩
          · rw [e70, if_neg e2]; exact b
          · rw [e71 _ k hb.1 hb.2.1 a (by omega), if_neg (fun x => e2 x.1)]; exact w
      · rw [hpl] at h
        rw [e70] at b
        obtain ⟨m, m1, m2, m3, m4, m5⟩ := hf l k h a b
        exact ⟨l, m, h, m1, m2, by rw [← m5]; exact w⟩
  · rw [hpl] at h
    rw [e70] at b
    obtain ⟨m, m1, m2, m3, m4, m5⟩ := hf l k h a b
    have e : mset (dRm D (3 + p) i) 28 (D 71 (40 * (3 + p) + i)) 0 90 0 = D 90 0 := (mset_n (by decide)).trans (dRm_o _ _ (by decide))
    unfold iQ
    rw [m5, e]
    exact H3 l m h m1 m2
theorem HD.ad {D : MS} (H : HD D) (hI : ID D) {p q : Int} (hp : 0 ≤ p ∧ p < D 91 0) (hn : D 70 (3 + p) ≤ 8) (hq : iQ D q) (h28 : D 28 q = 0) : HD (mset (dAd D (3 + p) q) 28 q 1) := by
  obtain ⟨H1, H2, H3⟩ := H
  have c := hI.c
  have hz := hI.a70 (3 + p)
  have hpl : ∀ l, pl (mset (dAd D (3 + p) q) 28 q 1) l ↔ pl D l := pl_c ((mset_n (by decide)).trans (dAd_o _ _ (by decide))) ((mset_n (by decide)).trans (dAd_o _ _ (by decide))) (fun k => (mset_n (by decide)).trans (dAd_o _ _ (by decide)))
  have pp : pl D (3 + p) := Or.inl (by omega)
  have e70 : ∀ l, mset (dAd D (3 + p) q) 28 q 1 70 l = if l = 3 + p then D 70 (3 + p) + 1 else D 70 l := fun l => by
    rw [mset_n (by decide)]
    show mset (mset D 71 (40 * (3 + p) + D 70 (3 + p)) q) 70 (3 + p) (D 70 (3 + p) + 1) 70 l = _
    rw [mset_f]
    split
    · rfl
    · exact mset_n (by decide)
  have e71 : ∀ l k, 0 ≤ k → k < 40 → mset (dAd D (3 + p) q) 28 q 1 71 (40 * l + k) = if l = 3 + p ∧ k = D 70 (3 + p) then q else D 71 (40 * l + k) := fun l k x y => by
    rw [mset_n (by decide)]
    show mset (mset D 71 (40 * (3 + p) + D 70 (3 + p)) q) 70 (3 + p) (D 70 (3 + p) + 1) 71 (40 * l + k) = _
    rw [mset_n (by decide), mset_f]
    by_cases e : l = 3 + p ∧ k = D 70 (3 + p)
    · rw [if_pos (by omega), if_pos e]
    · rw [if_neg (by omega), if_neg e]
  have e90 : mset (dAd D (3 + p) q) 28 q 1 90 0 = D 90 0 := (mset_n (by decide)).trans (dAd_o _ _ (by decide))
  have hbd : ∀ l, pl D l → D 70 l ≤ 39 := fun l h => by
    rcases h with h | h
    · have := hI.l9 (p := l - 3) (by omega)
      rw [show 3 + (l - 3) = l by omega] at this
      omega
    · have := hI.l27 (p := l - 15) (by omega)
      rw [show 15 + (l - 15) = l by omega] at this
      omega
  have hno : ∀ l k, pl D l → 0 ≤ k → k < D 70 l → D 71 (40 * l + k) ≠ q := fun l k h a b w => by
    have := (H2 q hq).mpr ⟨l, k, h, a, b, w⟩
    omega
  have hf : ∀ l k, pl D l → 0 ≤ k → k < (if l = 3 + p then D 70 (3 + p) + 1 else D 70 l) → (l = 3 + p ∧ k = D 70 (3 + p) ∧ mset (dAd D (3 + p) q) 28 q 1 71 (40 * l + k) = q) ∨ (k < D 70 l ∧ mset (dAd D (3 + p) q) 28 q 1 71 (40 * l + k) = D 71 (40 * l + k)) := fun l k h a b => by
    have := hbd l h
    by_cases e : l = 3 + p
    · rw [if_pos e] at b
      rw [e71 l k a (by omega)]
      by_cases e2 : k = D 70 (3 + p)
      · exact Or.inl ⟨e, e2, if_pos ⟨e, e2⟩⟩
      · exact Or.inr ⟨by rw [e]; omega, if_neg (fun w => e2 w.2)⟩
    · rw [if_neg e] at b
      rw [e71 l k a (by omega)]
      exact Or.inr ⟨b, if_neg (fun w => e w.1)⟩
  refine ⟨fun l k l' k' h h' a b a' b' e => ?_, fun r hr => ?_, fun l k h a b => ?_⟩
  · rw [hpl] at h h'
    rw [e70] at b b'
    rcases hf l k h a b with ⟨x1, x2, x3⟩ | ⟨x1, x2⟩
    · rcases hf l' k' h' a' b' with ⟨y1, y2, y3⟩ | ⟨y1, y2⟩
      · exact ⟨by omega, by omega⟩
      · rw [x3, y2] at e
        exact absurd e.symm (hno l' k' h' a' y1)
    · rcases hf l' k' h' a' b' with ⟨y1, y2, y3⟩ | ⟨y1, y2⟩
      · rw [x2, y3] at e
        exact absurd e (hno l k h a x1)
      · rw [x2, y2] at e
        exact H1 l k l' k' h h' a x1 a' y1 e
  · unfold iQ at hr
    rw [e90] at hr
    rw [mset_f]
    have e28 : dAd D (3 + p) q 28 r = D 28 r := dAd_o _ _ (by decide)
    rw [e28]
    by_cases e : r = q
    · rw [if_pos e]
      refine ⟨fun _ => ⟨3 + p, D 70 (3 + p), (hpl _).mpr pp, by omega, by rw [e70, if_pos rfl]; omega, ?_⟩, fun _ => rfl⟩
      rw [e71 _ _ (by omega) (by omega), if_pos ⟨rfl, rfl⟩, e]
    · rw [if_neg e, H2 r hr]
      refine ⟨fun ⟨l, k, h, a, b, w⟩ => ?_, fun ⟨l, k, h, a, b, w⟩ => ?_⟩
      · have := hbd l h
        refine ⟨l, k, (hpl _).mpr h, a, ?_, ?_⟩
        · rw [e70]
          split
          · rename_i e2
            rw [e2] at b; omega
          · exact b
        · rw [e71 l k a (by omega), if_neg (fun x => by rw [x.1, x.2] at b; omega)]
          exact w
      · rw [hpl] at h
        rw [e70] at b
        rcases hf l k h a b with ⟨x1, x2, x3⟩ | ⟨x1, x2⟩
        · rw [x3] at w
          exact absurd w.symm e
        · exact ⟨l, k, h, a, x1, by rw [← x2]; exact w⟩
  · rw [hpl] at h
    rw [e70] at b
    unfold iQ
    rw [e90]
    rcases hf l k h a b with ⟨x1, x2, x3⟩ | ⟨x1, x2⟩
    · rw [x3]; exact hq
    · rw [x2]; exact H3 l k h a x1
theorem dHoN_v {D : MS} {l v q : Int} : ∀ n : Nat, (dHoN D l v n 28 q = v ∧ ∃ k, 0 ≤ k ∧ k < (n : Int) ∧ D 71 (40 * l + k) = q) ∨ (dHoN D l v n 28 q = D 28 q ∧ ∀ k, 0 ≤ k → k < (n : Int) → D 71 (40 * l + k) ≠ q) := by
  intro n
  induction n with
  | zero => exact Or.inr ⟨rfl, fun k a b => by omega⟩
  | succ n ih =>
    show (mset (dHoN D l v n) 28 (D 71 (40 * l + n)) v 28 q = v ∧ _) ∨ (mset (dHoN D l v n) 28 (D 71 (40 * l + n)) v 28 q = D 28 q ∧ _)
    rw [mset_f]
    by_cases e : q = D 71 (40 * l + n)
    · rw [if_pos e]
      exact Or.inl ⟨rfl, n, by omega, by omega, e.symm⟩
    · rw [if_neg e]
      rcases ih with ⟨a, k, b, c, d⟩ | ⟨a, b⟩
      · exact Or.inl ⟨a, k, b, by omega, d⟩
      · refine Or.inr ⟨a, fun k x y w => ?_⟩
        by_cases e2 : k = n
        · subst e2; exact e w.symm
        · exact b k x (by omega) w
theorem HD.la {D : MS} (H : HD D) (hI : ID D) {p : Int} (hp : 0 ≤ p ∧ p < D 91 0) : HD (dLa D p) := by
  obtain ⟨H1, H2, H3⟩ := H
  have hz := hI.a70 (3 + p)
  have ho : ∀ f k, f ≠ 28 → ¬ (f = 70 ∧ k = 3 + p) → dLa D p f k = D f k := fun f k a b => (if_neg b).trans ((dHoN_o hI (l := 3 + p) (v := 0) (Or.inl rfl) _).1 f k (by simp; exact a))
  have hpl : ∀ l, pl (dLa D p) l ↔ pl D l := pl_c (ho _ _ (by decide) (by omega)) (ho _ _ (by decide) (by omega)) (fun k => ho _ _ (by decide) (by omega))
  have pp : pl D (3 + p) := Or.inl (by omega)
  have e70 : ∀ l, dLa D p 70 l = if l = 3 + p then 0 else D 70 l := fun l => by
    by_cases e : l = 3 + p
    · rw [if_pos e, e]; exact mset_s
    · rw [if_neg e]; exact ho _ _ (by decide) (fun w => e w.2)
  have e71 : ∀ k, dLa D p 71 k = D 71 k := fun k => ho _ _ (by decide) (by omega)
  have e90 : dLa D p 90 0 = D 90 0 := ho _ _ (by decide) (by omega)
  have e28 : ∀ q, dLa D p 28 q = dHoN D (3 + p) 0 (D 70 (3 + p)).toNat 28 q := fun q => mset_n (by decide)
  refine ⟨fun l k l' k' h h' a b a' b' e => ?_, fun q hq => ?_, fun l k h a b => ?_⟩
  · rw [hpl] at h h'
    rw [e70] at b b'
    rw [e71, e71] at e
    split at b
    · omega
    · split at b'
      · omega
      · exact H1 l k l' k' h h' a b a' b' e
  · unfold iQ at hq
    rw [e90] at hq
    rw [e28]
    rcases dHoN_v (D := D) (l := 3 + p) (v := 0) (q := q) (D 70 (3 + p)).toNat with ⟨a, k, b, c, d⟩ | ⟨a, b⟩
    · rw [a]
      refine ⟨fun w => by omega, fun ⟨l, j, h, x, y, w⟩ => ?_⟩
      rw [hpl] at h
      rw [e70] at y
      rw [e71] at w
      split at y
      · omega
      · rename_i ne
        have := H1 l j (3 + p) k h pp x y b (by omega) (by rw [w, d])
        exact absurd this.1 ne
    · rw [a, H2 q hq]
      refine ⟨fun ⟨l, j, h, x, y, w⟩ => ?_, fun ⟨l, j, h, x, y, w⟩ => ?_⟩
      · have ne : l ≠ 3 + p := fun e => by
          subst e
          exact b j x (by omega) w
        exact ⟨l, j, (hpl _).mpr h, x, by rw [e70, if_neg ne]; exact y, by rw [e71]; exact w⟩
      · rw [hpl] at h
        rw [e70] at y
        rw [e71] at w
        split at y
        · omega
        · exact ⟨l, j, h, x, y, w⟩
  · rw [hpl] at h
    rw [e70] at b
    unfold iQ
    rw [e71, e90]
    split at b
    · omega
    · exact H3 l k h a b

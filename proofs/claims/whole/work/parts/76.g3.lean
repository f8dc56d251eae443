theorem tw_both {D M : MS} {a ls : Int} (hR : RX D M) (hI : ID D) (ha : iQ D a) : ∀ n : Nat, (n : Int) ≤ D 90 0 → RX (dJf D (D 26 a) ls n) (sGrN M ls a n) ∧ sGrN M ls a n 4 a = D 26 a := by
  intro n
  induction n with
  | zero => exact fun _ => ⟨hR, (hR.1.2.2.2.1 a ha).2.2.1⟩
  | succ n ih =>
    intro hn
    obtain ⟨h1, h2⟩ := ih (by omega)
    have e90 : dJf D (D 26 a) ls n 90 0 = D 90 0 := (dJfN_o hI (hI.a26 a) n).1 _ _ (by decide)
    have e4 := (h1.1.2.2.2.1 (n : Int) ⟨by omega, by omega⟩).2.2.1
    unfold dJf sGrN
    rw [e4]
    by_cases c : dJf D (D 26 a) ls n 26 n = ls
    · rw [if_pos c, if_pos c, h2]
      refine ⟨h1.s26, ?_⟩
      rw [mset_f, h2]
      split <;> rfl
    · rw [if_neg c, if_neg c]
      exact ⟨h1, h2⟩
theorem dCtN_c {D M : MS} {a : Int} (ha : iQ D a) (h : ∀ q, iQ D q → M 4 q = D 26 q) : ∀ n : Nat, (n : Int) ≤ D 90 0 → dCtN D a n = sCtN M a n := by
  intro n
  induction n with
  | zero => intro _; rfl
  | succ n ih =>
    intro hn
    show dCtN D a n + (if (n : Int) ≠ a ∧ D 26 n = D 26 a then 1 else 0) = sCtN M a n + (if (n : Int) ≠ a ∧ M 4 n = M 4 a then 1 else 0)
    rw [ih (by omega), h a ha, h n ⟨by omega, by omega⟩]
theorem dCtN_e {D D' : MS} {a : Int} (h : ∀ q, D' 26 q = D 26 q) : ∀ n : Nat, dCtN D' a n = dCtN D a n := by
  intro n
  induction n with
  | zero => rfl
  | succ n ih =>
    show dCtN D' a n + (if (n : Int) ≠ a ∧ D' 26 n = D' 26 a then 1 else 0) = dCtN D a n + (if (n : Int) ≠ a ∧ D 26 n = D 26 a then 1 else 0)
    rw [ih, h, h]
theorem HD.e {D D' : MS} (H : HD D) (hI : ID D) {fs : List Nat} (o : OnlyF fs D D') (h : ∀ x ∈ fs, x ∉ [6, 23, 26, 28, 50, 51, 54, 60, 70, 71, 90, 91, 92]) : HD D' := by
  have e : ∀ f, f ∈ [6, 23, 26, 28, 50, 51, 54, 60, 70, 71, 90, 91, 92] → ∀ k, D' f k = D f k := fun f hf k => o f k (fun w => h f w hf)
  exact H.c hI ⟨⟨e _ (by decide) _, e _ (by decide) _, e _ (by decide) _, e _ (by decide) _⟩, fun k => ⟨e _ (by decide) _, e _ (by decide) _, e _ (by decide) _, e _ (by decide) _, e _ (by decide) _, e _ (by decide) _, e _ (by decide) _⟩, fun k _ _ => e _ (by decide) _, fun k _ _ => e _ (by decide) _⟩
/-- holding lists do not look at families and levels -/
theorem HD.f {D D' : MS} (H : HD D) (o : OnlyF [8, 9, 23, 25, 26, 42, 61] D D') : HD D' := by
  obtain ⟨H1, H2, H3⟩ := H
  have e70 : ∀ k, D' 70 k = D 70 k := fun k => o _ _ (by decide)
  have e71 : ∀ k, D' 71 k = D 71 k := fun k => o _ _ (by decide)
  have e28 : ∀ k, D' 28 k = D 28 k := fun k => o _ _ (by decide)
  have e90 : D' 90 0 = D 90 0 := o _ _ (by decide)
  have hpl : ∀ l, pl D' l ↔ pl D l := pl_c (o _ _ (by decide)) (o _ _ (by decide)) (fun k => o _ _ (by decide))
  unfold HD iQ
  simp only [hpl, e70, e71, e28, e90]
  exact ⟨H1, H2, H3⟩
theorem KPp.l {D : MS} {p : Int} (h : KPp D p) : ∀ k, 0 ≤ k → k < D 70 (3 + p) → gK D p k := fun k a b => (h k a b).1
theorem KPp.r {D : MS} {p : Int} (h : KPp D p) : ∀ i j, 0 ≤ i → i < j → j < D 70 (3 + p) → gF D p i ≠ gF D p j := fun i j a b c e => (h j (by omega) c).2 ⟨i, a, b, by omega, e⟩
theorem PS.tw {D M : MS} (H : DM D M) {a b : Int} (ha : iQ D a) : PS (dJf D (D 26 a) (D 26 b) (D 90 0).toNat) (sGrN M (D 26 b) a (D 90 0).toNat) := by
  have hI := H.1.2.1
  have c := hI.n.1
  have z := hI.a70 45
  obtain ⟨o1, o2⟩ := dJf_o (D 26 a) (D 26 b) hI (hI.a26 a)
  obtain ⟨o3, o4⟩ := sGrN_o (fr := D 26 b) (a := a) H.2.1 (D 90 0).toNat
  have oa : oA D (dJf D (D 26 a) (D 26 b) (D 90 0).toNat) := ⟨⟨o1 _ _ (by decide), o1 _ _ (by decide)⟩, fun k => ⟨o1 _ _ (by decide), o1 _ _ (by decide), o1 _ _ (by decide), o1 _ _ (by decide), o1 _ _ (by decide)⟩, fun k _ _ => o1 _ _ (by decide), fun k _ _ => o1 _ _ (by decide)⟩
  refine ⟨(tw_both H.1.1 hI ha _ (by omega)).1, o2, H.1.2.2.1.f (o1.w (by decide)), o4, fun p hp => ?_, fun p hp => ?_, H.2.2.1.c hI oa, H.2.2.2.1.c hI oa (fun k => o1 _ _ (by decide)), fun k => ?_⟩
  · unfold iP at hp
    rw [o1 91 0 (by decide)] at hp
    refine ⟨(H.pl hp).1.c (fun k => o1 _ _ (by decide)) (fun k => o1 _ _ (by decide)) (fun k => o3 _ _ (by decide)) (fun k => o3 _ _ (by decide)) ?_, fun _ => Or.inl fun k x y => ?_⟩
    · unfold sFrc
      rw [o3 14 _ (by decide), o3 24 _ (by decide), o3 8 _ (by decide)]
    · rw [o1 70 _ (by decide)] at y
      have := (H.1.2.2.2.1 p hp).2.l k x y
      unfold gK xD at this ⊢
      rw [o1 23 _ (by decide), o1 71 _ (by decide), o1 51 _ (by decide)]
      exact this
  · rw [o1 91 0 (by decide)] at hp
    rw [o3 11 _ (by decide)]
    exact H.1.2.2.2.2 p hp
  · rw [o1 29 _ (by decide)]
    exact H.2.2.2.2 k
theorem g_twin {D M : MS} (H : DM D M) (a b : Int) : AG [eIO, eIA] (d_twin D a b) (s_twin M a b) := by
  unfold d_twin s_twin
  by_cases ha : iQ D a
  · have ha' := (H.iq a).mp ha
    rw [if_neg (fun w => w ha)]
    by_cases hb : iQ D b
    · have hb' := (H.iq b).mp hb
      have n1 : ¬ (¬ isQ M a ∨ ¬ isQ M b) := fun w => w.elim (fun x => x ha') (fun x => x hb')
      rw [if_neg (fun w => w hb), if_neg n1]
      refine AG.ite Iff.rfl (fun _ => .no 1 H.th rfl mset_s) (fun _ => ?_)
      rw [H.nn.1, (H.qq b hb).2.2.1]
      have hI := H.1.2.1
      have c := hI.n.1
      have z := hI.a70 45
      have ps := PS.tw (H.th (c := 0)) (b := b) ha
      have o3 := (sGrN_o (fr := D 26 b) (a := a) H.2.1.th (D 90 0).toNat (M := sT M 0)).1
      have o1 := (dJf_o (D 26 a) (D 26 b) hI (hI.a26 a)).1
      have oS := dSet_S ps.2.1
      have e90 : dJf D (D 26 a) (D 26 b) (D 90 0).toNat 90 0 = D 90 0 := o1 _ _ (by decide)
      refine .set ps ?_ ((o3 27 0 (by decide)).trans mset_s)
      rw [dCtN_e (fun q => oS 26 q (by decide) (by omega) (by omega))]
      exact dCtN_c ⟨by omega, by rw [e90]; omega⟩ (fun q hq => (ps.1.1.2.2.2.1 q hq).2.2.1) _ (by omega)
    · have n1 : ¬ isQ M a ∨ ¬ isQ M b := Or.inr fun w => hb ((H.iq b).mpr w)
      rw [if_pos hb, if_pos n1]
      exact .no 0 H.th rfl mset_s
  · have n1 : ¬ isQ M a ∨ ¬ isQ M b := Or.inl fun w => ha ((H.iq a).mpr w)
    rw [if_pos ha, if_pos n1]
    exact .no 0 H.th rfl mset_s
/-- an answer -/
theorem RX.s61 {D M : MS} (H : RX D M) {s i z : Int} (hs : 0 ≤ s ∧ s < D 92 0) (hi : 0 ≤ i ∧ i < 27) : RX (mset D 61 (27 * s + i) z) (mset M 15 (27 * s + i) z) := by
  obtain ⟨⟨a, b, c1, c2, c3, c4, c5, c6, c7⟩, d, e⟩ := H
  refine ⟨⟨a, b, c1, c2, c3, c4, fun j hj => ?_, c6, fun j hj => ?_⟩, d, e⟩
  · obtain ⟨x1, x2⟩ := c5 j hj
    refine ⟨x1, fun k x y => ?_⟩
    rw [mset_f, mset_f, x2 k x y]
  · have hj : 27 * D 92 0 ≤ j := hj
    rw [mset_k (by omega)]
    exact c7 j hj
theorem RX.s23 {D M : MS} (H : RX D M) {q z : Int} : RX (mset D 23 q z) (mset M 3 q z) := by
  obtain ⟨⟨a, b, c1, c2, c3, c4, c5, c6, c7⟩, d, e⟩ := H
  refine ⟨⟨a, b, c1, fun j hj => ?_, c3, c4, c5, c6, c7⟩, d, e⟩
  obtain ⟨x1, x2, x3, x4⟩ := c2 j hj
  refine ⟨x1, ?_, x3, x4⟩
  rw [mset_f, mset_f, x2]
theorem RX.s8 {D M : MS} (H : RX D M) {z : Int} : RX (mset D 8 0 z) (mset M 25 0 z) := by
  obtain ⟨⟨a, ⟨b1, b2, b3, b4, b5⟩, cs⟩, d, e⟩ := H
  exact ⟨⟨a, ⟨b1, b2, b3, rfl, b5⟩, cs⟩, d, e⟩
theorem RX.s9 {D M : MS} (H : RX D M) {z : Int} : RX (mset D 9 0 z) (mset M 26 0 z) := by
  obtain ⟨⟨a, ⟨b1, b2, b3, b4, b5⟩, cs⟩, d, e⟩ := H
  exact ⟨⟨a, ⟨b1, b2, b3, b4, rfl⟩, cs⟩, d, e⟩
theorem RX.s42 {D M : MS} (H : RX D M) {k z : Int} : RX (mset D 42 k z) M := H
theorem RX.s25 {D M : MS} (H : RX D M) {k z : Int} : RX (mset D 25 k z) M := H
theorem mset_id {D : MS} {f : Nat} {k : Int} : mset D f k (D f k) = D := by
  funext f' k'
  rw [mset2]
  split
  · rename_i h
    rw [h.1, h.2]
  · rfl
theorem dAc_r {D : MS} {q : Int} : ∀ n : Nat, 0 ≤ dAc D q n ∧ dAc D q n ≤ n := by
  intro n
  induction n with
  | zero => exact ⟨Int.le_refl _, Int.le_refl _⟩
  | succ n ih =>
    show 0 ≤ dAc D q n + _ ∧ dAc D q n + _ ≤ _
    split <;> omega
def aE (D : MS) (q n : Int) : Prop := ∃ k, 0 ≤ k ∧ k < D 70 (15 + n) ∧ D 71 (40 * (15 + n) + k) = q ∧ D 61 (27 * n + k) = 1
/-- one more sheet has an answer for it -/
theorem dAc_u {D : MS} {s i q : Int} (hs : 0 ≤ s) (hi : 0 ≤ i ∧ i < D 70 (15 + s)) (h27 : ∀ n : Int, 0 ≤ n → n < 30 → D 70 (15 + n) ≤ 27) (hd : ∀ j k, 0 ≤ j → j < D 70 (15 + s) → 0 ≤ k → k < D 70 (15 + s) → D 71 (40 * (15 + s) + j) = D 71 (40 * (15 + s) + k) → j = k) (h0 : D 61 (27 * s + i) = 0) (hs30 : s < 30) : ∀ n : Nat, n ≤ 30 → dAc (mset D 61 (27 * s + i) 1) q n = dAc D q n + @ite Int (s < n ∧ q = D 71 (40 * (15 + s) + i)) (Classical.propDecidable _) 1 0 := by
  intro n
  induction n with
  | zero =>
    intro _
    have : ¬ (s < ((0 : Nat) : Int) ∧ q = D 71 (40 * (15 + s) + i)) := fun w => by have := w.1; omega
    rw [if_neg this]
    rfl
  | succ n ih =>
    intro hn
    have hi27 := h27 s hs hs30
    have hn27 := h27 n (by omega) (by omega)
    have E1 : aE (mset D 61 (27 * s + i) 1) q n ↔ aE D q n ∨ ((n : Int) = s ∧ q = D 71 (40 * (15 + s) + i)) := by
      constructor
      · rintro ⟨k, x, y, w, v⟩
        have y : k < D 70 (15 + (n : Int)) := y
        have w : D 71 (40 * (15 + (n : Int)) + k) = q := w
        by_cases e : (n : Int) = s ∧ k = i
        · refine Or.inr ⟨e.1, ?_⟩
          rw [← w, e.1, e.2]
        · rw [mset_k (by omega)] at v
          exact Or.inl ⟨k, x, y, w, v⟩
      · rintro (⟨k, x, y, w, v⟩ | ⟨e, e2⟩)
        · refine ⟨k, x, y, w, ?_⟩
          rw [mset_f]
          split
          · rfl
          · exact v
        · refine ⟨i, hi.1, ?_, ?_, ?_⟩
          · rw [e]; exact hi.2
          · rw [e]; exact e2.symm
          · rw [e]; exact mset_s
    have E2 : (n : Int) = s ∧ q = D 71 (40 * (15 + s) + i) → ¬ aE D q n := by
      rintro ⟨e, e2⟩ ⟨k, x, y, w, v⟩
      rw [e] at y w v
      have := hd k i x y hi.1 hi.2 (by rw [w, e2])
      rw [this, h0] at v
      omega
    show dAc (mset D 61 (27 * s + i) 1) q n + @ite Int (aE (mset D 61 (27 * s + i) 1) q n) (Classical.propDecidable _) 1 0 = dAc D q n + @ite Int (aE D q n) (Classical.propDecidable _) 1 0 + @ite Int (s < ((n + 1 : Nat) : Int) ∧ q = D 71 (40 * (15 + s) + i)) (Classical.propDecidable _) 1 0
    rw [ih (by omega)]
    have F1 : @ite Int (s < ((n + 1 : Nat) : Int) ∧ q = D 71 (40 * (15 + s) + i)) (Classical.propDecidable _) 1 0 = @ite Int (s < (n : Int) ∧ q = D 71 (40 * (15 + s) + i)) (Classical.propDecidable _) 1 0 + @ite Int ((n : Int) = s ∧ q = D 71 (40 * (15 + s) + i)) (Classical.propDecidable _) 1 0 := by
      by_cases e2 : q = D 71 (40 * (15 + s) + i)
      · simp only [e2, and_true]
        (repeat' split) <;> omega
      · simp only [e2, and_false, if_false]
        rfl
    have F2 : @ite Int (aE (mset D 61 (27 * s + i) 1) q n) (Classical.propDecidable _) 1 0 = @ite Int (aE D q n) (Classical.propDecidable _) 1 0 + @ite Int ((n : Int) = s ∧ q = D 71 (40 * (15 + s) + i)) (Classical.propDecidable _) 1 0 := by
      by_cases e2 : (n : Int) = s ∧ q = D 71 (40 * (15 + s) + i)
      · have n2 := E2 e2
        rw [if_pos (E1.mpr (Or.inr e2)), if_neg n2, if_pos e2]
        rfl
      · by_cases e3 : aE D q n
        · rw [if_pos (E1.mpr (Or.inl e3)), if_pos e3, if_neg e2]
          rfl
        · have n3 : ¬ aE (mset D 61 (27 * s + i) 1) q n := fun w => (E1.mp w).elim e3 e2
          rw [if_neg n3, if_neg e3, if_neg e2]
          rfl
    rw [F1, F2]
    omega
theorem dLv_c2 {D D' : MS} {q : Int} (h1 : D' 22 q = D 22 q) : ∀ n : Nat, (∀ k, 0 ≤ k → k < (n : Int) → D' 42 (30 * q + k) = D 42 (30 * q + k)) → dLv D' q n = dLv D q n := by
  intro n
  induction n with
  | zero => exact fun _ => h1
  | succ n ih =>
    intro h2
    show sLv (dLv D' q n) (D' 42 (30 * q + n) ≠ 0) = sLv (dLv D q n) (D 42 (30 * q + n) ≠ 0)
    rw [ih (fun k a b => h2 k a (by omega)), h2 n (by omega) (by omega)]
theorem g_answer {D M : MS} (H : DM D M) (s i : Int) (b : Prop) (h8 : D 8 0 ≤ 999999) (h9 : D 9 0 ≤ 999999) : AG [eIO, eUO, eNS] (d_answer D s i (pI b)) (s_answer M s i b) :=
  AG.ite (not_c (H.is s)) (fun _ => .no 0 H.th rfl mset_s) (fun hs => by
    have hs := Classical.not_not.mp hs
    have hs' : 0 ≤ s ∧ s < D 92 0 := hs
    have hI := H.1.2.1
    have c := hI.c
    have h27 := hI.l27 (p := s) (by omega)
    have hz := hI.a70 (15 + s)
    have i92 := hI.n.2.2
    have z47 := hI.a70 47
    obtain ⟨t1, t2, t3⟩ := H.sh s hs
    obtain ⟨u1, u2⟩ := H.ss s hs
    obtain ⟨y1, y2, y3⟩ := H.2.2.2.1 s hs
    refine AG.ite (by rw [u1]) (fun _ => .no 1 H.th.th rfl mset_s) (fun _ => ?_)
    unfold dMkP
    rw [t1, t2]
    by_cases hi : ¬ (0 ≤ i ∧ i < D 70 (15 + s))
    · rw [if_pos hi, if_pos (Or.inl hi)]
      exact .no 2 H.th.th rfl mset_s
    have hi := Classical.not_not.mp hi
    rw [if_neg (fun w => w hi), u2 i hi.1 (by omega), t3 i hi.1 hi.2]
    by_cases h0 : ¬ D 61 (27 * s + i) = 0
    · rw [if_pos (fun w => h0 w.2), if_pos (Or.inr h0)]
      exact .no 2 H.th.th rfl mset_s
    have h0 := Classical.not_not.mp h0
    have n2 : ¬ ¬ ((0 ≤ i ∧ i < D 70 (15 + s)) ∧ D 61 (27 * s + i) = 0) := fun w => w ⟨hi, h0⟩
    have n3 : ¬ (¬ (0 ≤ i ∧ i < D 70 (15 + s)) ∨ D 61 (27 * s + i) ≠ 0) := fun w => w.elim (fun x => x hi) (fun x => x h0)
    rw [if_neg n2, if_neg n3]
    have hq := y3 i hi.1 hi.2
    generalize hQ : D 71 (40 * (15 + s) + i) = q at hq
    have hd := y1
    have hu : ∀ q2 : Int, ∀ n : Nat, n ≤ 30 → _ := fun q2 => dAc_u (q := q2) hs'.1 hi (fun n a b => hI.l27 (p := n) ⟨a, b⟩) hd h0 (by omega)
    have han := H.2.2.1
    have h25 : D 25 q < 30 := by
      have e := hu q (D 92 0).toNat (by omega)
      rw [if_pos ⟨by omega, hQ.symm⟩] at e
      have := (dAc_r (D := mset D 61 (27 * s + i) 1) (q := q) (D 92 0).toNat).2
      have := (han q hq).2
      omega
    have eM3 : M 3 q = D 23 q := (H.qq q hq).2.1
    have hpi : (pI b = 0 ∧ ¬ b) ∨ (pI b = 1 ∧ b) := by
      unfold pI
      by_cases w : b
      · rw [if_pos w]; exact Or.inr ⟨rfl, w⟩
      · rw [if_neg w]; exact Or.inl ⟨rfl, w⟩
    have hpb : (pI b ≠ 0) = b := propext (by rcases hpi with ⟨x, y⟩ | ⟨x, y⟩ <;> rw [x] <;> simp [y])
    have a23 := hI.a23 q
    have a25 := hI.a25 q
    have a8 := hI.a8
    have a9 := hI.a9
    have hlv := sLv_r (b := b) a23
    -- the developers' state behind
    have eD : dAns D s i (pI b) = mset (mset (mset (mset (mset (mset D 61 (27 * s + i) 1) 42 (30 * q + D 25 q) (pI b)) 25 q (D 25 q + 1)) 23 q (sLv (D 23 q) b)) 8 0 (D 8 0 + 1)) 9 0 (D 9 0 + pI b) := by
      have e1 : dTk (mset D 61 (27 * s + i) 1) q (pI b) = mset (mset (mset (mset D 61 (27 * s + i) 1) 42 (30 * q + D 25 q) (pI b)) 25 q (D 25 q + 1)) 23 q (sLv (D 23 q) b) := by
        have : dTk (mset D 61 (27 * s + i) 1) q (pI b) = mset (mset (mset (mset D 61 (27 * s + i) 1) 42 (30 * q + D 25 q) (pI b)) 25 q (D 25 q + 1)) 23 q (sLv (D 23 q) (pI b ≠ 0)) := if_pos h25
        rw [this, hpb]
      unfold dAns
      rw [hQ, e1]
      rcases hpi with ⟨x, y⟩ | ⟨x, y⟩
      · rw [if_pos x, x, Int.add_zero]
        exact mset_id.symm
      · rw [if_neg (by omega), x]
    have oD : OnlyF [8, 9, 23, 25, 42, 61] D (dAns D s i (pI b)) := by
      rw [eD]
      exact ((((((OnlyF.rf.st (by decide)).st (by decide)).st (by decide)).st (by decide)).st (by decide)).st (by decide))
    have eM : sAns M s i b = mset (mset (mset (mset (mset (sT M 0) 27 0 0) 15 (27 * s + i) 1) 3 q (sLv (D 23 q) b)) 25 0 (D 8 0 + 1)) 26 0 (D 9 0 + pI b) := by
      unfold sAns
      rw [t3 i hi.1 hi.2, hQ, eM3, H.g1.2.2.2.1, H.g1.2.2.2.2]
    have oM : OnlyF [3, 15, 25, 26, 27] M (sAns M s i b) := by
      rw [eM]
      exact ((((((OnlyF.rf.st (by decide)).st (by decide)).st (by decide)).st (by decide)).st (by decide)).st (by decide))
    have e90 : dAns D s i (pI b) 90 0 = D 90 0 := oD _ _ (by decide)
    have e91 : dAns D s i (pI b) 91 0 = D 91 0 := oD _ _ (by decide)
    have e92 : dAns D s i (pI b) 92 0 = D 92 0 := oD _ _ (by decide)
    have e25 : ∀ k, dAns D s i (pI b) 25 k = if k = q then D 25 q + 1 else D 25 k := fun k => by
      rw [eD, mset_n (by decide), mset_n (by decide), mset_n (by decide), mset_f, mset_n (by decide), mset_n (by decide)]
    have e23 : ∀ k, dAns D s i (pI b) 23 k = if k = q then sLv (D 23 q) b else D 23 k := fun k => by
      rw [eD, mset_n (by decide), mset_n (by decide), mset_f, mset_n (by decide), mset_n (by decide), mset_n (by decide)]
    have e42 : ∀ k, dAns D s i (pI b) 42 k = if k = 30 * q + D 25 q then pI b else D 42 k := fun k => by
      rw [eD, mset_n (by decide), mset_n (by decide), mset_n (by decide), mset_n (by decide), mset_f, mset_n (by decide)]
    have eac : ∀ q2, dAc (dAns D s i (pI b)) q2 (D 92 0).toNat = dAc (mset D 61 (27 * s + i) 1) q2 (D 92 0).toNat := fun q2 => by
      refine dAc_c (D := mset D 61 (27 * s + i) 1) (hI.s61 (Or.inr rfl)) _ (by omega) (fun k => ?_) (fun k _ _ => ?_) (fun k _ _ => ?_)
      · rw [eD, mset_n (by decide), mset_n (by decide), mset_n (by decide), mset_n (by decide), mset_n (by decide)]
      · rw [oD 70 _ (by decide)]; rfl
      · rw [oD 71 _ (by decide)]; rfl
    refine .set ⟨?_, ?_, H.1.2.2.1.f (oD.w (by decide)), ?_, fun p hp => ?_, fun p hp => ?_, fun q2 hq2 => ?_, fun s2 hs2 => ?_, fun k => ?_⟩ ?_ ?_
    · rw [eD, eM]
      exact ((((((H.1.1.th.th.s61 (s := s) (i := i) hs' (by omega)).s42).s25).s23).s8).s9)
    · rw [eD]
      have hb01 : pI b = 0 ∨ pI b = 1 := by omega
      exact ((((((hI.s61 (Or.inr rfl)).s42 hb01).s25 (by omega)).s23 hlv).s8 (by omega)).s9 (by omega))
    · rw [eM]
      exact ((((H.2.1.th.th.s15 (Or.inr rfl)).s3 hlv).s25 (by omega)).s26 (by omega))
    · unfold iP at hp
      rw [e91] at hp
      refine ⟨(H.pl hp).1.c (fun k => oD _ _ (by decide)) (fun k => oD _ _ (by decide)) (fun k => oM _ _ (by decide)) (fun k => oM _ _ (by decide)) ?_, fun _ => Or.inr fun m j x y w => ?_⟩
      · unfold sFrc
        rw [oM 14 _ (by decide), oM 24 _ (by decide), oM 8 _ (by decide)]
      · rw [oD 70 _ (by decide)] at w
        have := (H.1.2.2.2.1 p hp).2.r m j x y w
        unfold gF xD at this ⊢
        rw [oD 26 _ (by decide), oD 26 _ (by decide), oD 71 _ (by decide), oD 71 _ (by decide)]
        exact this
    · rw [e91] at hp
      rw [oM 11 _ (by decide)]
      exact H.1.2.2.2.2 p hp
    · unfold iQ at hq2
      rw [e90] at hq2
      have a25b := hI.a25 q2
      obtain ⟨v1, v2⟩ := han q2 hq2
      have e := hu q2 (D 92 0).toNat (by omega)
      rw [e23, e25, e92, eac, e]
      by_cases x : q2 = q
      · subst x
        rw [if_pos rfl, if_pos rfl, if_pos ⟨by omega, hQ.symm⟩]
        refine ⟨?_, by omega⟩
        rw [tnat a25.1]
        show _ = sLv (dLv (dAns D s i (pI b)) q2 (D 25 q2).toNat) (dAns D s i (pI b) 42 (30 * q2 + ((D 25 q2).toNat : Int)) ≠ 0)
        rw [dLv_c2 (D := D) (oD _ _ (by decide)) _ (fun k y z => by rw [e42, if_neg (by omega)]), ← v1, ntc a25.1, e42, if_pos rfl, hpb]
      · rw [if_neg x, if_neg x, if_neg (fun w => x (w.2.trans hQ)), dLv_c2 (D := D) (oD _ _ (by decide)) _ (fun k y z => by rw [e42, if_neg (by omega)])]
        exact ⟨v1, by omega⟩
    · unfold iS at hs2
      rw [e92] at hs2
      obtain ⟨w1, w2, w3⟩ := H.2.2.2.1 s2 hs2
      rw [oD 70 _ (by decide), oD 60 _ (by decide)]
      refine ⟨fun j k x y x' y' e => ?_, w2, fun k x y => ?_⟩
      · rw [oD 71 _ (by decide), oD 71 _ (by decide)] at e
        exact w1 j k x y x' y' e
      · unfold iQ
        rw [oD 71 _ (by decide), e90]
        exact w3 k x y
    · rw [oD 29 _ (by decide)]
      exact H.2.2.2.2 k
    · rw [e23, if_pos rfl, eM3]
    · rw [eM]; rfl)

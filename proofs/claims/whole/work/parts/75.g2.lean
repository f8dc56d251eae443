theorem RX.s6 {D M : MS} (H : RX D M) {z : Int} : RX (mset D 6 0 z) (mset M 24 0 z) := by
  obtain ⟨⟨a, ⟨b1, b2, b3, b4, b5⟩, cs⟩, d, e⟩ := H
  exact ⟨⟨a, ⟨b1, rfl, b3, b4, b5⟩, cs⟩, d, e⟩
theorem RX.s14 {D M : MS} (H : RX D M) {p z : Int} (hp : p < D 91 0) : RX (mset D 54 p z) (mset M 14 p z) := by
  obtain ⟨⟨a, b, c1, c2, c3, c4, c5, c6, c7⟩, d, e⟩ := H
  refine ⟨⟨a, b, c1, c2, c3, fun j hj => ?_, c5, fun j hj => ?_, c7⟩, d, e⟩
  · obtain ⟨x1, x2, x3, x4⟩ := c4 j hj
    refine ⟨x1, x2, x3, ?_⟩
    rw [mset_f, mset_f, x4]
  · have hj : D 91 0 ≤ j := hj
    rw [mset_k (by omega)]
    exact c6 j hj
theorem RX.s60 {D M : MS} (H : RX D M) {s z : Int} : RX (mset D 60 s z) (mset M 13 s z) := by
  obtain ⟨⟨a, b, c1, c2, c3, c4, c5, c6, c7⟩, d, e⟩ := H
  refine ⟨⟨a, b, c1, c2, c3, c4, fun j hj => ?_, c6, c7⟩, d, e⟩
  obtain ⟨x1, x2⟩ := c5 j hj
  refine ⟨?_, x2⟩
  rw [mset_f, mset_f, x1]
theorem RX.s30 {D M : MS} (H : RX D M) {q z : Int} (hz : 0 ≤ z) : RX (mset D 30 q z) (mset M 5 q z) := by
  obtain ⟨⟨a, b, c1, c2, c3, c4, c5, c6, c7⟩, d, e⟩ := H
  refine ⟨⟨a, b, c1, fun j hj => ?_, c3, c4, c5, c6, c7⟩, d, e⟩
  obtain ⟨x1, x2, x3, x4⟩ := c2 j hj
  refine ⟨x1, x2, x3, ?_⟩
  rw [mset_f, mset_f]
  by_cases e : j = q
  · rw [if_pos e, if_pos e]; exact Or.inr ⟨hz, rfl⟩
  · rw [if_neg e, if_neg e]; exact x4
theorem RX.s26 {D M : MS} (H : RX D M) {q z : Int} : RX (mset D 26 q z) (mset M 4 q z) := by
  obtain ⟨⟨a, b, c1, c2, c3, c4, c5, c6, c7⟩, d, e⟩ := H
  refine ⟨⟨a, b, c1, fun j hj => ?_, c3, c4, c5, c6, c7⟩, d, e⟩
  obtain ⟨x1, x2, x3, x4⟩ := c2 j hj
  refine ⟨x1, x2, ?_, x4⟩
  rw [mset_f, mset_f, x3]
theorem RX.th {D M : MS} (H : RX D M) {z : Int} : RX D (mset M 27 0 z) := H
theorem RX.h28 {D D' M : MS} (H : RX D M) (hI : ID D) (o : OnlyF [28] D D') : RX D' M := H.w hI (fun f k x _ _ => o f k (by simp; exact x.1)) (fun _ _ _ _ => rfl)
/-- what a call that settles needs -/
def PS (D M : MS) : Prop := RX D M ∧ ID D ∧ HD D ∧ IM M ∧ (∀ p, iP D p → PLp D M p ∧ (dOpen D p → PKp D p)) ∧ (∀ p, D 91 0 ≤ p → M 11 p = 0) ∧ AN D ∧ SHD D ∧ H9 D
theorem PS.set {D M : MS} (H : PS D M) : DM (dSet D) (sSettle M) := by
  obtain ⟨a, b, c, d, e, f, g, h, i⟩ := H
  exact DM.set a b c d e f g h i
theorem AG.set {es : List String} {D M : MS} {v v' : Int} (H : PS D M) (e : v = v') (t : M 27 0 = 0) : AG es (rI v, dSet D) (v', sSettle M) := .ok H.set e (by rw [(sSettle_o H.2.2.2.1).1 27 0 (by decide)]; exact t)
theorem DM.pl {D M : MS} (H : DM D M) {p : Int} (hp : iP D p) : PLp D M p ∧ PKp D p := ⟨(H.1.2.2.2.1 p hp).1.pl, (H.1.2.2.2.1 p hp).2.pk⟩
/-- next week -/
theorem PS.nw {D M : MS} (H : DM D M) {z : Int} (hz : D 6 0 ≤ z ∧ z ≤ 999) : PS (mset D 6 0 z) (mset M 24 0 z) := by
  have a6 := H.1.2.1.a6
  have g := H.g1.2.1
  refine ⟨H.1.1.s6, H.1.2.1.s6 (by omega), H.1.2.2.1, H.2.1.s24 (by omega), fun p hp => ?_, H.1.2.2.2.2, H.2.2.1.c H.1.2.1 (OnlyF.aA (OnlyF.rf.st (by decide))), H.2.2.2.1.c H.1.2.1 (OnlyF.aA (OnlyF.rf.st (by decide))) (fun _ => rfl), H.2.2.2.2⟩
  obtain ⟨x1, x2⟩ := H.pl hp
  refine ⟨?_, fun _ => x2⟩
  rcases x1 with x1 | ⟨x1, x3⟩
  · exact Or.inl x1
  · refine Or.inr ⟨x1, fun w => x3 ?_⟩
    have w1 : M 14 p = 0 := w.1
    have w2 : z ≤ M 8 p := w.2
    exact ⟨w1, by omega⟩
theorem g_nextWeek {D M : MS} (H : DM D M) : AG [eIS] (d_nextWeek D) (s_nextWeek M) := by
  have a6 := H.1.2.1.a6
  have g := H.g1.2.1
  refine AG.ite (by omega) (fun _ => .no 0 H.th rfl mset_s) (fun h => ?_)
  rw [g]
  exact .set (PS.nw H.th (by omega)) rfl rfl
/-- a plan's list emptied -/
theorem PLp.la {D M : MS} (H : DM D M) {p j : Int} (hp : iP D p) (hj : iP D j) (ne : j ≠ p) : PLp (dLa D p) M j ∧ PKp (dLa D p) j := by
  have hI := H.1.2.1
  have b5 : ∀ f k, f ≠ 28 → ¬ (f = 70 ∧ k = 3 + p) → ¬ (f = 71 ∧ 40 * (3 + p) ≤ k ∧ k < 40 * (3 + p) + 40) → dLa D p f k = D f k := fun f k a b _ => (if_neg b).trans ((dHoN_o hI (l := 3 + p) (v := 0) (Or.inl rfl) _).1 f k (by simp; exact a))
  have := oth (M := M) (M' := M) hI hj ne b5 (fun _ _ _ _ => rfl) (fun _ _ => rfl) Iff.rfl
  obtain ⟨x1, x2⟩ := H.pl hj
  exact ⟨this.2.2.2.2.1 x1, this.2.2.2.2.2.2 x2⟩
theorem PS.dr {D M : MS} (H : DM D M) {p : Int} (hp : iP D p) : PS (dCls D p) (mset M 14 p 1) := by
  have hI := H.1.2.1
  have c := hI.c
  have hp' : 0 ≤ p ∧ p < D 91 0 := hp
  obtain ⟨o1, o2⟩ := dCls_o p hI hp'
  obtain ⟨o3, o4⟩ := dLa_o p hI hp'
  have oS1 := dLa_S (D := D) (p := p) (by omega)
  have e91 : dLa D p 91 0 = D 91 0 := o3 _ _ (by decide)
  have hrx : RX (dLa D p) M := H.1.1.st hI oS1 OnlyF.rf
  have oa : oA (dLa D p) (dCls D p) := ⟨⟨rfl, rfl⟩, fun _ => ⟨rfl, rfl, rfl, rfl, rfl⟩, fun _ _ _ => rfl, fun _ _ _ => rfl⟩
  refine ⟨hrx.s14 (by omega), o2, H.1.2.2.1.la hI hp', H.2.1.s14 (Or.inr rfl), fun j hj => ?_, fun j hj => ?_, (H.2.2.1.c hI oS1.A).c o4 oa, (H.2.2.2.1.c hI oS1.A (fun _ => o3 _ _ (by decide))).c o4 oa (fun _ => rfl), fun k => ?_⟩
  · have hj : 0 ≤ j ∧ j < dLa D p 91 0 := hj
    rw [e91] at hj
    by_cases e : j = p
    · subst e
      refine ⟨Or.inr ⟨?_, fun w => ?_⟩, fun w => ?_⟩
      · exact (mset_n (by decide)).trans mset_s
      · have := w.1
        rw [mset_s] at this
        omega
      · have : mset (dLa D j) 54 j 1 54 j = 0 := w.1
        rw [mset_s] at this
        omega
    · obtain ⟨x1, x2⟩ := PLp.la H hp hj e
      refine ⟨?_, fun _ => x2⟩
      rcases x1 with x1 | ⟨x1, x3⟩
      · exact Or.inl x1
      · refine Or.inr ⟨x1, fun w => x3 ⟨?_, w.2⟩⟩
        have := w.1
        rw [mset_k e] at this
        exact this
  · have hj : dLa D p 91 0 ≤ j := hj
    rw [e91] at hj
    exact H.1.2.2.2.2 j hj
  · have : dCls D p 29 k = D 29 k := o1 _ _ (by decide)
    rw [this]
    exact H.2.2.2.2 k
theorem g_drop {D M : MS} (H : DM D M) (p : Int) : AG [eIO, eUO] (d_drop D p) (s_drop M p) :=
  AG.ite (not_c (H.ip p)) (fun _ => .no 0 H.th rfl mset_s) (fun h => by
    have h := Classical.not_not.mp h
    refine AG.ite (by rw [(H.pp p h).2.2.2]) (fun _ => .no 1 H.th rfl mset_s) (fun _ => ?_)
    exact .set (PS.dr H.th h) (H.hb h).1 rfl)
/-- a sheet that is no longer spooled -/
theorem HD.un {D D' : MS} (H : HD D) (hI : ID D) {s : Int} (hs : iS D s) (h5 : D 60 s = 115) (o : ∀ f k, f ≠ 28 → f ≠ 30 → ¬ (f = 60 ∧ k = s) → D' f k = D f k) (h60 : D' 60 s ≠ 115) (h28 : ∀ q, (D' 28 q = 0 ∧ ∃ k, 0 ≤ k ∧ k < D 70 (15 + s) ∧ D 71 (40 * (15 + s) + k) = q) ∨ (D' 28 q = D 28 q ∧ ∀ k, 0 ≤ k → k < D 70 (15 + s) → D 71 (40 * (15 + s) + k) ≠ q)) : HD D' := by
  obtain ⟨H1, H2, H3⟩ := H
  have c := hI.c
  have hs' : 0 ≤ s ∧ s < D 92 0 := hs
  have e91 : D' 91 0 = D 91 0 := o _ _ (by decide) (by decide) (by omega)
  have e92 : D' 92 0 = D 92 0 := o _ _ (by decide) (by decide) (by omega)
  have e90 : D' 90 0 = D 90 0 := o _ _ (by decide) (by decide) (by omega)
  have e70 : ∀ k, D' 70 k = D 70 k := fun k => o _ _ (by decide) (by decide) (by omega)
  have e71 : ∀ k, D' 71 k = D 71 k := fun k => o _ _ (by decide) (by decide) (by omega)
  have ps : pl D (15 + s) := Or.inr ⟨by omega, by omega, by rw [show 15 + s - 15 = s by omega]; exact h5⟩
  have hpl : ∀ l, pl D' l ↔ pl D l ∧ l ≠ 15 + s := fun l => by
    unfold pl
    rw [e91, e92]
    refine ⟨fun h => ?_, fun ⟨h, ne⟩ => ?_⟩
    · rcases h with h | ⟨h, h', h9⟩
      · exact ⟨Or.inl h, by omega⟩
      · have ne : l ≠ 15 + s := fun e => by
          rw [show l - 15 = s by omega] at h9
          exact h60 h9
        rw [o 60 (l - 15) (by decide) (by decide) (by omega)] at h9
        exact ⟨Or.inr ⟨h, h', h9⟩, ne⟩
    · rcases h with h | ⟨h, h', h9⟩
      · exact Or.inl h
      · exact Or.inr ⟨h, h', by rw [o 60 (l - 15) (by decide) (by decide) (by omega)]; exact h9⟩
  refine ⟨fun l k l' k' h h' a b a' b' e => ?_, fun q hq => ?_, fun l k h a b => ?_⟩
  · rw [hpl] at h h'
    rw [e70] at b b'
    rw [e71, e71] at e
    exact H1 l k l' k' h.1 h'.1 a b a' b' e
  · unfold iQ at hq
    rw [e90] at hq
    rcases h28 q with ⟨a, k, b, b', d⟩ | ⟨a, b⟩
    · rw [a]
      refine ⟨fun w => by omega, fun ⟨l, j, h, x, y, w⟩ => ?_⟩
      rw [hpl] at h
      rw [e70] at y
      rw [e71] at w
      have := H1 l j (15 + s) k h.1 ps x y b b' (by rw [w, d])
      exact absurd this.1 h.2
    · rw [a, H2 q hq]
      refine ⟨fun ⟨l, j, h, x, y, w⟩ => ?_, fun ⟨l, j, h, x, y, w⟩ => ?_⟩
      · have ne : l ≠ 15 + s := fun e => by
          subst e
          exact b j x y w
        exact ⟨l, j, (hpl _).mpr ⟨h, ne⟩, x, by rw [e70]; exact y, by rw [e71]; exact w⟩
      · rw [hpl] at h
        rw [e70] at y
        rw [e71] at w
        exact ⟨l, j, h.1, x, y, w⟩
  · rw [hpl] at h
    rw [e70] at b
    unfold iQ
    rw [e71, e90]
    exact H3 l k h.1 a b
theorem PLp.c {D D' M M' : MS} {p : Int} (h : PLp D M p) (h70 : ∀ k, D' 70 k = D 70 k) (h71 : ∀ k, D' 71 k = D 71 k) (h10 : ∀ k, M' 10 k = M 10 k) (h11 : ∀ k, M' 11 k = M 11 k) (hf : sFrc M' p ↔ sFrc M p) : PLp D' M' p := by
  unfold PLp Rw at h ⊢
  rw [h70, h11, hf]
  refine h.imp (fun ⟨a, b⟩ => ⟨a, fun k x y => ?_⟩) id
  rw [h10]
  show _ = D' 71 _
  rw [h71]
  exact b k x y
theorem PKp.c {D D' : MS} {p : Int} (h : PKp D p) (h70 : ∀ k, D' 70 k = D 70 k) (h71 : ∀ k, D' 71 k = D 71 k) (h23 : ∀ k, D' 23 k = D 23 k) (h26 : ∀ k, D' 26 k = D 26 k) (h51 : D' 51 p = D 51 p) : PKp D' p := by
  unfold PKp gK gF xD at h ⊢
  simp only [h70, h71, h23, h26, h51]
  exact h
/-- sheets' marks -/
theorem PS.sh {D M D' M' : MS} (H : DM D M) (hR : RX D' M') (hI' : ID D') (hIM' : IM M') (hH : HD D') (oD : OnlyF [28, 30, 60] D D') (oM : OnlyF [5, 13, 27] M M') (h60 : ∀ s, iS D s → D' 60 s = 115 ∨ D' 60 s = 112 ∨ D' 60 s = 99) : PS D' M' := by
  have hI := H.1.2.1
  have e91 : D' 91 0 = D 91 0 := oD _ _ (by decide)
  have e92 : D' 92 0 = D 92 0 := oD _ _ (by decide)
  have oa : oA D D' := ⟨⟨oD _ _ (by decide), oD _ _ (by decide)⟩, fun k => ⟨oD _ _ (by decide), oD _ _ (by decide), oD _ _ (by decide), oD _ _ (by decide), oD _ _ (by decide)⟩, fun k _ _ => oD _ _ (by decide), fun k _ _ => oD _ _ (by decide)⟩
  refine ⟨hR, hI', hH, hIM', fun p hp => ?_, fun p hp => ?_, H.2.2.1.c hI oa, fun s hs => ?_, fun k => ?_⟩
  · unfold iP at hp
    rw [e91] at hp
    obtain ⟨x1, x2⟩ := H.pl hp
    refine ⟨x1.c (fun _ => oD _ _ (by decide)) (fun _ => oD _ _ (by decide)) (fun _ => oM _ _ (by decide)) (fun _ => oM _ _ (by decide)) ?_, fun _ => x2.c (fun _ => oD _ _ (by decide)) (fun _ => oD _ _ (by decide)) (fun _ => oD _ _ (by decide)) (fun _ => oD _ _ (by decide)) (oD _ _ (by decide))⟩
    unfold sFrc
    rw [oM 14 _ (by decide), oM 24 _ (by decide), oM 8 _ (by decide)]
  · rw [e91] at hp
    rw [oM 11 _ (by decide)]
    exact H.1.2.2.2.2 p hp
  · unfold iS at hs
    rw [e92] at hs
    obtain ⟨y1, y2, y3⟩ := H.2.2.2.1 s hs
    rw [oD 70 _ (by decide)]
    refine ⟨fun j k a b x y e => ?_, h60 s hs, fun k a b => ?_⟩
    · rw [oD 71 _ (by decide), oD 71 _ (by decide)] at e
      exact y1 j k a b x y e
    · unfold iQ
      rw [oD 71 _ (by decide), oD 90 _ (by decide)]
      exact y3 k a b
  · rw [oD 29 _ (by decide)]
    exact H.2.2.2.2 k
theorem g_cancel {D M : MS} (H : DM D M) (s : Int) : AG [eIO, eUO] (d_cancel D s) (s_cancel M s) :=
  AG.ite (not_c (H.is s)) (fun _ => .no 0 H.th rfl mset_s) (fun h => by
    have h := Classical.not_not.mp h
    have hs : 0 ≤ s ∧ s < D 92 0 := h
    have hI := H.1.2.1
    have c := hI.c
    have h27 := hI.l27 (p := s) (by omega)
    have hz := hI.a70 (15 + s)
    refine AG.ite (by rw [(H.ss s h).1]) (fun _ => .no 1 H.th.th rfl mset_s) (fun h5 => ?_)
    have h5 := Classical.not_not.mp h5
    have i2 : ID (mset D 60 s 99) := hI.s60 (by decide)
    obtain ⟨o1, o2⟩ := dHoN_o i2 (l := 15 + s) (v := 0) (Or.inl rfl) (D 70 (15 + s)).toNat
    refine .set (PS.sh H.th ?_ o2 (H.2.1.th.s13 (by decide)) ?_ ((OnlyF.rf.st (by decide)).tr (o1.w (by decide))) (OnlyF.rf.st (by decide)) (fun j hj => ?_)) (H.sh s h).1.symm rfl
    · exact (H.1.1.th.s60).h28 i2 o1
    · refine H.1.2.2.1.un hI h h5 (fun f k a b d => (o1 f k (by simp; exact a)).trans (if_neg d)) ?_ (fun q => ?_)
      · rw [o1 60 s (by decide), mset_s]; decide
      · rcases dHoN_v (D := mset D 60 s 99) (l := 15 + s) (v := 0) (q := q) (D 70 (15 + s)).toNat with ⟨a, k, x, y, w⟩ | ⟨a, b⟩
        · exact Or.inl ⟨a, k, x, by omega, w⟩
        · exact Or.inr ⟨a, fun k x y => b k x (by omega)⟩
    · rw [o1 60 j (by decide), mset_f]
      split
      · exact Or.inr (Or.inr rfl)
      · exact (H.2.2.2.1 j hj).2.1)
theorem dPrN_v {D : MS} {s q : Int} : ∀ n : Nat, dPrN D s n 28 q = dHoN D (15 + s) 0 n 28 q := by
  intro n
  induction n with
  | zero => rfl
  | succ n ih =>
    show mset (mset (dPrN D s n) 28 (D 71 (40 * (15 + s) + n)) 0) 30 (D 71 (40 * (15 + s) + n)) (D 6 0) 28 q = mset (dHoN D (15 + s) 0 n) 28 (D 71 (40 * (15 + s) + n)) 0 28 q
    rw [mset_n (by decide), mset_f, mset_f, ih]
theorem dFst_f {P : Int → Prop} : ∀ n : Nat, dFst P n < n → ¬ P (dFst P n) := by
  intro n
  induction n with
  | zero => intro h; exact absurd h (by show ¬ (0 : Int) < 0; omega)
  | succ n ih =>
    unfold dFst
    by_cases e : dFst P n < n
    · rw [if_pos e]; exact fun _ => ih e
    · rw [if_neg e]
      by_cases e2 : P n
      · rw [if_pos e2]; intro h; omega
      · rw [if_neg e2]; exact fun _ => e2
theorem fw_both {D M : MS} (H : DM D M) : ∀ n : Nat, (n : Int) ≤ D 92 0 → dFst (fun j => D 60 j ≠ 115) n = sFst M n := by
  intro n
  induction n with
  | zero => intro _; rfl
  | succ n ih =>
    intro hn
    unfold dFst sFst
    rw [ih (by omega), (H.ss n ⟨by omega, by omega⟩).1]
    by_cases e : sFst M n < n
    · rw [if_pos e, if_pos e]
    · rw [if_neg e, if_neg e]
      by_cases e2 : D 60 n = 115
      · rw [if_pos e2, if_neg (fun w => w e2)]
      · rw [if_neg e2, if_pos e2]
theorem g_print {D M : MS} (H : DM D M) : AG [eIS, eNS] (d_print D) (s_print M) := by
  have hI := H.1.2.1
  have c := hI.c
  have i92 := hI.n.2.2
  have z47 := hI.a70 47
  have hfw := fw_both H (D 92 0).toNat (by omega)
  have hr := sFst_r (M := M) (D 92 0).toNat
  have hf := dFst_f (P := fun j => D 60 j ≠ 115) (D 92 0).toNat
  have e23 := H.nn.2.2
  unfold d_print s_print
  rw [e23]
  rw [hfw] at hf
  unfold dFw
  rw [hfw]
  generalize sFst M (D 92 0).toNat = f at hr hf
  refine AG.ite (by rw [H.g1.2.2.1]) (fun _ => .no 0 H.th rfl mset_s) (fun _ => ?_)
  refine AG.ite (by split <;> omega) (fun _ => .no 1 H.th rfl mset_s) (fun h2 => ?_)
  have hlt : f < D 92 0 := by
    apply Classical.byContradiction
    intro w
    rw [if_neg w] at h2
    omega
  rw [if_pos hlt]
  have hs : iS D f := ⟨by omega, hlt⟩
  have h5 : D 60 f = 115 := Classical.not_not.mp (hf (by omega))
  have h27 := hI.l27 (p := f) (by omega)
  have hz := hI.a70 (15 + f)
  obtain ⟨t1, t2, t3⟩ := H.sh f hs
  rw [t1]
  have i2 : ID (mset D 60 f 112) := hI.s60 (by decide)
  have m2 : IM (mset (sT M 0) 13 f 112) := H.2.1.th.s13 (by decide)
  obtain ⟨o1, o2⟩ := dPrN_o i2 (s := f) (D 70 (15 + f)).toNat
  obtain ⟨o3, o4⟩ := sPrN_o m2 (s := f) (D 70 (15 + f)).toNat
  have h6 := hI.a6
  have hrx : ∀ n : Nat, (n : Int) ≤ D 70 (15 + f) → RX (dPrN (mset D 60 f 112) f n) (sPrN (mset (sT M 0) 13 f 112) f n) := by
    intro n
    induction n with
    | zero => intro _; exact H.1.1.th.s60
    | succ n ih =>
      intro hn
      have e1 : mset (sT M 0) 13 f 112 16 (27 * f + n) = mset D 60 f 112 71 (40 * (15 + f) + n) := t3 n (by omega) (by omega)
      have e2 : mset (sT M 0) 13 f 112 24 0 = mset D 60 f 112 6 0 := H.g1.2.1
      show RX (mset (mset (dPrN (mset D 60 f 112) f n) 28 (mset D 60 f 112 71 (40 * (15 + f) + n)) 0) 30 (mset D 60 f 112 71 (40 * (15 + f) + n)) (mset D 60 f 112 6 0)) (mset (sPrN (mset (sT M 0) 13 f 112) f n) 5 (mset (sT M 0) 13 f 112 16 (27 * f + n)) (mset (sT M 0) 13 f 112 24 0))
      rw [e1, e2]
      exact ((ih (by omega)).h28 (dPrN_o i2 n).2 (OnlyF.rf.st (by decide))).s30 h6.1
  refine .set (PS.sh H.th (hrx _ (by omega)) o2 o4 ?_ ((OnlyF.rf.st (by decide)).tr (o1.w (by decide))) ((OnlyF.rf.st (f := 13) (by decide)).tr (o3.w (by decide))) (fun j hj => ?_)) rfl ?_
  · refine H.1.2.2.1.un hI hs h5 (fun F k a b d => (o1 F k (by simp; exact ⟨a, b⟩)).trans (if_neg d)) ?_ (fun q => ?_)
    · rw [o1 60 f (by decide), mset_s]; decide
    · rw [dPrN_v]
      rcases dHoN_v (D := mset D 60 f 112) (l := 15 + f) (v := 0) (q := q) (D 70 (15 + f)).toNat with ⟨a, k, x, y, w⟩ | ⟨a, b⟩
      · exact Or.inl ⟨a, k, x, by omega, w⟩
      · exact Or.inr ⟨a, fun k x y => b k x (by omega)⟩
  · rw [o1 60 j (by decide), mset_f]
    split
    · exact Or.inr (Or.inl rfl)
    · exact (H.2.2.2.1 j hj).2.1
  · rw [o3 27 0 (by decide)]
    rfl

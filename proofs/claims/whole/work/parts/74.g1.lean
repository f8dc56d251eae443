/-- the developers' answer and the model's agree; es are the exceptions by their codes -/
def AG (es : List String) (x : Res × MS) (y : Int × MS) : Prop := DM x.2 y.2 ∧ ((x.1 = rI y.1 ∧ y.2 27 0 = 0) ∨ ∃ (n : Nat) (e : String), es[n]? = some e ∧ x.1 = .inr e ∧ y.2 27 0 = n + 1)
theorem AG.ite {es : List String} {P P' : Prop} [Decidable P] [Decidable P'] {x x' : Res × MS} {y y' : Int × MS} (e : P ↔ P') (h : P → AG es x y) (h' : ¬ P → AG es x' y') : AG es (if P then x else x') (if P' then y else y') := by
  by_cases p : P
  · rw [if_pos p, if_pos (e.mp p)]; exact h p
  · rw [if_neg p, if_neg (fun q => p (e.mpr q))]; exact h' p
theorem AG.ok {es : List String} {D M : MS} {v v' : Int} (H : DM D M) (e : v = v') (t : M 27 0 = 0) : AG es (rI v, D) (v', M) := ⟨H, Or.inl ⟨by rw [e], t⟩⟩
theorem AG.no {es : List String} {D M : MS} {v' : Int} (n : Nat) {e : String} (H : DM D M) (he : es[n]? = some e) (t : M 27 0 = n + 1) : AG es (.inr e, D) (v', M) := ⟨H, Or.inr ⟨n, e, he, rfl, t⟩⟩
theorem DM.nn {D M : MS} (H : DM D M) : M 20 0 = D 90 0 ∧ M 22 0 = D 91 0 ∧ M 23 0 = D 92 0 := H.1.1.1.1
theorem DM.iq {D M : MS} (H : DM D M) (q : Int) : iQ D q ↔ isQ M q := by
  unfold iQ isQ; rw [H.nn.1]
theorem DM.ip {D M : MS} (H : DM D M) (q : Int) : iP D q ↔ isP M q := by
  unfold iP isP; rw [H.nn.2.1]
theorem DM.is {D M : MS} (H : DM D M) (q : Int) : iS D q ↔ isS M q := by
  unfold iS isS; rw [H.nn.2.2]
theorem DM.g1 {D M : MS} (H : DM D M) : M 19 0 = D 1 0 ∧ M 24 0 = D 6 0 ∧ M 29 0 = D 7 0 ∧ M 25 0 = D 8 0 ∧ M 26 0 = D 9 0 := H.1.1.1.2.1
theorem DM.row {D M : MS} (H : DM D M) : ∀ k, 0 ≤ k → k < D 1 0 → M 0 k = D 0 k := H.1.1.1.2.2.1
theorem DM.qq {D M : MS} (H : DM D M) : ∀ q, iQ D q → M 2 q = D 41 q ∧ M 3 q = D 23 q ∧ M 4 q = D 26 q ∧ ((D 30 q = -1 ∧ M 5 q = -100) ∨ (0 ≤ D 30 q ∧ M 5 q = D 30 q)) := H.1.1.1.2.2.2.1
theorem DM.wd {D M : MS} (H : DM D M) : ∀ q k, iQ D q → 0 ≤ k → k < D 41 q → M 1 (6 * q + k) = D 40 (6 * q + k) := H.1.1.1.2.2.2.2.1
theorem DM.pp {D M : MS} (H : DM D M) : ∀ p, iP D p → M 8 p = D 50 p ∧ M 12 p = D 51 p ∧ M 9 p = D 52 p ∧ M 14 p = D 54 p := H.1.1.1.2.2.2.2.2.1
theorem DM.ss {D M : MS} (H : DM D M) : ∀ s, iS D s → M 13 s = D 60 s ∧ ∀ k, 0 ≤ k → k < 27 → M 15 (27 * s + k) = D 61 (27 * s + k) := H.1.1.1.2.2.2.2.2.2.1
theorem DM.hit {D M : MS} (H : DM D M) : M 21 0 = D 70 0 ∧ ∀ k, 0 ≤ k → k < D 70 0 → M 6 k = D 71 (40 * 0 + k) ∧ M 7 k = D 27 (D 71 (40 * 0 + k)) := H.1.1.2.1
theorem DM.sh {D M : MS} (H : DM D M) : ∀ s, iS D s → M 17 s = D 70 (15 + s) ∧ D 62 s = D 70 (15 + s) ∧ ∀ k, 0 ≤ k → k < D 70 (15 + s) → M 16 (27 * s + k) = D 71 (40 * (15 + s) + k) := H.1.1.2.2
theorem DM.hb {D M : MS} (H : DM D M) {p : Int} (hp : iP D p) : D 70 (3 + p) = sHb M p ∧ (sFrc M p ↔ dOpen D p) ∧ (sFrc M p → Rw D M p) := by
  obtain ⟨h1, h2⟩ := (H.1.2.2.2.1 p hp).1
  refine ⟨?_, H.1.1.frc hp, h1⟩
  unfold sHb
  by_cases f : sFrc M p
  · rw [if_pos f]; exact (h1 f).1.symm
  · rw [if_neg f]; exact h2 f
theorem not_c {P Q : Prop} (h : P ↔ Q) : ¬ P ↔ ¬ Q := ⟨fun a b => a (h.mpr b), fun a b => a (h.mp b)⟩
theorem pI_c {P Q : Prop} (h : P ↔ Q) : pI P = pI Q := by rw [propext h]
section G1
variable {D M : MS}
theorem g_level (H : DM D M) (q : Int) : AG [eIO] (d_level D q) (s_level M q) :=
  AG.ite (not_c (H.iq q)) (fun _ => .no 0 H.th rfl mset_s) (fun h => .ok H.th (H.qq q (Classical.not_not.mp h)).2.1.symm mset_s)
theorem g_levelAnew (H : DM D M) (q : Int) : AG [eIO] (d_levelAnew D q) (s_level M q) :=
  AG.ite (not_c (H.iq q)) (fun _ => .no 0 H.th rfl mset_s) (fun h => .ok H.th (by
    have h := Classical.not_not.mp h
    rw [(H.qq q h).2.1, (H.2.2.1 q h).1]) mset_s)
theorem g_kind (H : DM D M) (q : Int) : AG [eIO] (d_kind D q) (s_kind M q) :=
  AG.ite (not_c (H.iq q)) (fun _ => .no 0 H.th rfl mset_s) (fun h => .ok H.th (by rw [(H.qq q (Classical.not_not.mp h)).2.1]) mset_s)
theorem g_wordAt (H : DM D M) (q i : Int) : AG [eIO, eNS] (d_wordAt D q i) (s_wordAt M q i) :=
  AG.ite (not_c (H.iq q)) (fun _ => .no 0 H.th rfl mset_s) (fun h => by
    have h := Classical.not_not.mp h
    refine AG.ite (not_c (by rw [(H.qq q h).1])) (fun _ => .no 1 H.th.th rfl mset_s) (fun h2 => ?_)
    have h2 := Classical.not_not.mp h2
    exact .ok H.th (H.wd q i h h2.1 h2.2).symm mset_s)
theorem g_hitAt (H : DM D M) (i : Int) (hE : ∀ k, 0 ≤ k → k < D 70 0 → iQ D (D 71 (40 * 0 + k))) : AG [eNS] (d_hitAt D i) (s_hitAt M 6 i) :=
  AG.ite (not_c (by rw [H.hit.1])) (fun _ => .no 0 H.th rfl mset_s) (fun h => by
    have h := Classical.not_not.mp h
    exact .ok H.th (by rw [(H.hit.2 i h.1 h.2).1]; exact H.1.2.1.a20 (hE i h.1 h.2)) mset_s)
theorem g_rankAt (H : DM D M) (i : Int) : AG [eNS] (d_rankAt D i) (s_hitAt M 7 i) :=
  AG.ite (not_c (by rw [H.hit.1])) (fun _ => .no 0 H.th rfl mset_s) (fun h => by
    have h := Classical.not_not.mp h
    exact .ok H.th (H.hit.2 i h.1 h.2).2.symm mset_s)
theorem g_held (H : DM D M) (p : Int) : AG [eIO] (d_held D p) (s_held M p) :=
  AG.ite (not_c (H.ip p)) (fun _ => .no 0 H.th rfl mset_s) (fun h => .ok H.th (H.hb (Classical.not_not.mp h)).1 mset_s)
theorem g_heldAt (H : DM D M) (p i : Int) : AG [eIO, eNS] (d_heldAt D p i) (s_heldAt M p i) :=
  AG.ite (not_c (H.ip p)) (fun _ => .no 0 H.th rfl mset_s) (fun h => by
    have h := Classical.not_not.mp h
    obtain ⟨e1, e2, e3⟩ := H.hb h
    refine AG.ite (not_c (by rw [e1])) (fun _ => .no 1 H.th.th rfl mset_s) (fun h2 => ?_)
    have h2 := Classical.not_not.mp h2
    have f : sFrc M p := by
      by_cases f : sFrc M p
      · exact f
      · unfold sHb at e1
        rw [if_neg f] at e1
        omega
    have h9 : 0 ≤ p ∧ p < D 91 0 := h
    exact .ok H.th (by rw [(e3 f).2 i h2.1 h2.2]; exact H.1.2.1.a20 (H.1.2.2.1.2.2 _ _ (Or.inl (by omega)) h2.1 h2.2)) mset_s)
theorem g_lacks (H : DM D M) (p : Int) : AG [eIO] (d_lacks D p) (s_lacks M p) :=
  AG.ite (not_c (H.ip p)) (fun _ => .no 0 H.th rfl mset_s) (fun h => by
    have h := Classical.not_not.mp h
    obtain ⟨e1, e2, e3⟩ := H.hb h
    by_cases f : sFrc M p
    · rw [if_pos (e2.mp f), if_neg (fun w => w f)]
      exact .ok H.th (by rw [(e3 f).1, (H.pp p h).2.2.1]) mset_s
    · rw [if_neg (fun w => f (e2.mpr w)), if_pos f]
      exact .ok H.th rfl mset_s)
theorem g_isFree (H : DM D M) (q : Int) : AG [eIO] (d_isFree D q) (pI (isQ M q ∧ sFree M q), mset M 27 0 (tQ M q)) := by
  unfold d_isFree tQ
  by_cases h : iQ D q
  · rw [if_neg (fun w => w h), if_pos ((H.iq q).mp h)]
    exact .ok H.th (pI_c ((H.1.fr h).trans ⟨fun w => ⟨(H.iq q).mp h, w⟩, fun w => w.2⟩)) mset_s
  · rw [if_pos h, if_neg (fun w => h ((H.iq q).mpr w))]
    exact .no 0 H.th rfl mset_s
theorem g_areTwins (H : DM D M) (a b : Int) : AG [eIO] (d_areTwins D a b) (pI (isQ M a ∧ isQ M b ∧ sTw M a b), mset M 27 0 (tQQ M a b)) := by
  unfold d_areTwins tQQ
  by_cases ha : iQ D a
  · have ha' := (H.iq a).mp ha
    rw [if_neg (fun w => w ha)]
    by_cases hb : iQ D b
    · have hb' := (H.iq b).mp hb
      rw [if_neg (fun w => w hb), if_pos ⟨ha', hb'⟩]
      refine .ok H.th (pI_c ?_) mset_s
      rw [← (H.qq a ha).2.2.1, ← (H.qq b hb).2.2.1]
      exact ⟨fun w => ⟨ha', hb', w⟩, fun w => w.2.2⟩
    · rw [if_pos hb, if_neg (fun w => hb ((H.iq b).mpr w.2))]
      exact .no 0 H.th rfl mset_s
  · rw [if_pos ha, if_neg (fun w => ha ((H.iq a).mpr w.1))]
    exact .no 0 H.th rfl mset_s
theorem g_size (H : DM D M) (s : Int) : AG [eIO] (d_size D s) (s_size M s) :=
  AG.ite (not_c (H.is s)) (fun _ => .no 0 H.th rfl mset_s) (fun h => .ok H.th (H.sh s (Classical.not_not.mp h)).1.symm mset_s)
theorem g_stateOf (H : DM D M) (s : Int) : AG [eIO] (d_stateOf D s) (s_stateOf M s) :=
  AG.ite (not_c (H.is s)) (fun _ => .no 0 H.th rfl mset_s) (fun h => .ok H.th (H.ss s (Classical.not_not.mp h)).1.symm mset_s)
theorem g_questionAt (H : DM D M) (s i : Int) : AG [eIO, eNS] (d_questionAt D s i) (s_questionAt M s i) :=
  AG.ite (not_c (H.is s)) (fun _ => .no 0 H.th rfl mset_s) (fun h => by
    have h := Classical.not_not.mp h
    obtain ⟨e1, e2, e3⟩ := H.sh s h
    refine AG.ite (not_c (by rw [e1])) (fun _ => .no 1 H.th.th rfl mset_s) (fun h2 => ?_)
    have h2 := Classical.not_not.mp h2
    exact .ok H.th (by rw [e3 i h2.1 h2.2]; exact H.1.2.1.a20 ((H.2.2.2.1 s h).2.2 i h2.1 h2.2)) mset_s)
theorem g_week (H : DM D M) : D 6 0 = M 24 0 ∧ D 8 0 = M 25 0 := ⟨H.g1.2.1.symm, H.g1.2.2.2.1.symm⟩
theorem g_waiting (H : DM D M) : dWtN D (D 92 0).toNat = sWaitN M (M 23 0).toNat := by
  have : ∀ n : Nat, (n : Int) ≤ D 92 0 → dWtN D n = sWaitN M n := by
    intro n
    induction n with
    | zero => intro _; rfl
    | succ n ih =>
      intro hn
      show dWtN D n + (if D 60 n = 115 then 1 else 0) = sWaitN M n + (if M 13 n = 115 then 1 else 0)
      rw [ih (by omega), (H.ss n ⟨by omega, by omega⟩).1]
  have e := H.nn.2.2
  have z := H.1.2.1.n
  have z2 := H.1.2.1.a70 47
  rw [e]
  exact this _ (by omega)
theorem g_allLevels (H : DM D M) : dSumN D (D 90 0).toNat = sSumN M (M 20 0).toNat := by
  have : ∀ n : Nat, (n : Int) ≤ D 90 0 → dSumN D n = sSumN M n := by
    intro n
    induction n with
    | zero => intro _; rfl
    | succ n ih =>
      intro hn
      show dSumN D n + D 23 n = sSumN M n + M 3 n
      rw [ih (by omega), (H.qq n ⟨by omega, by omega⟩).2.1]
  have e := H.nn.1
  have z := H.1.2.1.n
  have z2 := H.1.2.1.a70 45
  rw [e]
  exact this _ (by omega)
theorem OnlyF.aA {D' : MS} (o : OnlyF [0, 1, 6, 7, 8, 9, 20, 27, 28, 29, 30, 80, 81] D D') : oA D D' :=
  ⟨⟨o _ _ (by decide), o _ _ (by decide)⟩, fun k => ⟨o _ _ (by decide), o _ _ (by decide), o _ _ (by decide), o _ _ (by decide), o _ _ (by decide)⟩, fun k _ _ => o _ _ (by decide), fun k _ _ => o _ _ (by decide)⟩
/-- the row, the jam -/
theorem DM.sm (H : DM D M) {D' M' : MS} (oD : OnlyF [0, 1, 7] D D') (oM : OnlyF [0, 19, 27, 29] M M') (h19 : M' 19 0 = D' 1 0) (h29 : M' 29 0 = D' 7 0) (h0 : ∀ k, 0 ≤ k → k < D' 1 0 → M' 0 k = D' 0 k) (hI' : ID D') (hIM' : IM M') : DM D' M' := by
  obtain ⟨⟨⟨⟨a, ⟨b1, b2, b3, b4, b5⟩, c1, c2, c3, c4, c5, c6, c7⟩, ⟨d1, d2⟩, e1⟩, hI, hH, hL, hZ⟩, hIM, hA, hS, h9⟩ := id H
  have dd : ∀ f k, f ∉ [0, 1, 7] → D' f k = D f k := oD
  have mm : ∀ f k, f ∉ [0, 19, 27, 29] → M' f k = M f k := oM
  have rx : RX D' M' := by
    refine ⟨⟨?_, ⟨h19, ?_, h29, ?_, ?_⟩, h0, ?_, ?_, ?_, ?_, ?_, ?_⟩, ⟨?_, ?_⟩, ?_⟩
    · rw [mm 20 0 (by decide), mm 22 0 (by decide), mm 23 0 (by decide), dd 90 0 (by decide), dd 91 0 (by decide), dd 92 0 (by decide)]
      exact a
    · rw [mm 24 0 (by decide), dd 6 0 (by decide)]; exact b2
    · rw [mm 25 0 (by decide), dd 8 0 (by decide)]; exact b4
    · rw [mm 26 0 (by decide), dd 9 0 (by decide)]; exact b5
    · unfold iQ
      rw [dd 90 0 (by decide)]
      intro q hq
      rw [mm 2 q (by decide), mm 3 q (by decide), mm 4 q (by decide), mm 5 q (by decide), dd 41 q (by decide), dd 23 q (by decide), dd 26 q (by decide), dd 30 q (by decide)]
      exact c2 q hq
    · unfold iQ
      rw [dd 90 0 (by decide)]
      intro q k hq
      rw [mm 1 _ (by decide), dd 41 q (by decide), dd 40 _ (by decide)]
      exact c3 q k hq
    · unfold iP
      rw [dd 91 0 (by decide)]
      intro p hp
      rw [mm 8 p (by decide), mm 12 p (by decide), mm 9 p (by decide), mm 14 p (by decide), dd 50 p (by decide), dd 51 p (by decide), dd 52 p (by decide), dd 54 p (by decide)]
      exact c4 p hp
    · unfold iS
      rw [dd 92 0 (by decide)]
      intro s hs
      rw [mm 13 s (by decide), dd 60 s (by decide)]
      refine ⟨(c5 s hs).1, fun k x y => ?_⟩
      rw [mm 15 _ (by decide), dd 61 _ (by decide)]
      exact (c5 s hs).2 k x y
    · rw [dd 91 0 (by decide)]
      intro p hp
      rw [mm 14 p (by decide)]
      exact c6 p hp
    · rw [dd 92 0 (by decide)]
      intro k hk
      rw [mm 15 k (by decide)]
      exact c7 k hk
    · rw [mm 21 0 (by decide), dd 70 0 (by decide)]
      exact d1
    · rw [dd 70 0 (by decide)]
      intro k x y
      rw [mm 6 k (by decide), mm 7 k (by decide), dd 71 _ (by decide), dd 27 _ (by decide)]
      exact d2 k x y
    · unfold Rc iS
      rw [dd 92 0 (by decide)]
      intro s hs
      rw [mm 17 s (by decide), dd 62 s (by decide), dd 70 (15 + s) (by decide)]
      refine ⟨(e1 s hs).1, (e1 s hs).2.1, fun k x y => ?_⟩
      rw [mm 16 _ (by decide), dd 71 _ (by decide)]
      exact (e1 s hs).2.2 k x y
  have oa := (oD.w (by decide)).aA
  exact ⟨H.1.c rx hI' ⟨⟨dd _ _ (by decide), dd _ _ (by decide), dd _ _ (by decide), dd _ _ (by decide)⟩, fun k => ⟨dd _ _ (by decide), dd _ _ (by decide), dd _ _ (by decide), dd _ _ (by decide), dd _ _ (by decide), dd _ _ (by decide), dd _ _ (by decide)⟩, fun k _ _ => dd _ _ (by decide), fun k _ _ => dd _ _ (by decide)⟩ (fun k => ⟨mm _ _ (by decide), mm _ _ (by decide), mm _ _ (by decide), mm _ _ (by decide)⟩) (mm _ _ (by decide)), hIM', hA.c hI oa, hS.c hI oa (fun k => dd _ _ (by decide)), fun k => by rw [dd 29 k (by decide)]; exact h9 k⟩
theorem g_setJam (H : DM D M) {z : Int} (hz : z = 0 ∨ z = 1) : AG [] (d_setJam D z) (M 29 0, mset (sT M 0) 29 0 z) :=
  .ok (H.sm (OnlyF.rf.st (by decide)) ((OnlyF.rf.st (by decide)).st (by decide)) H.g1.1 rfl H.row (H.1.2.1.s7 hz) (H.2.1.th.s29 hz)) H.g1.2.2.1.symm rfl
theorem g_erase (H : DM D M) : AG [] (d_erase D) (M 19 0, mset (sT M 0) 19 0 0) :=
  .ok (H.sm (OnlyF.rf.st (by decide)) ((OnlyF.rf.st (by decide)).st (by decide)) rfl H.g1.2.2.1 (fun k a b => absurd b (by show ¬ k < 0; omega)) (H.1.2.1.s1 (by decide)) (H.2.1.th.s19 (by decide))) H.g1.1.symm rfl
theorem g_type (H : DM D M) (w : Int) : AG [eIA, eIS] (d_type D w) (s_type M w) := by
  have g := H.g1.1
  have a1 := H.1.2.1.a1
  refine AG.ite (by omega) (fun _ => .no 0 H.th rfl mset_s) (fun h => AG.ite (by omega) (fun _ => .no 1 H.th rfl mset_s) (fun h2 => ?_))
  refine .ok (H.sm ((OnlyF.rf.st (by decide)).st (by decide)) (((OnlyF.rf.st (by decide)).st (by decide)).st (by decide)) ?_ H.g1.2.2.1 (fun k a b => ?_) ((H.1.2.1.s0 (by omega)).s1 (by omega)) (H.2.1.th.s0.s19 (by omega))) (by omega) rfl
  · show M 19 0 + 1 = D 1 0 + 1
    omega
  · have b : k < D 1 0 + 1 := b
    show mset (sT M 0) 0 (M 19 0) w 0 k = mset D 0 (D 1 0) w 0 k
    rw [mset_f, mset_f, g]
    by_cases e : k = D 1 0
    · rw [if_pos e, if_pos e]
    · rw [if_neg e, if_neg e]
      exact H.row k a (by omega)
end G1

abbrev iQ (D : MS) (q : Int) : Prop := 0 ≤ q ∧ q < D 90 0
abbrev iP (D : MS) (p : Int) : Prop := 0 ≤ p ∧ p < D 91 0
abbrev iS (D : MS) (s : Int) : Prop := 0 ≤ s ∧ s < D 92 0
abbrev rI (z : Int) : Res := .inl (some (xI z))
def d_type (D : MS) (w : Int) : Res × MS := if w < 0 ∨ 29 < w then (.inr eIA, D) else if 6 ≤ D 1 0 then (.inr eIS, D) else (rI (D 1 0 + 1), mset (mset D 0 (D 1 0) w) 1 0 (D 1 0 + 1))
def d_erase (D : MS) : Res × MS := (rI (D 1 0), mset D 1 0 0)
noncomputable def d_twin (D : MS) (a b : Int) : Res × MS := if ¬ iQ D a then (.inr eIO, D) else if ¬ iQ D b then (.inr eIO, D) else if a = b then (.inr eIA, D) else
  (rI (dCtN (dSet (dJf D (D 26 a) (D 26 b) (D 90 0).toNat)) a (D 90 0).toNat), dSet (dJf D (D 26 a) (D 26 b) (D 90 0).toNat))
noncomputable def d_areTwins (D : MS) (a b : Int) : Res × MS := if ¬ iQ D a then (.inr eIO, D) else if ¬ iQ D b then (.inr eIO, D) else (rI (pI (a ≠ b ∧ D 26 a = D 26 b)), D)
def d_wordAt (D : MS) (q i : Int) : Res × MS := if ¬ iQ D q then (.inr eIO, D) else if ¬ (0 ≤ i ∧ i < D 41 q) then (.inr eNS, D) else (rI (D 40 (6 * q + i)), D)
def d_level (D : MS) (q : Int) : Res × MS := if ¬ iQ D q then (.inr eIO, D) else (rI (D 23 q), D)
noncomputable def d_levelAnew (D : MS) (q : Int) : Res × MS := if ¬ iQ D q then (.inr eIO, D) else (rI (dLv D q (D 25 q).toNat), D)
def d_kind (D : MS) (q : Int) : Res × MS := if ¬ iQ D q then (.inr eIO, D) else (rI (sKd (D 23 q)), D)
noncomputable def dSe1 (b : Nat) (D : MS) (q : Int) : MS := if 0 < dRank D q b then dIn (mset D 27 q (dRank D q b)) 0 (dPl (mset D 27 q (dRank D q b)) (dRank D q b)) q else mset D 27 q (dRank D q b)
noncomputable def dSeN (D : MS) (b : Nat) : Nat → MS
  | 0 => mset D 70 0 0
  | n + 1 => dSe1 b (dSeN D b n) n
theorem dSeN_s {D : MS} {b : Nat} {k : Int} (h : 0 ≤ k) : dSeN D b (k + 1).toNat = dSe1 b (dSeN D b k.toNat) k := by
  rw [tnat h]
  show dSe1 _ _ _ = _
  rw [ntc h]
theorem dSeN_o {D : MS} (hI : ID D) (b : Nat) : ∀ n : Nat, n ≤ 40 → OnlyF [27, 70, 71] D (dSeN D b n) ∧ ID (dSeN D b n) ∧ (0 ≤ dSeN D b n 70 0 ∧ dSeN D b n 70 0 ≤ n) := by
  intro n
  induction n with
  | zero =>
    intro _
    have e : mset D 70 0 0 70 0 = 0 := mset_s
    exact ⟨OnlyF.rf.st (by decide), hI.cl (by omega), by show 0 ≤ mset D 70 0 0 70 0 ∧ mset D 70 0 0 70 0 ≤ ((0 : Nat) : Int); omega⟩
  | succ n ih =>
    intro hn
    obtain ⟨a, b1, c⟩ := ih (by omega)
    show OnlyF [27, 70, 71] D (dSe1 b (dSeN D b n) n) ∧ ID (dSe1 b (dSeN D b n) n) ∧ (0 ≤ dSe1 b (dSeN D b n) n 70 0 ∧ dSe1 b (dSeN D b n) n 70 0 ≤ ((n + 1 : Nat) : Int))
    generalize dSeN D b n = X at a b1 c
    have hr := dRank_r (q := n) (b := b) b1
    have b2 := b1.s27 (k := n) (z := dRank X n b) hr
    have e70 : mset X 27 n (dRank X n b) 70 0 = X 70 0 := mset_n (by decide)
    unfold dSe1
    split
    · have e : dIn (mset X 27 n (dRank X n b)) 0 (dPl (mset X 27 n (dRank X n b)) (dRank X n b)) n 70 0 = mset X 27 n (dRank X n b) 70 0 + 1 := if_pos ⟨rfl, rfl⟩
      have hp := dFst_r (P := fun j => dRank X n b ≤ mset X 27 n (dRank X n b) 27 (mset X 27 n (dRank X n b) 71 (40 * 0 + j))) (mset X 27 n (dRank X n b) 70 0).toNat
      refine ⟨(a.st (by decide)).tr (dIn_o.w (by decide)), b2.inn (by omega) (by omega) ?_, by omega⟩
      unfold dPl
      omega
    · exact ⟨a.st (by decide), b2, by omega⟩
noncomputable def d_search (D : MS) : Res × MS := if D 1 0 = 0 then (.inr eUO, D) else (rI (dSeN D (dBw D (D 1 0).toNat) (D 90 0).toNat 70 0), dSeN D (dBw D (D 1 0).toNat) (D 90 0).toNat)
def d_hitAt (D : MS) (i : Int) : Res × MS := if ¬ (0 ≤ i ∧ i < D 70 0) then (.inr eNS, D) else (rI (D 20 (D 71 (40 * 0 + i))), D)
def d_rankAt (D : MS) (i : Int) : Res × MS := if ¬ (0 ≤ i ∧ i < D 70 0) then (.inr eNS, D) else (rI (D 27 (D 71 (40 * 0 + i))), D)
def d_week (D : MS) : Res × MS := (rI (D 6 0), D)
noncomputable def d_nextWeek (D : MS) : Res × MS := if 999 ≤ D 6 0 then (.inr eIS, D) else (rI (D 6 0 + 1), dSet (mset D 6 0 (D 6 0 + 1)))
noncomputable def d_drop (D : MS) (p : Int) : Res × MS := if ¬ iP D p then (.inr eIO, D) else if D 54 p ≠ 0 then (.inr eUO, D) else (rI (D 70 (3 + p)), dSet (dCls D p))
def d_held (D : MS) (p : Int) : Res × MS := if ¬ iP D p then (.inr eIO, D) else (rI (D 70 (3 + p)), D)
def d_heldAt (D : MS) (p i : Int) : Res × MS := if ¬ iP D p then (.inr eIO, D) else if ¬ (0 ≤ i ∧ i < D 70 (3 + p)) then (.inr eNS, D) else (rI (D 20 (D 71 (40 * (3 + p) + i))), D)
def d_lacks (D : MS) (p : Int) : Res × MS := if ¬ iP D p then (.inr eIO, D) else (rI (if dOpen D p then D 52 p - D 70 (3 + p) else 0), D)
noncomputable def d_isFree (D : MS) (q : Int) : Res × MS := if ¬ iQ D q then (.inr eIO, D) else (rI (pI (dAv D q)), D)
def d_size (D : MS) (s : Int) : Res × MS := if ¬ iS D s then (.inr eIO, D) else (rI (D 70 (15 + s)), D)
def d_questionAt (D : MS) (s i : Int) : Res × MS := if ¬ iS D s then (.inr eIO, D) else if ¬ (0 ≤ i ∧ i < D 70 (15 + s)) then (.inr eNS, D) else (rI (D 20 (D 71 (40 * (15 + s) + i))), D)
def d_stateOf (D : MS) (s : Int) : Res × MS := if ¬ iS D s then (.inr eIO, D) else (rI (D 60 s), D)
noncomputable def d_waiting (D : MS) : Res × MS := (rI (dWtN D (D 92 0).toNat), D)
def d_setJam (D : MS) (z : Int) : Res × MS := (rI (D 7 0), mset D 7 0 z)
def dPrN (D : MS) (s : Int) : Nat → MS
  | 0 => D
  | n + 1 => mset (mset (dPrN D s n) 28 (D 71 (40 * (15 + s) + n)) 0) 30 (D 71 (40 * (15 + s) + n)) (D 6 0)
theorem dPrN_s {D : MS} {s k : Int} (h : 0 ≤ k) : dPrN D s (k + 1).toNat = mset (mset (dPrN D s k.toNat) 28 (D 71 (40 * (15 + s) + k)) 0) 30 (D 71 (40 * (15 + s) + k)) (D 6 0) := by
  rw [tnat h]
  show mset (mset _ _ _ _) _ _ _ = _
  rw [ntc h]
theorem dPrN_o {D : MS} (hI : ID D) {s : Int} : ∀ n : Nat, OnlyF [28, 30] D (dPrN D s n) ∧ ID (dPrN D s n) := by
  intro n
  induction n with
  | zero => exact ⟨OnlyF.rf, hI⟩
  | succ n ih => exact ⟨(ih.1.st (by decide)).st (by decide), (ih.2.s28 (Or.inl rfl)).s30 (by have := hI.a6; omega)⟩
theorem dFw_r {D : MS} (hI : ID D) : -1 ≤ dFw D ∧ dFw D < 31 := by
  have c := hI.c
  have := dFst_r (P := fun j => D 60 j ≠ 115) (D 92 0).toNat
  unfold dFw
  split <;> omega
noncomputable def d_print (D : MS) : Res × MS := if D 7 0 ≠ 0 then (.inr eIS, D) else if ¬ (0 ≤ dFw D ∧ dFw D < D 92 0) then (.inr eNS, D) else
  (rI (dFw D), dSet (dPrN (mset D 60 (dFw D) 112) (dFw D) (D 70 (15 + dFw D)).toNat))
noncomputable def d_cancel (D : MS) (s : Int) : Res × MS := if ¬ iS D s then (.inr eIO, D) else if D 60 s ≠ 115 then (.inr eUO, D) else
  (rI (D 70 (15 + s)), dSet (dHoN (mset D 60 s 99) (15 + s) 0 (D 70 (15 + s)).toNat))
noncomputable def dAns (D : MS) (s i z : Int) : MS :=
  if z = 0 then mset (dTk (mset D 61 (27 * s + i) 1) (D 71 (40 * (15 + s) + i)) z) 8 0 (D 8 0 + 1) else mset (mset (dTk (mset D 61 (27 * s + i) 1) (D 71 (40 * (15 + s) + i)) z) 8 0 (D 8 0 + 1)) 9 0 (D 9 0 + 1)
noncomputable def d_answer (D : MS) (s i z : Int) : Res × MS := if ¬ iS D s then (.inr eIO, D) else if D 60 s ≠ 112 then (.inr eUO, D) else if ¬ (0 ≤ i ∧ i < D 70 (15 + s)) then (.inr eNS, D) else if ¬ dMkP D s i then (.inr eNS, D) else
  (rI (dAns D s i z 23 (D 71 (40 * (15 + s) + i))), dSet (dAns D s i z))
def d_textOf (D : MS) (s i : Int) : Res × MS := if ¬ iS D s then (.inr eIO, D) else if ¬ (0 ≤ i ∧ i < dTx D s 80 0) then (.inr eNS, dTx D s) else (rI (dTx D s 81 i), dTx D s)
def d_answers (D : MS) : Res × MS := (rI (D 8 0), D)
noncomputable def d_allLevels (D : MS) : Res × MS := (.inl (some (xV (.long (Int64.ofInt (dSumN D (D 90 0).toNat))))), D)
/-- counting who holds -/
def dNp (D : MS) : Nat → MS
  | 0 => dZr D (D 90 0).toNat
  | n + 1 => dCh (dNp D n) (3 + n) (dNp D n 70 (3 + n)).toNat
theorem dNp_s {D : MS} {k : Int} (h : 0 ≤ k) : dNp D (k + 1).toNat = dCh (dNp D k.toNat) (3 + k) (dNp D k.toNat 70 (3 + k)).toNat := by
  rw [tnat h]
  show dCh _ _ _ = _
  rw [ntc h]
def dNs (D0 D : MS) : Nat → MS
  | 0 => D
  | n + 1 => if D0 60 n = 115 then dCh (dNs D0 D n) (15 + n) (dNs D0 D n 70 (15 + n)).toNat else dNs D0 D n
theorem dNs_s {D0 D : MS} {k : Int} (h : 0 ≤ k) : dNs D0 D (k + 1).toNat = if D0 60 k = 115 then dCh (dNs D0 D k.toNat) (15 + k) (dNs D0 D k.toNat 70 (15 + k)).toNat else dNs D0 D k.toNat := by
  rw [tnat h]
  show (if _ = _ then dCh _ _ _ else _) = _
  rw [ntc h]
theorem dNp_o {D : MS} (hI : ID D) (h0 : ∀ k, 0 ≤ D 29 k ∧ D 29 k ≤ 3000) : ∀ n : Nat, OnlyF [29] D (dNp D n) ∧ ID (dNp D n) ∧ ∀ k, 0 ≤ dNp D n 29 k ∧ dNp D n 29 k ≤ 3000 + 40 * n := by
  intro n
  induction n with
  | zero =>
    obtain ⟨a, b, c⟩ := dZr_o hI (D 90 0).toNat
    refine ⟨a, b, fun k => ?_⟩
    show 0 ≤ dZr D (D 90 0).toNat 29 k ∧ dZr D (D 90 0).toNat 29 k ≤ 3000 + 40 * ((0 : Nat) : Int)
    rw [c]
    have := h0 k
    split <;> omega
  | succ n ih =>
    obtain ⟨a, b, c⟩ := ih
    obtain ⟨d, e, f⟩ := dChN_o (l := 3 + n) b c (dNp D n 70 (3 + n)).toNat
    refine ⟨a.tr d, e, fun k => ?_⟩
    have := f k
    have := b.a70 (3 + n)
    show 0 ≤ dCh (dNp D n) (3 + n) (dNp D n 70 (3 + n)).toNat 29 k ∧ dCh (dNp D n) (3 + n) (dNp D n 70 (3 + n)).toNat 29 k ≤ 3000 + 40 * ((n + 1 : Nat) : Int)
    omega
theorem dNs_o {D0 D : MS} {c : Int} (hI : ID D) (h0 : ∀ k, 0 ≤ D 29 k ∧ D 29 k ≤ c) : ∀ n : Nat, OnlyF [29] D (dNs D0 D n) ∧ ID (dNs D0 D n) ∧ ∀ k, 0 ≤ dNs D0 D n 29 k ∧ dNs D0 D n 29 k ≤ c + 40 * n := by
  intro n
  induction n with
  | zero => exact ⟨OnlyF.rf, hI, fun k => by have := h0 k; show 0 ≤ D 29 k ∧ D 29 k ≤ c + 40 * ((0 : Nat) : Int); omega⟩
  | succ n ih =>
    obtain ⟨a, b, c9⟩ := ih
    unfold dNs
    split
    · obtain ⟨d, e, f⟩ := dChN_o (l := 15 + n) b c9 (dNs D0 D n 70 (15 + n)).toNat
      refine ⟨a.tr d, e, fun k => ?_⟩
      have := f k
      have := b.a70 (15 + n)
      omega
    · exact ⟨a, b, fun k => by have := c9 k; omega⟩
def dNt (D : MS) : MS := dNs D (dNp D (D 91 0).toNat) (D 92 0).toNat
def dN1 (D : MS) : Prop := ∀ q, 0 ≤ q → q < D 90 0 → dNt D 29 q ≤ 1
abbrev dLvA (D : MS) : Prop := ∀ j, 0 ≤ j → j < D 90 0 → D 23 j = dLv D j (D 25 j).toNat
abbrev dKept (D : MS) : Prop := ∀ p, 0 ≤ p → p < D 91 0 → ∀ j, 0 ≤ j → j < D 70 (3 + p) → dFit D p j
noncomputable def d_isSound (D : MS) : Res × MS := @ite (Res × MS) (dLvA D) (Classical.propDecidable _) (@ite (Res × MS) (dN1 D) (Classical.propDecidable _) (rI (pI (dKept (dNt D))), dNt D) (rI 0, dNt D)) (rI 0, D)
/-- settling changes the plans' lists and the marks alone -/
def oS (D D' : MS) : Prop := ∀ f k, f ≠ 28 → ¬ (f = 70 ∧ 3 ≤ k ∧ k < 15) → ¬ (f = 71 ∧ 120 ≤ k ∧ k < 600) → D' f k = D f k
theorem oS.rf {D : MS} : oS D D := fun _ _ _ _ _ => rfl
theorem oS.tr {D D' D'' : MS} (a : oS D D') (b : oS D' D'') : oS D D'' := fun f k x y z => (b f k x y z).trans (a f k x y z)
theorem oS.h {D D' : MS} {k z : Int} (a : oS D D') : oS D (mset D' 28 k z) := fun f k' x y w => (mset_n x).trans (a f k' x y w)
theorem oS.n {D : MS} {p z : Int} (h1 : 0 ≤ p ∧ p < 12) : oS D (mset D 70 (3 + p) z) := fun f k x y w => if_neg (fun e => y ⟨e.1, by omega, by omega⟩)
theorem dHoN_S {D : MS} {l v : Int} : ∀ n : Nat, oS D (dHoN D l v n) := by
  intro n
  induction n with
  | zero => exact oS.rf
  | succ n ih => exact ih.h
theorem dLa_S {D : MS} {p : Int} (h1 : 0 ≤ p ∧ p < 12) : oS D (dLa D p) := (dHoN_S _).tr (oS.n h1)
theorem dCls_S {D : MS} {p : Int} (h1 : 0 ≤ p ∧ p < 12) : ∀ f k, f ≠ 28 → f ≠ 54 → ¬ (f = 70 ∧ 3 ≤ k ∧ k < 15) → ¬ (f = 71 ∧ 120 ≤ k ∧ k < 600) → dCls D p f k = D f k := fun f k x e y z => (mset_n e).trans (dLa_S h1 f k x y z)
theorem dLu1_S {p k : Int} {D : MS} (h1 : 0 ≤ p ∧ p < 12) (hk : 0 ≤ k) : oS D (dLu1 p D k) := by
  unfold dLu1
  split
  · exact oS.rf
  · refine oS.h ?_
    intro f j x y z
    unfold dRm
    rw [if_neg (fun e => y ⟨e.1, by omega, by omega⟩), if_neg (fun e => z ⟨e.1, by omega, by omega⟩)]
theorem dLu_S {p : Int} (h1 : 0 ≤ p ∧ p < 12) : ∀ (n : Nat) (D : MS), oS D (dLu p n D) := by
  intro n
  induction n with
  | zero => intro D; exact oS.rf
  | succ n ih =>
    intro D
    exact (dLu1_S h1 (by omega)).tr (ih _)
theorem dLg_S {p : Int} {D : MS} (h1 : 0 ≤ p ∧ p < 12) : oS D (dLg p D) := by
  unfold dLg
  split
  · exact dLu_S h1 _ _
  · exact dLa_S h1
theorem dS1_S {D : MS} : ∀ n : Nat, n ≤ 12 → oS D (dS1 D n) := by
  intro n
  induction n with
  | zero => intro _; exact oS.rf
  | succ n ih =>
    intro h
    exact (ih (by omega)).tr (dLg_S (by omega))
theorem dFi1_S {p q : Int} {D : MS} (hI : ID D) (h1 : 0 ≤ p ∧ p < 12) : oS D (dFi1 p D q) := by
  unfold dFi1
  split
  · rename_i h
    have h2 := hI.a52 p
    have h3 := hI.a70 (3 + p)
    refine oS.h ?_
    intro f j x y z
    show mset (mset D 71 (40 * (3 + p) + D 70 (3 + p)) q) 70 (3 + p) (D 70 (3 + p) + 1) f j = _
    rw [mset2, if_neg (fun e => y ⟨e.1, by omega, by omega⟩), mset2, if_neg (fun e => z ⟨e.1, by omega, by omega⟩)]
  · exact oS.rf
theorem dFiN_S {p : Int} {D : MS} (hI : ID D) (h1 : 0 ≤ p ∧ p < 12) : ∀ n : Nat, oS D (dFiN p D n) := by
  intro n
  induction n with
  | zero => exact oS.rf
  | succ n ih => exact ih.tr (dFi1_S (dFiN_o hI h1 n).2 h1)
theorem dFl_S {p : Int} {D : MS} (hI : ID D) (h1 : 0 ≤ p ∧ p < 12) : oS D (dFl p D) := by
  unfold dFl
  split
  · exact dFiN_S hI h1 _
  · exact oS.rf
theorem dS2_S {D : MS} (hI : ID D) : ∀ n : Nat, (n : Int) ≤ D 91 0 → oS D (dS2 D n) := by
  intro n
  induction n with
  | zero => intro _; exact oS.rf
  | succ n ih =>
    intro h
    have c := hI.c
    exact (ih (by omega)).tr (dFl_S (dS2_o hI n (by omega)).2 (by omega))
theorem dSet_S {D : MS} (hI : ID D) : oS D (dSet D) := by
  have c := hI.c
  have n := hI.n
  have z := hI.a70 46
  obtain ⟨a, b⟩ := dS1_o hI (D 91 0).toNat (by omega)
  have e := a 91 0 (by decide)
  exact (dS1_S _ (by omega)).tr (dS2_S b _ (by omega))

-- deps: 09 10 11 12 21 30 31 33
noncomputable def s_nextWeek (M : MS) : Int × MS := if M 24 0 = 999 then (0, sT M 1) else (M 24 0 + 1, sSettle (mset (sT M 0) 24 0 (M 24 0 + 1)))
noncomputable def sCpN (M : MS) : Nat → MS
  | 0 => M
  | n + 1 => mset (sCpN M n) 1 (6 * M 20 0 + n) (M 0 n)
theorem sCpN_s {M : MS} {k : Int} (h : 0 ≤ k) : sCpN M (k + 1).toNat = mset (sCpN M k.toNat) 1 (6 * M 20 0 + k) (M 0 k) := by
  rw [tnat h]
  show mset _ _ _ _ = _
  rw [ntc h]
theorem sCpN_o {M : MS} (hI : IM M) : ∀ n : Nat, OnlyF [1] M (sCpN M n) ∧ IM (sCpN M n) := by
  intro n
  induction n with
  | zero => exact ⟨OnlyF.rf, hI⟩
  | succ n ih => exact ⟨ih.1.st (by decide), ih.2.s1⟩
noncomputable def sAdd (M : MS) (l : Int) : MS := mset (mset (mset (mset (mset (mset (sCpN (sT M 0) (M 19 0).toNat) 2 (M 20 0) (M 19 0)) 3 (M 20 0) l) 4 (M 20 0) (M 20 0)) 5 (M 20 0) (-100)) 19 0 0) 20 0 (M 20 0 + 1)
theorem sAdd_i {M : MS} {l : Int} (hI : IM M) (hl : 0 ≤ l ∧ l ≤ 100) (hq : M 20 0 ≤ 39) : IM (sAdd M l) := by
  have h0 : IM (sT M 0) := hI
  have h := (sCpN_o h0 (M 19 0).toNat).2
  have a := hI.1.1
  have b := hI.1.2.1
  exact (((((h.s2 a).s3 hl).s4).s5 (by omega)).s19 (by omega)).s20 (by omega)
noncomputable def s_add (M : MS) (l : Int) : Int × MS :=
  if ¬ (0 ≤ l ∧ l ≤ 100) then (0, sT M 1) else if M 19 0 = 0 then (0, sT M 2) else if M 20 0 = 40 then (0, sT M 3) else (M 20 0 + 1 - 1, sSettle (sAdd M l))
noncomputable def sGrN (M : MS) (fr a : Int) : Nat → MS
  | 0 => M
  | n + 1 => if sGrN M fr a n 4 n = fr then mset (sGrN M fr a n) 4 n (sGrN M fr a n 4 a) else sGrN M fr a n
theorem sGrN_s {M : MS} {fr a k : Int} (h : 0 ≤ k) : sGrN M fr a (k + 1).toNat = if sGrN M fr a k.toNat 4 k = fr then mset (sGrN M fr a k.toNat) 4 k (sGrN M fr a k.toNat 4 a) else sGrN M fr a k.toNat := by
  rw [tnat h]
  show (if _ = fr then mset _ _ _ _ else _) = _
  rw [ntc h]
theorem sGrN_o {M : MS} {fr a : Int} (hI : IM M) : ∀ n : Nat, OnlyF [4] M (sGrN M fr a n) ∧ IM (sGrN M fr a n) := by
  intro n
  induction n with
  | zero => exact ⟨OnlyF.rf, hI⟩
  | succ n ih =>
    unfold sGrN
    split
    · exact ⟨ih.1.st (by decide), ih.2.s4⟩
    · exact ih
noncomputable def sCtN (M : MS) (a : Int) : Nat → Int
  | 0 => 0
  | n + 1 => sCtN M a n + (if (n : Int) ≠ a ∧ M 4 n = M 4 a then 1 else 0)
theorem sCtN_s {M : MS} {a k : Int} (h : 0 ≤ k) : sCtN M a (k + 1).toNat = sCtN M a k.toNat + (if k ≠ a ∧ M 4 k = M 4 a then 1 else 0) := by
  rw [tnat h]
  show _ + _ = _
  rw [ntc h]
noncomputable def s_twin (M : MS) (a b : Int) : Int × MS :=
  if ¬ isQ M a ∨ ¬ isQ M b then (0, sT M 1) else if a = b then (0, sT M 2) else
    (sCtN (sGrN (sT M 0) (M 4 b) a (M 20 0).toNat) a (M 20 0).toNat, sSettle (sGrN (sT M 0) (M 4 b) a (M 20 0).toNat))
noncomputable def sPlan (M : MS) (w kd n : Int) : MS := mset (mset (mset (mset (sT M 0) 8 (M 22 0) w) 12 (M 22 0) kd) 9 (M 22 0) n) 22 0 (M 22 0 + 1)
noncomputable def s_plan (M : MS) (w kd n : Int) : Int × MS :=
  if ¬ (M 24 0 ≤ w ∧ w ≤ 999) ∨ ¬ (kd = 101 ∨ kd = 109 ∨ kd = 104) ∨ ¬ (1 ≤ n ∧ n ≤ 9) then (0, sT M 1) else if M 22 0 = 12 then (0, sT M 2) else (M 22 0 + 1 - 1, sSettle (sPlan M w kd n))
noncomputable def s_drop (M : MS) (p : Int) : Int × MS :=
  if ¬ isP M p then (0, sT M 1) else if M 14 p ≠ 0 then (0, sT M 2) else (sHb M p, sSettle (mset (sT M 0) 14 p 1))
/-- may be drawn, when those in the row f from o on are drawn -/
def sOk (f : Nat) (o : Int) (M : MS) (kd sz q : Int) : Prop := (sKd (M 3 q) = kd ∧ sFree M q) ∧ ∀ j, 0 ≤ j → j < sz → M f (o + j) ≠ q ∧ ¬ sTw M (M f (o + j)) q
noncomputable def sCc (f : Nat) (o : Int) (M : MS) (kd sz : Int) : Nat → Int
  | 0 => 0
  | n + 1 => sCc f o M kd sz n + (@ite Int (sOk f o M kd sz n) (Classical.propDecidable _) 1 0)
theorem sCc_s {f : Nat} {o : Int} {M : MS} {kd sz k : Int} (h : 0 ≤ k) : sCc f o M kd sz (k + 1).toNat = sCc f o M kd sz k.toNat + (@ite Int (sOk f o M kd sz k) (Classical.propDecidable _) 1 0) := by
  rw [tnat h]
  show _ + _ = _
  rw [ntc h]
theorem sCc_r {f : Nat} {o : Int} {M : MS} {kd sz : Int} : ∀ n : Nat, 0 ≤ sCc f o M kd sz n ∧ sCc f o M kd sz n ≤ n := by
  intro n
  induction n with
  | zero => exact ⟨Int.le_refl _, Int.le_refl _⟩
  | succ n ih =>
    unfold sCc
    split <;> omega
noncomputable def sPick (f : Nat) (o : Int) (M : MS) (kd sz pl : Int) : Nat → Int
  | 0 => -1
  | n + 1 => if sPick f o M kd sz pl n ≠ -1 then sPick f o M kd sz pl n else @ite Int (sOk f o M kd sz n ∧ sCc f o M kd sz n = pl) (Classical.propDecidable _) n (-1)
theorem sPick_s {f : Nat} {o : Int} {M : MS} {kd sz pl k : Int} (h : 0 ≤ k) : sPick f o M kd sz pl (k + 1).toNat = (if sPick f o M kd sz pl k.toNat ≠ -1 then sPick f o M kd sz pl k.toNat else @ite Int (sOk f o M kd sz k ∧ sCc f o M kd sz k.toNat = pl) (Classical.propDecidable _) k (-1)) := by
  rw [tnat h]
  show (if _ then _ else _) = _
  rw [ntc h]
theorem sPick_st {f : Nat} {o : Int} {M : MS} {kd sz pl r : Int} {n : Nat} (h : sPick f o M kd sz pl n = r) (hr : r ≠ -1) : ∀ m, n ≤ m → sPick f o M kd sz pl m = r := by
  have key : ∀ j : Nat, sPick f o M kd sz pl (n + j) = r := by
    intro j
    induction j with
    | zero => exact h
    | succ j ih =>
      show (if sPick f o M kd sz pl (n + j) ≠ -1 then sPick f o M kd sz pl (n + j) else _) = r
      rw [ih, if_pos hr]
  intro m hm
  have := key (m - n)
  rwa [show n + (m - n) = m by omega] at this
theorem sPick_ok {f : Nat} {o : Int} {M : MS} {kd sz pl : Int} : ∀ n : Nat, sPick f o M kd sz pl n ≠ -1 → 0 ≤ sPick f o M kd sz pl n ∧ sPick f o M kd sz pl n < n ∧ sOk f o M kd sz (sPick f o M kd sz pl n) := by
  intro n
  induction n with
  | zero => intro h; exact absurd rfl h
  | succ n ih =>
    intro h
    unfold sPick at h ⊢
    by_cases e : sPick f o M kd sz pl n ≠ -1
    · rw [if_pos e] at h ⊢
      obtain ⟨a, b, c⟩ := ih e
      exact ⟨a, by omega, c⟩
    · rw [if_neg e] at h ⊢
      by_cases e2 : sOk f o M kd sz n ∧ sCc f o M kd sz n = pl
      · rw [if_pos e2]
        exact ⟨by omega, by omega, e2.1⟩
      · rw [if_neg e2] at h
        exact absurd rfl h
theorem sPick_ex {f : Nat} {o : Int} {M : MS} {kd sz pl : Int} (h0 : 0 ≤ pl) : ∀ n : Nat, pl < sCc f o M kd sz n → sPick f o M kd sz pl n ≠ -1 := by
  intro n
  induction n with
  | zero => intro h; exact absurd h (by show ¬ pl < 0; omega)
  | succ n ih =>
    intro h
    unfold sPick
    by_cases e : sPick f o M kd sz pl n ≠ -1
    · rw [if_pos e]; exact e
    · rw [if_neg e]
      have e3 : ¬ pl < sCc f o M kd sz n := fun q => e (ih q)
      unfold sCc at h
      by_cases e2 : sOk f o M kd sz n
      · rw [if_pos e2] at h
        rw [if_pos ⟨e2, by omega⟩]
        omega
      · rw [if_neg e2] at h
        omega
theorem sPick_neg {f : Nat} {o : Int} {M : MS} {kd sz pl : Int} (h0 : pl < 0) : ∀ n : Nat, sPick f o M kd sz pl n = -1 := by
  intro n
  induction n with
  | zero => rfl
  | succ n ih =>
    unfold sPick
    have := sCc_r (f := f) (o := o) (M := M) (kd := kd) (sz := sz) n
    rw [if_neg (fun q => q ih), if_neg (fun q => by omega)]
noncomputable def s_cand (M : MS) (pl kd sz : Int) : Int :=
  if sPick 16 (27 * M 23 0) M kd sz pl (M 20 0).toNat ≠ -1 then sPick 16 (27 * M 23 0) M kd sz pl (M 20 0).toNat else if pl < 0 then sCc 16 (27 * M 23 0) M kd sz (M 20 0).toNat else -1
theorem s_cand_n {M : MS} {kd sz : Int} : s_cand M (-1) kd sz = sCc 16 (27 * M 23 0) M kd sz (M 20 0).toNat := by
  unfold s_cand
  rw [if_neg (fun w => w (sPick_neg (by decide) _)), if_pos (by decide)]
theorem s_cand_p {M : MS} {kd sz pl : Int} (hp : 0 ≤ pl) (hc : pl < sCc 16 (27 * M 23 0) M kd sz (M 20 0).toNat) : s_cand M pl kd sz = sPick 16 (27 * M 23 0) M kd sz pl (M 20 0).toNat := by
  unfold s_cand
  rw [if_pos (sPick_ex hp _ hc)]
def sDk (e m n : Int) : Int := if n < e then 101 else if n < e + m then 109 else 104
noncomputable def sDr1 (f : Nat) (o n0 e m : Int) (x : MS × Int × Int) (n : Int) : MS × Int × Int :=
  if x.2.2 = 0 then x else if sCc f o x.1 (sDk e m n) n n0.toNat = 0 then (x.1, x.2.1, 0) else
    (mset x.1 f (o + n) (sPick f o x.1 (sDk e m n) n (x.2.1 % sCc f o x.1 (sDk e m n) n n0.toNat) n0.toNat), (x.2.1 * 5 + 3) % 1009, 1)
/-- drawing: state, draw, whether all went well -/
noncomputable def sDr (f : Nat) (o : Int) (M : MS) (seed e m : Int) : Nat → MS × Int × Int
  | 0 => (M, seed, 1)
  | n + 1 => sDr1 f o (M 20 0) e m (sDr f o M seed e m n) n
theorem sDr_s {f : Nat} {o : Int} {M : MS} {seed e m k : Int} (h : 0 ≤ k) : sDr f o M seed e m (k + 1).toNat = sDr1 f o (M 20 0) e m (sDr f o M seed e m k.toNat) k := by
  rw [tnat h]
  show sDr1 _ _ _ _ _ _ _ = _
  rw [ntc h]
theorem sDr_f {f : Nat} {o : Int} {M : MS} {seed e m : Int} {x : MS × Int × Int} {n : Nat} (h : sDr f o M seed e m n = x) (hx : x.2.2 = 0) : ∀ k, n ≤ k → sDr f o M seed e m k = x := by
  have key : ∀ j : Nat, sDr f o M seed e m (n + j) = x := by
    intro j
    induction j with
    | zero => exact h
    | succ j ih =>
      show sDr1 f o (M 20 0) e m (sDr f o M seed e m (n + j)) _ = x
      rw [ih]
      exact if_pos hx
  intro k hk
  have := key (k - n)
  rwa [show n + (k - n) = k by omega] at this
theorem sPick_b {f : Nat} {o : Int} {M : MS} {kd sz pl n0 : Int} (hn : 0 ≤ n0 ∧ n0 ≤ 40) (hp : 0 ≤ pl) (hc : pl < sCc f o M kd sz n0.toNat) : 0 ≤ sPick f o M kd sz pl n0.toNat ∧ sPick f o M kd sz pl n0.toNat ≤ 39 ∧ sOk f o M kd sz (sPick f o M kd sz pl n0.toNat) := by
  obtain ⟨a, b, c⟩ := sPick_ok _ (sPick_ex hp _ hc)
  exact ⟨a, by omega, c⟩
theorem sDr_o {f : Nat} (hf : f = 16 ∨ f = 30) {o : Int} {M : MS} {seed e m : Int} (hI : IM M) (hs : 0 ≤ seed ∧ seed ≤ 1008) : ∀ n : Nat, OnlyF [f] M (sDr f o M seed e m n).1 ∧ IM (sDr f o M seed e m n).1 ∧ (0 ≤ (sDr f o M seed e m n).2.1 ∧ (sDr f o M seed e m n).2.1 ≤ 1008) ∧ ((sDr f o M seed e m n).2.2 = 0 ∨ (sDr f o M seed e m n).2.2 = 1) := by
  intro n
  induction n with
  | zero => exact ⟨OnlyF.rf, hI, hs, Or.inr rfl⟩
  | succ n ih =>
    show OnlyF [f] M (sDr1 f o (M 20 0) e m (sDr f o M seed e m n) n).1 ∧ IM (sDr1 f o (M 20 0) e m (sDr f o M seed e m n) n).1 ∧ (0 ≤ (sDr1 f o (M 20 0) e m (sDr f o M seed e m n) n).2.1 ∧ (sDr1 f o (M 20 0) e m (sDr f o M seed e m n) n).2.1 ≤ 1008) ∧ ((sDr1 f o (M 20 0) e m (sDr f o M seed e m n) n).2.2 = 0 ∨ (sDr1 f o (M 20 0) e m (sDr f o M seed e m n) n).2.2 = 1)
    generalize sDr f o M seed e m n = x at ih
    obtain ⟨a, b, c, d⟩ := ih
    unfold sDr1
    by_cases h1 : x.2.2 = 0
    · rw [if_pos h1]
      exact ⟨a, b, c, d⟩
    · rw [if_neg h1]
      by_cases h2 : sCc f o x.1 (sDk e m n) n (M 20 0).toNat = 0
      · rw [if_pos h2]
        exact ⟨a, b, c, Or.inl rfl⟩
      · rw [if_neg h2]
        have h3 := (sCc_r (f := f) (o := o) (M := x.1) (kd := sDk e m n) (sz := n) (M 20 0).toNat).1
        have h4 : 0 ≤ x.2.1 % sCc f o x.1 (sDk e m n) n (M 20 0).toNat := Int.emod_nonneg _ h2
        have h5 : x.2.1 % sCc f o x.1 (sDk e m n) n (M 20 0).toNat < sCc f o x.1 (sDk e m n) n (M 20 0).toNat := Int.emod_lt_of_pos _ (by omega)
        obtain ⟨h6, h7, -⟩ := sPick_b hI.1.2.1 h4 h5
        refine ⟨a.st (List.mem_singleton.mpr rfl), ?_, by show 0 ≤ (x.2.1 * 5 + 3) % 1009 ∧ (x.2.1 * 5 + 3) % 1009 ≤ 1008; omega, Or.inr rfl⟩
        rcases hf with rfl | rfl
        · exact b.s16 ⟨h6, h7⟩
        · exact b.s30 ⟨h6, h7⟩
noncomputable def sMade (M : MS) (sz : Int) : MS := mset (mset (mset M 17 (M 23 0) sz) 13 (M 23 0) 115) 23 0 (M 23 0 + 1)
noncomputable def sCqN (M : MS) (p : Int) : Nat → MS
  | 0 => M
  | n + 1 => mset (sCqN M p n) 16 (27 * M 23 0 + n) (M 10 (9 * p + n))
theorem sCqN_s {M : MS} {p k : Int} (h : 0 ≤ k) : sCqN M p (k + 1).toNat = mset (sCqN M p k.toNat) 16 (27 * M 23 0 + k) (M 10 (9 * p + k)) := by
  rw [tnat h]
  show mset _ _ _ _ = _
  rw [ntc h]
theorem sCqN_o {M : MS} {p : Int} (hI : IM M) : ∀ n : Nat, OnlyF [16] M (sCqN M p n) ∧ IM (sCqN M p n) := by
  intro n
  induction n with
  | zero => exact ⟨OnlyF.rf, hI⟩
  | succ n ih => exact ⟨ih.1.st (by decide), ih.2.s16 (hI.a10 _)⟩
noncomputable def s_quizOf (M : MS) (p : Int) : Int × MS :=
  if ¬ isP M p then (0, sT M 1) else if M 14 p ≠ 0 ∨ M 8 p ≠ M 24 0 ∨ M 11 p = 0 then (0, sT M 2) else if M 23 0 = 30 then (0, sT M 3) else
    (M 23 0 + 1 - 1, sSettle (sMade (mset (sCqN (sT M 0) p (M 11 p).toNat) 14 p 1) (M 11 p)))
noncomputable def sFst (M : MS) : Nat → Int
  | 0 => 0
  | n + 1 => if sFst M n < n then sFst M n else if M 13 n = 115 then n else n + 1
noncomputable def sPrN (M : MS) (s : Int) : Nat → MS
  | 0 => M
  | n + 1 => mset (sPrN M s n) 5 (M 16 (27 * s + n)) (M 24 0)
theorem sPrN_s {M : MS} {s k : Int} (h : 0 ≤ k) : sPrN M s (k + 1).toNat = mset (sPrN M s k.toNat) 5 (M 16 (27 * s + k)) (M 24 0) := by
  rw [tnat h]
  show mset _ _ _ _ = _
  rw [ntc h]
theorem sPrN_o {M : MS} {s : Int} (hI : IM M) : ∀ n : Nat, OnlyF [5] M (sPrN M s n) ∧ IM (sPrN M s n) := by
  intro n
  have := hI.1.2.2.2.2.2.1
  induction n with
  | zero => exact ⟨OnlyF.rf, hI⟩
  | succ n ih => exact ⟨ih.1.st (by decide), ih.2.s5 (by omega)⟩
/-- the first sheet that waits, or their number -/
theorem sFst_r {M : MS} : ∀ n : Nat, 0 ≤ sFst M n ∧ sFst M n ≤ n := by
  intro n
  induction n with
  | zero => exact ⟨Int.le_refl _, Int.le_refl _⟩
  | succ n ih =>
    unfold sFst
    (repeat' split) <;> omega
theorem sFst_no {M : MS} : ∀ n : Nat, (∀ j : Int, 0 ≤ j → j < n → M 13 j ≠ 115) → sFst M n = n := by
  intro n
  induction n with
  | zero => intro _; rfl
  | succ n ih =>
    intro h
    have e := ih (fun j a b => h j a (by omega))
    unfold sFst
    rw [if_neg (by omega), if_neg (h n (by omega) (by omega))]
    omega
theorem sFst_at {M : MS} {k : Int} (h0 : 0 ≤ k) (hA : ∀ j : Int, 0 ≤ j → j < k → M 13 j ≠ 115) (hk : M 13 k = 115) : ∀ n : Nat, k < n → sFst M n = k := by
  intro n
  induction n with
  | zero => intro h; omega
  | succ n ih =>
    intro h
    unfold sFst
    by_cases e : k < n
    · rw [ih e, if_pos e]
    · have e1 : k = n := by omega
      subst e1
      rw [sFst_no n hA, if_neg (by omega), if_pos hk]
noncomputable def s_print (M : MS) : Int × MS :=
  if M 29 0 ≠ 0 then (0, sT M 1) else if sFst M (M 23 0).toNat = M 23 0 then (0, sT M 2) else
    (sFst M (M 23 0).toNat, sSettle (sPrN (mset (sT M 0) 13 (sFst M (M 23 0).toNat) 112) (sFst M (M 23 0).toNat) (M 17 (sFst M (M 23 0).toNat)).toNat))
noncomputable def s_cancel (M : MS) (s : Int) : Int × MS :=
  if ¬ isS M s then (0, sT M 1) else if M 13 s ≠ 115 then (0, mset (sT M 0) 27 0 2) else (M 17 s, sSettle (mset (sT M 0) 13 s 99))
noncomputable def sLv (l : Int) (b : Prop) : Int := @ite Int b (Classical.propDecidable _) (if l - 1 - l / 10 < 0 then 0 else l - 1 - l / 10) (if l + 1 + (100 - l) / 10 > 100 then 100 else l + 1 + (100 - l) / 10)
theorem sLv_r {l : Int} {b : Prop} (hl : 0 ≤ l ∧ l ≤ 100) : 0 ≤ sLv l b ∧ sLv l b ≤ 100 := by
  unfold sLv
  (repeat' split) <;> omega
noncomputable def sAns (M : MS) (s i : Int) (b : Prop) : MS :=
  mset (mset (mset (mset (mset (sT M 0) 27 0 0) 15 (27 * s + i) 1) 3 (M 16 (27 * s + i)) (sLv (M 3 (M 16 (27 * s + i))) b)) 25 0 (M 25 0 + 1)) 26 0 (M 26 0 + pI b)
noncomputable def s_answer (M : MS) (s i : Int) (b : Prop) : Int × MS :=
  if ¬ isS M s then (0, sT M 1) else if M 13 s ≠ 112 then (0, mset (sT M 0) 27 0 2) else if ¬ (0 ≤ i ∧ i < M 17 s) ∨ M 15 (27 * s + i) ≠ 0 then (0, mset (sT M 0) 27 0 3) else
    (sLv (M 3 (M 16 (27 * s + i))) b, sSettle (sAns M s i b))
noncomputable def sPut (M : MS) (c : Int) : MS := mset (mset M 18 (M 28 0) c) 28 0 (M 28 0 + 1)
noncomputable def sPutN (M : MS) (n : Int) : MS := if 10 ≤ n then sPut (sPut M (48 + n / 10)) (48 + n % 10) else sPut M (48 + n % 10)
noncomputable def sTxN (M : MS) (s : Int) : Nat → MS
  | 0 => M
  | n + 1 => sPutN (if (0 : Int) < n then sPut (sTxN M s n) 44 else sTxN M s n) (M 16 (27 * s + n))
theorem sTxN_s {M : MS} {s k : Int} (h : 0 ≤ k) : sTxN M s (k + 1).toNat = sPutN (if 0 < k then sPut (sTxN M s k.toNat) 44 else sTxN M s k.toNat) (M 16 (27 * s + k)) := by
  rw [tnat h]
  show sPutN (if _ then sPut _ _ else _) _ = _
  rw [ntc h]
theorem sPut_o {M : MS} (hI : IM M) {c : Int} (hc : 0 ≤ c ∧ c < 65536) : OnlyF [18, 28] M (sPut M c) ∧ IM (sPut M c) ∧ sPut M c 28 0 = M 28 0 + 1 := ⟨(OnlyF.rf.st (by decide)).st (by decide), (hI.s18 hc).s28, mset_s⟩
theorem sPutN_o {M : MS} (hI : IM M) {n : Int} (hn : 0 ≤ n ∧ n ≤ 99) : OnlyF [18, 28] M (sPutN M n) ∧ IM (sPutN M n) ∧ M 28 0 + 1 ≤ sPutN M n 28 0 ∧ sPutN M n 28 0 ≤ M 28 0 + 2 := by
  unfold sPutN
  split
  · obtain ⟨a, b, c⟩ := sPut_o hI (c := 48 + n / 10) (by omega)
    obtain ⟨d, e, f⟩ := sPut_o b (c := 48 + n % 10) (by omega)
    exact ⟨a.tr d, e, by omega, by omega⟩
  · obtain ⟨d, e, f⟩ := sPut_o hI (c := 48 + n % 10) (by omega)
    exact ⟨d, e, by omega, by omega⟩
theorem sTxN_o {M : MS} (hI : IM M) {s : Int} : ∀ n : Nat, OnlyF [18, 28] M (sTxN M s n) ∧ IM (sTxN M s n) ∧ M 28 0 ≤ sTxN M s n 28 0 ∧ sTxN M s n 28 0 ≤ M 28 0 + 3 * n := by
  intro n
  induction n with
  | zero => exact ⟨OnlyF.rf, hI, Int.le_refl _, by show M 28 0 ≤ M 28 0 + 3 * 0; omega⟩
  | succ n ih =>
    obtain ⟨a, b, c, d⟩ := ih
    have h16 := hI.a16 (27 * s + n)
    unfold sTxN
    split
    · obtain ⟨a2, b2, c2⟩ := sPut_o b (c := 44) (by omega)
      obtain ⟨a3, b3, c3, d3⟩ := sPutN_o b2 (n := M 16 (27 * s + n)) (by omega)
      exact ⟨(a.tr a2).tr a3, b3, by omega, by omega⟩
    · obtain ⟨a3, b3, c3, d3⟩ := sPutN_o b (n := M 16 (27 * s + n)) (by omega)
      exact ⟨a.tr a3, b3, by omega, by omega⟩
noncomputable def sTx (M : MS) (s : Int) : MS := sTxN (sPut (sPutN (mset (sT M 0) 28 0 0) s) 58) s (M 17 s).toNat
noncomputable def s_textOf (M : MS) (s i : Int) : Int × MS :=
  if ¬ isS M s then (32, sT M 1) else if ¬ (0 ≤ i ∧ i < sTx M s 28 0) then (32, mset (sTx M s) 27 0 2) else (sTx M s 18 i, mset (sTx M s) 27 0 0)
noncomputable def s_quiz (M : MS) (sd e m h : Int) : Int × MS :=
  if ¬ ((0 ≤ sd ∧ sd ≤ 1008) ∧ (0 ≤ e ∧ e ≤ 9) ∧ (0 ≤ m ∧ m ≤ 9) ∧ (0 ≤ h ∧ h ≤ 9) ∧ 0 < e + m + h) then (0, sT M 1) else
    if M 23 0 = 30 then (0, mset (sDr 30 0 (sT M 0) sd e m (e + m + h).toNat).1 27 0 (if (sDr 30 0 (sT M 0) sd e m (e + m + h).toNat).2.2 = 1 then 3 else 2)) else
      if (sDr 16 (27 * M 23 0) (sT M 0) sd e m (e + m + h).toNat).2.2 = 0 then (0, mset (sDr 16 (27 * M 23 0) (sT M 0) sd e m (e + m + h).toNat).1 27 0 2) else
        (M 23 0 + 1 - 1, sSettle (sMade (sDr 16 (27 * M 23 0) (sT M 0) sd e m (e + m + h).toNat).1 (e + m + h)))

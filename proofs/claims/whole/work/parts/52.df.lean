/-- the marks 'held' of a list's questions -/
def dHoN (D : MS) (l v : Int) : Nat → MS
  | 0 => D
  | n + 1 => mset (dHoN D l v n) 28 (D 71 (40 * l + n)) v
theorem dHoN_s {D : MS} {l v k : Int} (h : 0 ≤ k) : dHoN D l v (k + 1).toNat = mset (dHoN D l v k.toNat) 28 (D 71 (40 * l + k)) v := by
  rw [tnat h]
  show mset _ _ _ _ = _
  rw [ntc h]
theorem dHoN_o {D : MS} (hI : ID D) {l v : Int} (hv : v = 0 ∨ v = 1) : ∀ n : Nat, OnlyF [28] D (dHoN D l v n) ∧ ID (dHoN D l v n) := by
  intro n
  induction n with
  | zero => exact ⟨OnlyF.rf, hI⟩
  | succ n ih => exact ⟨ih.1.st (by decide), ih.2.s28 hv⟩
theorem OnlyF.w {a b : List Nat} {M M' : MS} (h : OnlyF a M M') (hs : ∀ x ∈ a, x ∈ b) : OnlyF b M M' := fun f k hf => h f k (fun q => hf (hs f q))
def dLa (D : MS) (p : Int) : MS := mset (dHoN D (3 + p) 0 (D 70 (3 + p)).toNat) 70 (3 + p) 0
theorem dLa_o {D : MS} (p : Int) (hI : ID D) (h1 : 0 ≤ p ∧ p < D 91 0) : OnlyF [28, 70] D (dLa D p) ∧ ID (dLa D p) := by
  obtain ⟨a, b⟩ := dHoN_o hI (l := 3 + p) (v := 0) (Or.inl rfl) (D 70 (3 + p)).toNat
  have c := hI.c
  exact ⟨(a.w (by decide)).st (by decide), b.cl (by omega)⟩
def dCls (D : MS) (p : Int) : MS := mset (dLa D p) 54 p 1
theorem dCls_o {D : MS} (p : Int) (hI : ID D) (h1 : 0 ≤ p ∧ p < D 91 0) : OnlyF [28, 54, 70] D (dCls D p) ∧ ID (dCls D p) := by
  obtain ⟨a, b⟩ := dLa_o p hI h1
  exact ⟨(a.w (by decide)).st (by decide), b.s54 (Or.inr rfl)⟩
noncomputable def dLu1 (p : Int) (D : MS) (n : Int) : MS := @ite MS (dFit D p n) (Classical.propDecidable _) D (mset (dRm D (3 + p) n) 28 (D 71 (40 * (3 + p) + n)) 0)
noncomputable def dLu (p : Int) : Nat → MS → MS
  | 0, D => D
  | n + 1, D => dLu p n (dLu1 p D n)
theorem dLu_s {p k : Int} {D : MS} (h : 0 ≤ k) : dLu p (k + 1).toNat D = dLu p k.toNat (dLu1 p D k) := by
  rw [tnat h]
  show dLu p _ (dLu1 _ _ _) = _
  rw [ntc h]
theorem dLu1_o {p k : Int} {D : MS} (hI : ID D) (h1 : 0 ≤ p ∧ p < 12) (hk : 0 ≤ k ∧ k < D 70 (3 + p)) : OnlyF [28, 70, 71] D (dLu1 p D k) ∧ ID (dLu1 p D k) ∧ k ≤ dLu1 p D k 70 (3 + p) := by
  unfold dLu1
  split
  · exact ⟨OnlyF.rf, hI, by omega⟩
  · refine ⟨(dRm_o.w (by decide)).st (by decide), (hI.rm (by omega) hk).s28 (Or.inl rfl), ?_⟩
    rw [mset_n (by decide)]
    show k ≤ (if _ then _ else _)
    rw [if_pos ⟨rfl, rfl⟩]
    omega
theorem dLu_o {p : Int} (h1 : 0 ≤ p ∧ p < 12) : ∀ (n : Nat) (D : MS), ID D → (n : Int) ≤ D 70 (3 + p) → OnlyF [28, 70, 71] D (dLu p n D) ∧ ID (dLu p n D) := by
  intro n
  induction n with
  | zero => intro D hI _; exact ⟨OnlyF.rf, hI⟩
  | succ n ih =>
    intro D hI hn
    obtain ⟨a, b, c⟩ := dLu1_o hI h1 (k := n) ⟨by omega, by omega⟩
    obtain ⟨d, e⟩ := ih _ b c
    exact ⟨a.tr d, e⟩
theorem dLuF_o {D : MS} (p : Int) (hI : ID D) (h1 : 0 ≤ p ∧ p < D 91 0) : OnlyF [28, 70, 71] D (dLu p (D 70 (3 + p)).toNat D) ∧ ID (dLu p (D 70 (3 + p)).toNat D) := by
  have c := hI.c
  have := hI.a70 (3 + p)
  exact dLu_o (by omega) _ D hI (by omega)
noncomputable def dLg (p : Int) (D : MS) : MS := if dOpen D p then dLu p (D 70 (3 + p)).toNat D else dLa D p
theorem dLg_o {D : MS} (p : Int) (hI : ID D) (h1 : 0 ≤ p ∧ p < D 91 0) : OnlyF [28, 70, 71] D (dLg p D) ∧ ID (dLg p D) := by
  unfold dLg
  split
  · exact dLuF_o p hI h1
  · obtain ⟨a, b⟩ := dLa_o p hI h1
    exact ⟨a.w (by decide), b⟩
noncomputable def dS1 (D : MS) : Nat → MS
  | 0 => D
  | n + 1 => dLg n (dS1 D n)
theorem dS1_s {D : MS} {k : Int} (h : 0 ≤ k) : dS1 D (k + 1).toNat = dLg k (dS1 D k.toNat) := by
  rw [tnat h]
  show dLg _ _ = _
  rw [ntc h]
theorem dS1_o {D : MS} (hI : ID D) : ∀ n : Nat, (n : Int) ≤ D 91 0 → OnlyF [28, 70, 71] D (dS1 D n) ∧ ID (dS1 D n) := by
  intro n
  induction n with
  | zero => intro _; exact ⟨OnlyF.rf, hI⟩
  | succ n ih =>
    intro h
    obtain ⟨a, b⟩ := ih (by omega)
    have e := a 91 0 (by decide)
    obtain ⟨c, d⟩ := dLg_o (n : Int) b (by omega)
    exact ⟨a.tr c, d⟩
noncomputable def dFi1 (p : Int) (D : MS) (q : Int) : MS := @ite MS (0 < D 52 p - D 70 (3 + p) ∧ dCan D q (D 51 p) (3 + p)) (Classical.propDecidable _) (mset (dAd D (3 + p) q) 28 q 1) D
noncomputable def dFiN (p : Int) (D : MS) : Nat → MS
  | 0 => D
  | n + 1 => dFi1 p (dFiN p D n) n
theorem dFiN_s {p : Int} {D : MS} {k : Int} (h : 0 ≤ k) : dFiN p D (k + 1).toNat = dFi1 p (dFiN p D k.toNat) k := by
  rw [tnat h]
  show dFi1 _ _ _ = _
  rw [ntc h]
theorem dFi1_o {p q : Int} {D : MS} (hI : ID D) (h1 : 0 ≤ p ∧ p < 12) : OnlyF [28, 70, 71] D (dFi1 p D q) ∧ ID (dFi1 p D q) := by
  unfold dFi1
  split
  · rename_i h
    have h2 := hI.a52 p
    exact ⟨(dAd_o.w (by decide)).st (by decide), (hI.ad (by omega) (by omega) (fun _ _ => by omega) (fun _ => by omega)).s28 (Or.inr rfl)⟩
  · exact ⟨OnlyF.rf, hI⟩
theorem dFiN_o {p : Int} {D : MS} (hI : ID D) (h1 : 0 ≤ p ∧ p < 12) : ∀ n : Nat, OnlyF [28, 70, 71] D (dFiN p D n) ∧ ID (dFiN p D n) := by
  intro n
  induction n with
  | zero => exact ⟨OnlyF.rf, hI⟩
  | succ n ih =>
    obtain ⟨c, d⟩ := dFi1_o (p := p) (q := n) ih.2 h1
    exact ⟨ih.1.tr c, d⟩
theorem dFiF_o {D : MS} (p : Int) (hI : ID D) (h1 : 0 ≤ p ∧ p < D 91 0) : OnlyF [28, 70, 71] D (dFiN p D (D 90 0).toNat) ∧ ID (dFiN p D (D 90 0).toNat) := by
  have c := hI.c
  exact dFiN_o hI (by omega) _
theorem dFiN_e {p : Int} {M M' : MS} {k : Int} (h : 0 ≤ k) (e : M' = dFiN p M k.toNat) (hx : ¬ 0 < M' 52 p - M' 70 (3 + p)) : ∀ n : Int, k ≤ n → dFiN p M n.toNat = M' := by
  have key : ∀ j : Nat, dFiN p M (k.toNat + j) = M' := by
    intro j
    induction j with
    | zero => exact e.symm
    | succ j ih =>
      show dFi1 p (dFiN p M (k.toNat + j)) _ = M'
      rw [ih]
      exact if_neg (fun w => hx w.1)
  intro n hn
  have := key (n.toNat - k.toNat)
  rwa [show k.toNat + (n.toNat - k.toNat) = n.toNat by omega] at this
noncomputable def dFl (p : Int) (D : MS) : MS := if dOpen D p then dFiN p D (D 90 0).toNat else D
theorem dFl_o {D : MS} (p : Int) (hI : ID D) (h1 : 0 ≤ p ∧ p < D 91 0) : OnlyF [28, 70, 71] D (dFl p D) ∧ ID (dFl p D) := by
  unfold dFl
  split
  · exact dFiF_o p hI h1
  · exact ⟨OnlyF.rf, hI⟩
noncomputable def dS2 (D : MS) : Nat → MS
  | 0 => D
  | n + 1 => dFl n (dS2 D n)
theorem dS2_s {D : MS} {k : Int} (h : 0 ≤ k) : dS2 D (k + 1).toNat = dFl k (dS2 D k.toNat) := by
  rw [tnat h]
  show dFl _ _ = _
  rw [ntc h]
theorem dS2_o {D : MS} (hI : ID D) : ∀ n : Nat, (n : Int) ≤ D 91 0 → OnlyF [28, 70, 71] D (dS2 D n) ∧ ID (dS2 D n) := by
  intro n
  induction n with
  | zero => intro _; exact ⟨OnlyF.rf, hI⟩
  | succ n ih =>
    intro h
    obtain ⟨a, b⟩ := ih (by omega)
    have e := a 91 0 (by decide)
    obtain ⟨c, d⟩ := dFl_o (n : Int) b (by omega)
    exact ⟨a.tr c, d⟩
noncomputable def dSet (D : MS) : MS := dS2 (dS1 D (D 91 0).toNat) (D 91 0).toNat
theorem dSet_o {D : MS} (hI : ID D) : OnlyF [28, 70, 71] D (dSet D) ∧ ID (dSet D) := by
  obtain ⟨a, b⟩ := dS1_o hI (D 91 0).toNat (by have := hI.n; have := hI.a70 46; omega)
  have e := a 91 0 (by decide)
  obtain ⟨c, d⟩ := dS2_o b (D 91 0).toNat (by have := hI.n; have := hI.a70 46; omega)
  exact ⟨a.tr c, d⟩
def dJf (D : MS) (kp ls : Int) : Nat → MS
  | 0 => D
  | n + 1 => if dJf D kp ls n 26 n = ls then mset (dJf D kp ls n) 26 n kp else dJf D kp ls n
theorem dJf_s {D : MS} {kp ls k : Int} (h : 0 ≤ k) : dJf D kp ls (k + 1).toNat = if dJf D kp ls k.toNat 26 k = ls then mset (dJf D kp ls k.toNat) 26 k kp else dJf D kp ls k.toNat := by
  rw [tnat h]
  show (if _ = ls then mset _ _ _ _ else _) = _
  rw [ntc h]
theorem dJfN_o {D : MS} {kp ls : Int} (hI : ID D) (hk : 0 ≤ kp ∧ kp ≤ 39) : ∀ n : Nat, OnlyF [26] D (dJf D kp ls n) ∧ ID (dJf D kp ls n) := by
  intro n
  induction n with
  | zero => exact ⟨OnlyF.rf, hI⟩
  | succ n ih =>
    unfold dJf
    split
    · exact ⟨ih.1.st (by decide), ih.2.s26 hk⟩
    · exact ih
theorem dJf_o {D : MS} (kp ls : Int) (hI : ID D) (hk : 0 ≤ kp ∧ kp ≤ 39) : OnlyF [26] D (dJf D kp ls (D 90 0).toNat) ∧ ID (dJf D kp ls (D 90 0).toNat) := dJfN_o hI hk _
noncomputable def dGaN (D : MS) (kd : Int) : Nat → MS
  | 0 => mset D 70 2 0
  | n + 1 => @ite MS (dCan (dGaN D kd n) n kd 1) (Classical.propDecidable _) (dAd (dGaN D kd n) 2 n) (dGaN D kd n)
theorem dGaN_s {D : MS} {kd k : Int} (h : 0 ≤ k) : dGaN D kd (k + 1).toNat = @ite MS (dCan (dGaN D kd k.toNat) k kd 1) (Classical.propDecidable _) (dAd (dGaN D kd k.toNat) 2 k) (dGaN D kd k.toNat) := by
  rw [tnat h]
  show @ite MS _ (Classical.propDecidable _) (dAd _ _ _) _ = _
  rw [ntc h]
theorem dGaN_o {D : MS} {kd : Int} (hI : ID D) : ∀ n : Nat, n ≤ 40 → OnlyF [70, 71] D (dGaN D kd n) ∧ ID (dGaN D kd n) ∧ (0 ≤ dGaN D kd n 70 2 ∧ dGaN D kd n 70 2 ≤ n) ∧ ∀ f k, ¬ (f = 70 ∧ k = 2) → ¬ (f = 71 ∧ 80 ≤ k ∧ k < 120) → dGaN D kd n f k = D f k := by
  intro n
  induction n with
  | zero =>
    intro _
    have e : mset D 70 2 0 70 2 = 0 := mset_s
    exact ⟨OnlyF.rf.st (by decide), hI.cl (by omega), by show 0 ≤ mset D 70 2 0 70 2 ∧ mset D 70 2 0 70 2 ≤ ((0 : Nat) : Int); omega, fun f k a _ => by show mset D 70 2 0 f k = _; rw [mset2, if_neg a]⟩
  | succ n ih =>
    intro hn
    obtain ⟨a, b, c, d⟩ := ih (by omega)
    unfold dGaN
    split
    · have e : dAd (dGaN D kd n) 2 n 70 2 = dGaN D kd n 70 2 + 1 := mset_s
      refine ⟨a.tr (dAd_o.w (by decide)), b.ad (by omega) (by omega) (fun _ _ => by omega) (fun _ => by omega), by omega, fun f k x y => ?_⟩
      show mset (mset (dGaN D kd n) 71 (40 * 2 + dGaN D kd n 70 2) n) 70 2 (dGaN D kd n 70 2 + 1) f k = _
      rw [mset2, if_neg x, mset2, if_neg (fun w => y ⟨w.1, by omega, by omega⟩), d f k x y]
    · exact ⟨a, b, by omega, d⟩
theorem dGa_o {D : MS} (kd : Int) (hI : ID D) : OnlyF [70, 71] D (dGaN D kd (D 90 0).toNat) ∧ ID (dGaN D kd (D 90 0).toNat) := by
  have c := hI.c
  obtain ⟨a, b, -⟩ := dGaN_o (kd := kd) hI (D 90 0).toNat (by omega)
  exact ⟨a, b⟩
noncomputable def dDr1 (e m : Int) (x : MS × Int × Int) (n : Int) : MS × Int × Int :=
  if x.2.2 = 0 then x else if dGaN x.1 (sDk e m n) (x.1 90 0).toNat 70 2 = 0 then (dGaN x.1 (sDk e m n) (x.1 90 0).toNat, x.2.1, 0) else
    (dAd (dGaN x.1 (sDk e m n) (x.1 90 0).toNat) 1 (dGaN x.1 (sDk e m n) (x.1 90 0).toNat 71 (40 * 2 + x.2.1 % dGaN x.1 (sDk e m n) (x.1 90 0).toNat 70 2)), (x.2.1 * 5 + 3) % 1009, 1)
noncomputable def dDr (D : MS) (seed e m : Int) : Nat → MS × Int × Int
  | 0 => (mset D 70 1 0, seed, 1)
  | n + 1 => dDr1 e m (dDr D seed e m n) n
theorem dDr_s {D : MS} {seed e m k : Int} (h : 0 ≤ k) : dDr D seed e m (k + 1).toNat = dDr1 e m (dDr D seed e m k.toNat) k := by
  rw [tnat h]
  show dDr1 _ _ _ _ = _
  rw [ntc h]
theorem dDr_f {D : MS} {seed e m : Int} {x : MS × Int × Int} {n : Nat} (h : dDr D seed e m n = x) (hx : x.2.2 = 0) : ∀ k, n ≤ k → dDr D seed e m k = x := by
  have key : ∀ j : Nat, dDr D seed e m (n + j) = x := by
    intro j
    induction j with
    | zero => exact h
    | succ j ih =>
      show dDr1 e m (dDr D seed e m (n + j)) _ = x
      rw [ih]
      exact if_pos hx
  intro k hk
  have := key (k - n)
  rwa [show n + (k - n) = k by omega] at this
theorem dDrN_o {D : MS} {seed e m : Int} (hI : ID D) (hs : 0 ≤ seed ∧ seed ≤ 1008) : ∀ n : Nat, n ≤ 27 → OnlyF [70, 71] D (dDr D seed e m n).1 ∧ ID (dDr D seed e m n).1 ∧ (0 ≤ (dDr D seed e m n).2.1 ∧ (dDr D seed e m n).2.1 ≤ 1008) ∧ ((dDr D seed e m n).2.2 = 0 ∨ ((dDr D seed e m n).2.2 = 1 ∧ (dDr D seed e m n).1 70 1 = n)) ∧ ∀ f k, ¬ (f = 70 ∧ k < 3) → ¬ (f = 71 ∧ k < 120) → (dDr D seed e m n).1 f k = D f k := by
  intro n
  induction n with
  | zero =>
    intro _
    exact ⟨OnlyF.rf.st (by decide), hI.cl (by omega), hs, Or.inr ⟨rfl, (show mset D 70 1 0 70 1 = 0 from mset_s)⟩, fun f k a _ => by show mset D 70 1 0 f k = _; rw [mset2, if_neg (fun w => a ⟨w.1, by omega⟩)]⟩
  | succ n ih =>
    intro hn
    obtain ⟨a, b, c, d, f9⟩ := ih (by omega)
    show OnlyF [70, 71] D (dDr1 e m (dDr D seed e m n) n).1 ∧ ID (dDr1 e m (dDr D seed e m n) n).1 ∧ (0 ≤ (dDr1 e m (dDr D seed e m n) n).2.1 ∧ (dDr1 e m (dDr D seed e m n) n).2.1 ≤ 1008) ∧ ((dDr1 e m (dDr D seed e m n) n).2.2 = 0 ∨ ((dDr1 e m (dDr D seed e m n) n).2.2 = 1 ∧ (dDr1 e m (dDr D seed e m n) n).1 70 1 = ((n + 1 : Nat) : Int))) ∧ ∀ f k, ¬ (f = 70 ∧ k < 3) → ¬ (f = 71 ∧ k < 120) → (dDr1 e m (dDr D seed e m n) n).1 f k = D f k
    generalize dDr D seed e m n = x at a b c d f9
    have hc := b.c
    obtain ⟨g1, g2, g3, g4⟩ := dGaN_o (kd := sDk e m n) b (x.1 90 0).toNat (by omega)
    unfold dDr1
    by_cases h1 : x.2.2 = 0
    · rw [if_pos h1]
      exact ⟨a, b, c, Or.inl h1, f9⟩
    · rw [if_neg h1]
      generalize dGaN x.1 (sDk e m n) (x.1 90 0).toNat = y at g1 g2 g3 g4
      have hy : ∀ f k, ¬ (f = 70 ∧ k < 3) → ¬ (f = 71 ∧ k < 120) → y f k = D f k := fun f k u v => (g4 f k (fun w => u ⟨w.1, by omega⟩) (fun w => v ⟨w.1, by omega⟩)).trans (f9 f k u v)
      by_cases h2 : y 70 2 = 0
      · rw [if_pos h2]
        exact ⟨a.tr g1, g2, c, Or.inl rfl, hy⟩
      · rw [if_neg h2]
        generalize y 71 (40 * 2 + x.2.1 % y 70 2) = z9
        have d1 : x.1 70 1 = n := by
          rcases d with d | d
          · exact absurd d h1
          · exact d.2
        have e1 : y 70 1 = n := (g4 70 1 (by omega) (by omega)).trans d1
        have e2 : ∀ z, dAd y 1 z 70 1 = y 70 1 + 1 := fun z => mset_s
        refine ⟨(a.tr g1).tr dAd_o, g2.ad (by omega) (by omega) (fun _ _ => by omega) (fun _ => by omega), by show 0 ≤ (x.2.1 * 5 + 3) % 1009 ∧ (x.2.1 * 5 + 3) % 1009 ≤ 1008; omega, Or.inr ⟨rfl, ?_⟩, fun f k u v => ?_⟩
        · show dAd y 1 z9 70 1 = _
          rw [e2 z9]
          omega
        · refine Eq.trans ?_ (hy f k u v)
          refine (if_neg (fun w => u ⟨w.1, by omega⟩)).trans ?_
          exact if_neg (fun w => v ⟨w.1, by omega⟩)
noncomputable def dTk (D : MS) (q z : Int) : MS := if D 25 q < 30 then mset (mset (mset D 42 (30 * q + D 25 q) z) 25 q (D 25 q + 1)) 23 q (sLv (D 23 q) (z ≠ 0)) else D
theorem dTk_o {D : MS} (q z : Int) (hI : ID D) (h1 : 0 ≤ q ∧ q < D 90 0) (hz : z = 0 ∨ z = 1) : OnlyF [23, 25, 42] D (dTk D q z) ∧ ID (dTk D q z) := by
  unfold dTk
  have := hI.a25 q
  split
  · exact ⟨((OnlyF.rf.st (by decide)).st (by decide)).st (by decide), ((hI.s42 hz).s25 (by omega)).s23 (sLv_r (hI.a23 q))⟩
  · exact ⟨OnlyF.rf, hI⟩
abbrev dMkP (D : MS) (s i : Int) : Prop := (0 ≤ i ∧ i < D 62 s) ∧ D 61 (27 * s + i) = 0
def dMk (D : MS) (s i : Int) : MS := if dMkP D s i then mset D 61 (27 * s + i) 1 else D
theorem dMk_o {D : MS} (s i : Int) (hI : ID D) (h1 : 0 ≤ s ∧ s < D 92 0) : OnlyF [61] D (dMk D s i) ∧ ID (dMk D s i) := by
  unfold dMk
  split
  · exact ⟨OnlyF.rf.st (by decide), hI.s61 (Or.inr rfl)⟩
  · exact ⟨OnlyF.rf, hI⟩
def dCh (D : MS) (l : Int) : Nat → MS
  | 0 => D
  | n + 1 => mset (dCh D l n) 29 (D 71 (40 * l + n)) (dCh D l n 29 (D 71 (40 * l + n)) + 1)
theorem dCh_s {D : MS} {l k : Int} (h : 0 ≤ k) : dCh D l (k + 1).toNat = mset (dCh D l k.toNat) 29 (D 71 (40 * l + k)) (dCh D l k.toNat 29 (D 71 (40 * l + k)) + 1) := by
  rw [tnat h]
  show mset _ _ _ _ = _
  rw [ntc h]
theorem dChN_o {D : MS} {l c : Int} (hI : ID D) (hc : ∀ k, 0 ≤ D 29 k ∧ D 29 k ≤ c) : ∀ n : Nat, OnlyF [29] D (dCh D l n) ∧ ID (dCh D l n) ∧ ∀ k, 0 ≤ dCh D l n 29 k ∧ dCh D l n 29 k ≤ c + n := by
  intro n
  induction n with
  | zero => exact ⟨OnlyF.rf, hI, fun k => by have := hc k; show 0 ≤ D 29 k ∧ D 29 k ≤ c + ((0 : Nat) : Int); omega⟩
  | succ n ih =>
    obtain ⟨a, b, d⟩ := ih
    refine ⟨a.st (by decide), b.s29, fun k => ?_⟩
    show 0 ≤ mset (dCh D l n) 29 (D 71 (40 * l + n)) (dCh D l n 29 (D 71 (40 * l + n)) + 1) 29 k ∧ mset (dCh D l n) 29 (D 71 (40 * l + n)) (dCh D l n 29 (D 71 (40 * l + n)) + 1) 29 k ≤ c + ((n + 1 : Nat) : Int)
    rw [mset_f]
    have h1 := d k
    have h2 := d (D 71 (40 * l + n))
    split <;> omega
theorem dCh_o {D : MS} (l c : Int) (hI : ID D) (hc : ∀ k, 0 ≤ D 29 k ∧ D 29 k ≤ c) : OnlyF [29] D (dCh D l (D 70 l).toNat) ∧ ID (dCh D l (D 70 l).toNat) := ⟨(dChN_o hI hc _).1, (dChN_o hI hc _).2.1⟩
def dZr (D : MS) : Nat → MS
  | 0 => D
  | n + 1 => mset (dZr D n) 29 n 0
theorem dZr_s {D : MS} {k : Int} (h : 0 ≤ k) : dZr D (k + 1).toNat = mset (dZr D k.toNat) 29 k 0 := by
  rw [tnat h]
  show mset _ _ _ _ = _
  rw [ntc h]
theorem dZr_o {D : MS} (hI : ID D) : ∀ n : Nat, OnlyF [29] D (dZr D n) ∧ ID (dZr D n) ∧ ∀ k : Int, dZr D n 29 k = if 0 ≤ k ∧ k < n then 0 else D 29 k := by
  intro n
  induction n with
  | zero => exact ⟨OnlyF.rf, hI, fun k => by rw [if_neg (by omega)]; rfl⟩
  | succ n ih =>
    obtain ⟨a, b, d⟩ := ih
    refine ⟨a.st (by decide), b.s29, fun k => ?_⟩
    show mset (dZr D n) 29 n 0 29 k = _
    rw [mset_f, d k]
    by_cases e : k = n
    · rw [if_pos e, if_pos (by omega)]
    · rw [if_neg e]
      by_cases e2 : 0 ≤ k ∧ k < n
      · rw [if_pos e2, if_pos (by omega)]
      · rw [if_neg e2, if_neg (by omega)]
def dPc (D : MS) (c : Int) : MS := mset (mset D 81 (D 80 0) c) 80 0 (D 80 0 + 1)
def dPn (D : MS) (x : Int) : MS := if x < 10 then dPc D (48 + x % 10) else dPc (dPc D (48 + x / 10)) (48 + x % 10)
def dTxN (D : MS) (s : Int) : Nat → MS
  | 0 => D
  | n + 1 => dPn (if (0 : Int) < n then dPc (dTxN D s n) 44 else dTxN D s n) (D 71 (40 * (15 + s) + n))
theorem dTxN_s {D : MS} {s k : Int} (h : 0 ≤ k) : dTxN D s (k + 1).toNat = dPn (if 0 < k then dPc (dTxN D s k.toNat) 44 else dTxN D s k.toNat) (D 71 (40 * (15 + s) + k)) := by
  rw [tnat h]
  show dPn (if _ then dPc _ _ else _) _ = _
  rw [ntc h]
theorem dPc_o {D : MS} (hI : ID D) {c : Int} (hn : D 80 0 ≤ 97) : OnlyF [80, 81] D (dPc D c) ∧ ID (dPc D c) ∧ dPc D c 80 0 = D 80 0 + 1 := ⟨(OnlyF.rf.st (by decide)).st (by decide), (hI.s81).s80 (by have := hI.a80; omega), mset_s⟩
theorem dPn_o {D : MS} (hI : ID D) {x : Int} (hn : D 80 0 ≤ 96) : OnlyF [80, 81] D (dPn D x) ∧ ID (dPn D x) ∧ D 80 0 + 1 ≤ dPn D x 80 0 ∧ dPn D x 80 0 ≤ D 80 0 + 2 := by
  unfold dPn
  split
  · obtain ⟨a, b, c⟩ := dPc_o hI (c := 48 + x % 10) (by omega)
    exact ⟨a, b, by omega, by omega⟩
  · obtain ⟨a, b, c⟩ := dPc_o hI (c := 48 + x / 10) (by omega)
    obtain ⟨d, e, f⟩ := dPc_o b (c := 48 + x % 10) (by omega)
    exact ⟨a.tr d, e, by omega, by omega⟩
theorem dTxN_o {D : MS} (hI : ID D) {s : Int} (h0 : D 80 0 ≤ 3) : ∀ n : Nat, n ≤ 27 → OnlyF [80, 81] D (dTxN D s n) ∧ ID (dTxN D s n) ∧ dTxN D s n 80 0 ≤ D 80 0 + 3 * n := by
  intro n
  induction n with
  | zero => intro _; exact ⟨OnlyF.rf, hI, by show D 80 0 ≤ D 80 0 + 3 * ((0 : Nat) : Int); omega⟩
  | succ n ih =>
    intro hn
    obtain ⟨a, b, c⟩ := ih (by omega)
    unfold dTxN
    split
    · obtain ⟨d, e, f⟩ := dPc_o b (c := 44) (by omega)
      obtain ⟨u, v, w, x⟩ := dPn_o e (x := D 71 (40 * (15 + s) + n)) (by omega)
      exact ⟨(a.tr d).tr u, v, by omega⟩
    · obtain ⟨u, v, w, x⟩ := dPn_o b (x := D 71 (40 * (15 + s) + n)) (by omega)
      exact ⟨a.tr u, v, by omega⟩
def dTx (D : MS) (s : Int) : MS := dTxN (dPc (dPn (mset D 80 0 0) s) 58) s (D 70 (15 + s)).toNat
theorem dTx_o {D : MS} (s : Int) (hI : ID D) (h1 : 0 ≤ s ∧ s < D 92 0) : OnlyF [80, 81] D (dTx D s) ∧ ID (dTx D s) := by
  have c := hI.c
  have e0 : mset D 80 0 0 80 0 = 0 := mset_s
  have h27 := hI.l27 (p := s) (by omega)
  obtain ⟨a, b, d1, d2⟩ := dPn_o (hI.s80 (z := 0) (by omega)) (x := s) (by omega)
  obtain ⟨d, e, f⟩ := dPc_o b (c := 58) (by omega)
  obtain ⟨u, v, -⟩ := dTxN_o e (s := s) (by omega) (D 70 (15 + s)).toNat (by omega)
  exact ⟨(((OnlyF.rf.st (f := 80) (k := 0) (z := 0) (by decide)).tr a).tr d).tr u, v⟩

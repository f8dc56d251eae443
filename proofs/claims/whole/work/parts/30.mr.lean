-- deps: 09 10 11 12 21
/-- the model's state: field, index -/
abbrev MS : Type := Nat → Int → Int
def ar (f : Nat) : Nat := if f = 30 then 38 else 19 + f
def mkk : Nat → Nat
  | 12 => 21
  | 13 => 21
  | 14 => 23
  | 15 => 23
  | 18 => 21
  | _ => 22
def mln : Nat → Nat
  | 0 => 6
  | 1 => 240
  | 8 => 12
  | 9 => 12
  | 10 => 108
  | 11 => 12
  | 12 => 12
  | 13 => 30
  | 14 => 12
  | 15 => 810
  | 16 => 810
  | 17 => 30
  | 18 => 200
  | 30 => 27
  | _ => 40
def inR (z : Int) : Prop := -2147483648 ≤ z ∧ z ≤ 2147483647
def mset (M : MS) (f : Nat) (k z : Int) : MS := fun f' k' => if f' = f ∧ k' = k then z else M f' k'
theorem mset_n {M : MS} {f f' : Nat} {k k' z : Int} (h : f' ≠ f) : mset M f k z f' k' = M f' k' := if_neg (fun q => h q.1)
theorem mset_k {M : MS} {f f' : Nat} {k k' z : Int} (h : k' ≠ k) : mset M f k z f' k' = M f' k' := if_neg (fun q => h q.2)
theorem mset_s {M : MS} {f : Nat} {k z : Int} : mset M f k z f k = z := if_pos ⟨rfl, rfl⟩
theorem mset_f {M : MS} {f : Nat} {k k' z : Int} : mset M f k z f k' = if k' = k then z else M f k' := by simp [mset]
def MR (h : AH) (M : MS) : Prop := h_k h 18 = 10 ∧ (∀ f, f < 31 → c_R 9 f = true → h_r h 18 f = ar f ∧ h_k h (ar f) = mkk f ∧ h_l h (ar f) = mln f ∧ ∀ k : Nat, k < mln f → h_i h (ar f) k = M f k) ∧ (∀ f, f < 31 → c_R 9 f = false → h_i h 18 f = M f 0) ∧ ∀ f k, inR (M f k)
/-- nothing but the model has changed -/
def FR (h h' : AH) : Prop := (∀ q, q < 18 ∨ 39 ≤ q → h_k h' q = h_k h q ∧ h_l h' q = h_l h q ∧ (∀ j, h_i h' q j = h_i h q j) ∧ ∀ j, h_r h' q j = h_r h q j) ∧ h_n h' = h_n h ∧ h_u h' = h_u h
theorem FR.rf {h : AH} : FR h h := ⟨fun _ _ => ⟨rfl, rfl, fun _ => rfl, fun _ => rfl⟩, rfl, rfl⟩
theorem FR.tr {h1 h2 h3 : AH} (a : FR h1 h2) (b : FR h2 h3) : FR h1 h3 := ⟨fun q hq => ⟨(b.1 q hq).1.trans (a.1 q hq).1, (b.1 q hq).2.1.trans (a.1 q hq).2.1, fun j => ((b.1 q hq).2.2.1 j).trans ((a.1 q hq).2.2.1 j), fun j => ((b.1 q hq).2.2.2 j).trans ((a.1 q hq).2.2.2 j)⟩, b.2.1.trans a.2.1, b.2.2.trans a.2.2⟩
theorem ar_ge {f : Nat} (hf : f < 31) (hr : c_R 9 f = true) : 19 ≤ ar f ∧ ar f < 39 := by
  unfold ar
  split
  · omega
  · have : f < 20 := by
      rcases Nat.lt_or_ge f 19 with q | q
      · omega
      · exfalso
        have : f = 19 ∨ f = 20 ∨ f = 21 ∨ f = 22 ∨ f = 23 ∨ f = 24 ∨ f = 25 ∨ f = 26 ∨ f = 27 ∨ f = 28 ∨ f = 29 := by omega
        rcases this with rfl | rfl | rfl | rfl | rfl | rfl | rfl | rfl | rfl | rfl | rfl <;> cases hr
    omega
theorem ar_inj {f f' : Nat} (hf : f < 31) (hr : c_R 9 f = true) (hf' : f' < 31) (hr' : c_R 9 f' = true) (e : ar f = ar f') : f = f' := by
  have key : ∀ f, f < 31 → c_R 9 f = true → f < 19 ∨ f = 30 := by
    intro f hf hr
    rcases Nat.lt_or_ge f 19 with q | q
    · exact Or.inl q
    · have : f = 19 ∨ f = 20 ∨ f = 21 ∨ f = 22 ∨ f = 23 ∨ f = 24 ∨ f = 25 ∨ f = 26 ∨ f = 27 ∨ f = 28 ∨ f = 29 ∨ f = 30 := by omega
      rcases this with rfl | rfl | rfl | rfl | rfl | rfl | rfl | rfl | rfl | rfl | rfl | rfl
      all_goals first | exact Or.inr rfl | cases hr
  have k1 := key f hf hr
  have k2 := key f' hf' hr'
  unfold ar at e
  split at e <;> split at e <;> omega
theorem hsi_at {h : AH} {a j q i : Nat} {z : Int} : h_i (h_si h a j z) q i = if q = a ∧ i = j then z else h_i h q i := rfl
theorem FR.si {h0 h : AH} {a j : Nat} {z : Int} (hF : FR h0 h) (ha : 18 ≤ a ∧ a < 39) : FR h0 (h_si h a j z) := by
  refine ⟨fun q hq => ⟨(hF.1 q hq).1, (hF.1 q hq).2.1, fun i => ?_, (hF.1 q hq).2.2.2⟩, hF.2.1, hF.2.2⟩
  rw [hsi_at, if_neg (by omega)]
  exact (hF.1 q hq).2.2.1 i
theorem inR_set {M : MS} {f : Nat} {k z : Int} (h : ∀ f k, inR (M f k)) (hz : inR z) : ∀ f' k', inR (mset M f k z f' k') := by
  intro f' k'
  unfold mset
  split
  · exact hz
  · exact h _ _
theorem MR.sta {h : AH} {M : MS} {f j : Nat} {z : Int} (hM : MR h M) (hf : f < 31) (hr : c_R 9 f = true) (hj : j < mln f) (hz : inR z) : MR (h_si h (ar f) j z) (mset M f j z) := by
  obtain ⟨m1, m2, m3, m4⟩ := hM
  refine ⟨m1, fun f' hf' hr' => ⟨(m2 f' hf' hr').1, (m2 f' hf' hr').2.1, (m2 f' hf' hr').2.2.1, fun k hk => ?_⟩, fun f' hf' hr' => ?_, inR_set m4 hz⟩
  · rw [hsi_at]
    by_cases e : f' = f
    · subst e
      by_cases e2 : k = j
      · subst e2
        rw [if_pos ⟨rfl, rfl⟩, mset_s]
      · rw [if_neg (fun q => e2 q.2), mset_k (by omega)]
        exact (m2 f' hf' hr').2.2.2 k hk
    · rw [if_neg (fun q => e (ar_inj hf' hr' hf hr q.1)), mset_n e]
      exact (m2 f' hf' hr').2.2.2 k hk
  · rw [hsi_at, if_neg (fun q => by have := ar_ge hf hr; omega), mset_n (fun e => by rw [e, hr] at hr'; cases hr')]
    exact m3 f' hf' hr'
theorem MR.stf {h : AH} {M : MS} {f : Nat} {z : Int} (hM : MR h M) (hf : f < 31) (hr : c_R 9 f = false) (hz : inR z) : MR (h_si h 18 f z) (mset M f 0 z) := by
  obtain ⟨m1, m2, m3, m4⟩ := hM
  refine ⟨m1, fun f' hf' hr' => ⟨(m2 f' hf' hr').1, (m2 f' hf' hr').2.1, (m2 f' hf' hr').2.2.1, fun k hk => ?_⟩, fun f' hf' hr' => ?_, inR_set m4 hz⟩
  · rw [hsi_at, if_neg (fun q => by have := ar_ge hf' hr'; omega), mset_n (fun e => by rw [e, hr] at hr'; cases hr')]
    exact (m2 f' hf' hr').2.2.2 k hk
  · rw [hsi_at]
    by_cases e : f' = f
    · subst e
      rw [if_pos ⟨rfl, rfl⟩, mset_s]
    · rw [if_neg (fun q => e q.2), mset_n e]
      exact m3 f' hf' hr'
/-- a call of the model: what it answers, what it leaves -/
def Qm (h0 : AH) (v : Option AV) (M1 : MS) : Res → AH → Prop := fun r h' => r = .inl v ∧ MR h' M1 ∧ FR h0 h'
def TM (g : GP) (m : MT) (d : Nat) (as : List AV) (M : MS) (v : Option AV) (M1 : MS) : Prop := ∀ h, MR h M → Tr g m d (xR 18 :: as) h (Qm h v M1)
noncomputable def pI (P : Prop) : Int := @ite Int P (Classical.propDecidable P) 1 0
section V9
variable {g : GP} {m m' : MT} {d d' : Nat} {Q Q' : Res → AH → Prop} {h h0 : AH} {pc : Nat} {lc lc' st as : List AV} {M M1 : MS}
theorem TM.of {v : Option AV} (hpl : plainName m.1.cls = true) (hh : m.2.2.2.2 = []) (hc : ∀ v ∈ as, ∃ z, v = xI z) (hn : as.length + 1 ≤ m.2.2.1) (k : ∀ h0 h, MR h M → FR h0 h → V g m d (Qm h0 v M1) h 0 (l_0 m.2.2.1 (xR 18 :: as)) []) : TM g m d as M v M1 := by
  intro h hM
  refine Tr.ofV hpl hh (fun w hw => ?_) hn (k h h hM FR.rf)
  rcases List.mem_cons.mp hw with rfl | hw
  · exact cat_R
  · obtain ⟨z, rfl⟩ := hc w hw
    rfl
theorem mret {z z1 : Int} (hM : MR h M) (hF : FR h0 h) (e : z = z1) (e2 : M = M1) : Qm h0 (some (xI z1)) M1 (.inl (some (xI z))) h := by
  subst e; subst e2
  exact ⟨rfl, hM, hF⟩
theorem mretV (hM : MR h M) (hF : FR h0 h) (e2 : M = M1) : Qm h0 none M1 (.inl none) h := by
  subst e2
  exact ⟨rfl, hM, hF⟩
theorem V_mg {idx f : Nat} (hd : decode m.2.1 pc = .ok (.getfield idx, 3)) (hf : FlG m.1.cls idx 9 f) (hr : c_R 9 f = false) (hf' : f < 31) (hM : MR h M) {z : Int} (hz : M f 0 = z) (k : -2147483648 ≤ z ∧ z ≤ 2147483647 → V g m d Q h (pc + 3) lc (xI z :: st)) : V g m d Q h pc lc (xR 18 :: st) := by
  subst hz
  exact V_getIv hd hf hr hM.1 (hM.2.2.1 f hf' hr) (k (hM.2.2.2 f 0))
theorem V_mgA {idx f a : Nat} (hd : decode m.2.1 pc = .ok (.getfield idx, 3)) (hf : FlG m.1.cls idx 9 f) (hr : c_R 9 f = true) (hf' : f < 31) (hM : MR h M) (ha : ar f = a) (k : V g m d Q h (pc + 3) lc (xR a :: st)) : V g m d Q h pc lc (xR 18 :: st) := by
  subst ha
  exact V_getRv hd hf hr hM.1 (hM.2.1 f hf' hr).1 k
theorem MR.ld {f : Nat} {z n w : Int} (hM : MR h M) (hr : c_R 9 f = true) (hf' : f < 31) (hl : (mln f : Int) = n) (hz : 0 ≤ z ∧ z < n) (hw : M f z = w) : h_k h (ar f) = mkk f ∧ z = (z.toNat : Int) ∧ z.toNat < h_l h (ar f) ∧ h_l h (ar f) ≤ 2147483647 ∧ h_i h (ar f) z.toNat = w ∧ z.toNat < mln f := by
  obtain ⟨k1, k2, k3, k4⟩ := hM.2.1 f hf' hr
  have e : z = (z.toNat : Int) := (Int.toNat_of_nonneg hz.1).symm
  have hlt : z.toNat < mln f := by omega
  refine ⟨k2, e, by omega, ?_, by rw [k4 _ hlt, ← e]; exact hw, hlt⟩
  rw [k3]
  have : ∀ f, mln f ≤ 810 := by intro f; unfold mln; split <;> omega
  have := this f
  omega
theorem V_mi {f a : Nat} {z n w : Int} (hd : decode m.2.1 pc = .ok (.iaload, 1)) (hk : mkk f = 22) (hr : c_R 9 f = true) (hf' : f < 31) (ha : ar f = a) (hl : (mln f : Int) = n) (hM : MR h M) (hz : 0 ≤ z ∧ z < n) (hw : M f z = w) (k : -2147483648 ≤ w ∧ w ≤ 2147483647 → V g m d Q h (pc + 1) lc (xI w :: st)) : V g m d Q h pc lc (xI z :: xR a :: st) := by
  subst ha
  obtain ⟨k1, k2, k3, k4, k5, -⟩ := hM.ld hr hf' hl hz hw
  refine V_ialdv (j := z.toNat) hd (k1.trans hk) k2 k3 k4 k5 (k ?_)
  rw [← hw]
  exact hM.2.2.2 f z
theorem V_mz {f a : Nat} {z n w : Int} (hd : decode m.2.1 pc = .ok (.baload, 1)) (hk : mkk f = 23) (hr : c_R 9 f = true) (hf' : f < 31) (ha : ar f = a) (hl : (mln f : Int) = n) (hM : MR h M) (hz : 0 ≤ z ∧ z < n) (hw : M f z = w) (k : -2147483648 ≤ w ∧ w ≤ 2147483647 → V g m d Q h (pc + 1) lc (xI w :: st)) : V g m d Q h pc lc (xI z :: xR a :: st) := by
  subst ha
  obtain ⟨k1, k2, k3, k4, k5, -⟩ := hM.ld hr hf' hl hz hw
  refine V_zaldv (j := z.toNat) hd (k1.trans hk) k2 k3 k4 k5 (k ?_)
  rw [← hw]
  exact hM.2.2.2 f z
theorem V_mc {f a : Nat} {z n w : Int} (hd : decode m.2.1 pc = .ok (.caload, 1)) (hk : mkk f = 21) (hr : c_R 9 f = true) (hf' : f < 31) (ha : ar f = a) (hl : (mln f : Int) = n) (hM : MR h M) (hz : 0 ≤ z ∧ z < n) (hw : M f z = w) (k : -2147483648 ≤ w ∧ w ≤ 2147483647 → V g m d Q h (pc + 1) lc (xI w :: st)) : V g m d Q h pc lc (xI z :: xR a :: st) := by
  subst ha
  obtain ⟨k1, k2, k3, k4, k5, -⟩ := hM.ld hr hf' hl hz hw
  refine V_caldv (j := z.toNat) hd (k1.trans hk) k2 k3 k4 k5 (k ?_)
  rw [← hw]
  exact hM.2.2.2 f z
theorem MR.sto {f : Nat} {z n w : Int} (hM : MR h M) (hF : FR h0 h) (hr : c_R 9 f = true) (hf' : f < 31) (hl : (mln f : Int) = n) (hz : 0 ≤ z ∧ z < n) (hw : -2147483648 ≤ w ∧ w ≤ 2147483647) : MR (h_si h (ar f) z.toNat w) (mset M f z w) ∧ FR h0 (h_si h (ar f) z.toNat w) := by
  have e : z = (z.toNat : Int) := (Int.toNat_of_nonneg hz.1).symm
  have hlt : z.toNat < mln f := by omega
  refine ⟨?_, hF.si (by have := ar_ge hf' hr; omega)⟩
  have := hM.sta hf' hr hlt hw
  rw [← e] at this
  exact this
theorem V_mis {f a : Nat} {z n w : Int} (hd : decode m.2.1 pc = .ok (.iastore, 1)) (hk : mkk f = 22) (hr : c_R 9 f = true) (hf' : f < 31) (ha : ar f = a) (hl : (mln f : Int) = n) (hM : MR h M) (hF : FR h0 h) (hz : 0 ≤ z ∧ z < n) (hw : -2147483648 ≤ w ∧ w ≤ 2147483647) (k : ∀ h, MR h (mset M f z w) → FR h0 h → V g m d Q h (pc + 1) lc st) : V g m d Q h pc lc (xI w :: xI z :: xR a :: st) := by
  subst ha
  obtain ⟨k1, k2, k3, k4, k5, -⟩ := hM.ld hr hf' hl hz rfl
  obtain ⟨a1, a2⟩ := hM.sto hF hr hf' hl hz hw
  exact V_iast (j := z.toNat) hd (k1.trans hk) k2 k3 k4 (k _ a1 a2)
theorem V_mzs {f a : Nat} {z n w : Int} (hd : decode m.2.1 pc = .ok (.bastore, 1)) (hk : mkk f = 23) (hr : c_R 9 f = true) (hf' : f < 31) (ha : ar f = a) (hl : (mln f : Int) = n) (hM : MR h M) (hF : FR h0 h) (hz : 0 ≤ z ∧ z < n) (hw : w = 0 ∨ w = 1) (k : ∀ h, MR h (mset M f z w) → FR h0 h → V g m d Q h (pc + 1) lc st) : V g m d Q h pc lc (xI w :: xI z :: xR a :: st) := by
  subst ha
  obtain ⟨k1, k2, k3, k4, k5, -⟩ := hM.ld hr hf' hl hz rfl
  obtain ⟨a1, a2⟩ := hM.sto hF hr hf' hl hz (w := w) ⟨by omega, by omega⟩
  exact V_zast (j := z.toNat) hd (k1.trans hk) k2 k3 k4 hw (k _ a1 a2)
theorem V_mcs {f a : Nat} {z n w : Int} (hd : decode m.2.1 pc = .ok (.castore, 1)) (hk : mkk f = 21) (hr : c_R 9 f = true) (hf' : f < 31) (ha : ar f = a) (hl : (mln f : Int) = n) (hM : MR h M) (hF : FR h0 h) (hz : 0 ≤ z ∧ z < n) (hw : 0 ≤ w ∧ w < 65536) (k : ∀ h, MR h (mset M f z w) → FR h0 h → V g m d Q h (pc + 1) lc st) : V g m d Q h pc lc (xI w :: xI z :: xR a :: st) := by
  subst ha
  obtain ⟨k1, k2, k3, k4, k5, -⟩ := hM.ld hr hf' hl hz rfl
  obtain ⟨a1, a2⟩ := hM.sto hF hr hf' hl hz (w := w) ⟨by omega, by omega⟩
  exact V_cast (j := z.toNat) hd (k1.trans hk) k2 k3 k4 hw (k _ a1 a2)
theorem V_mp {idx f : Nat} {w : Int} (hd : decode m.2.1 pc = .ok (.putfield idx, 3)) (hf : Fl m.1.cls idx 9 f .int false) (hr : c_R 9 f = false) (hf' : f < 31) (hM : MR h M) (hF : FR h0 h) (hw : -2147483648 ≤ w ∧ w ≤ 2147483647) (k : ∀ h, MR h (mset M f 0 w) → FR h0 h → V g m d Q h (pc + 3) lc st) : V g m d Q h pc lc (xI w :: xR 18 :: st) :=
  V_putI hd hf hr hM.1 (k _ (hM.stf hf' hr hw) (hF.si (by omega)))
theorem V_mpz {idx f : Nat} {w : Int} (hd : decode m.2.1 pc = .ok (.putfield idx, 3)) (hf : Fl m.1.cls idx 9 f .boolean false) (hr : c_R 9 f = false) (hf' : f < 31) (hM : MR h M) (hF : FR h0 h) (hw : w = 0 ∨ w = 1) (k : ∀ h, MR h (mset M f 0 w) → FR h0 h → V g m d Q h (pc + 3) lc st) : V g m d Q h pc lc (xI w :: xR 18 :: st) :=
  V_putZ hd hf hw hr hM.1 (k _ (hM.stf hf' hr ⟨by omega, by omega⟩) (hF.si (by omega)))
theorem V_mC {idx n : Nat} {v : Option AV} (hd : decode m.2.1 pc = .ok (.invokevirtual idx, 3)) (hw : CaV m.1.cls idx m' n 9) (hh : m.2.2.2.2 = []) (hd' : d' + 1 ≤ d) (hn : as.length = n) (hst : st.length ≤ 4) (hM : MR h M) (hF : FR h0 h) (hT : TM g m' d' as M v M1)
    (k : ∀ h, MR h M1 → FR h0 h → V g m d Q h (pc + 3) lc (v.toList ++ st)) : V g m d Q h pc lc (as.reverse ++ xR 18 :: st) :=
  V_cV hd hw hh hd' hn hst hM.1 (hT h hM) (fun _ _ z => nomatch z.1) (fun w h' z => by
    obtain ⟨z1, z2, z3⟩ := z
    cases z1
    exact k h' z2 (hF.tr z3))
theorem lp_up {P : Int → Prop} (hi : Int) (step : ∀ k, (k < hi → P (k + 1)) → P k) : ∀ k, P k := by
  have key : ∀ (n : Nat) (k : Int), (hi - k).toNat = n → P k := by
    intro n
    induction n with
    | zero => intro k hk; exact step k (fun q => by omega)
    | succ n ih => intro k hk; exact step k (fun q => ih (k + 1) (by omega))
  exact fun k => key _ k rfl
/-- a truth value as a whole number -/
theorem pI_t {P : Prop} (h : P) : pI P = 1 := if_pos h
theorem pI_f {P : Prop} (h : ¬ P) : pI P = 0 := if_neg h
theorem pI_01 (P : Prop) : pI P = 0 ∨ pI P = 1 := by
  by_cases h : P
  · exact Or.inr (pI_t h)
  · exact Or.inl (pI_f h)
theorem pI_r (P : Prop) : -2147483648 ≤ pI P ∧ pI P ≤ 2147483647 := by
  have := pI_01 P
  omega
theorem V_ifb_ne {P : Prop} {off : Int} {tgt : Nat} (hd : decode m.2.1 pc = .ok (.ifCond .ne off, 3)) (ht : (pc : Int) + off = (tgt : Int)) (kt : P → V g m d Q h tgt lc st) (kf : ¬ P → V g m d Q h (pc + 3) lc st) : V g m d Q h pc lc (xI (pI P) :: st) :=
  V_if_ne hd ht (pI_r P) (fun q => kt (Classical.byContradiction fun n => q (pI_f n))) (fun q => kf fun n => by rw [pI_t n] at q; cases q)
theorem V_ifb_eq {P : Prop} {off : Int} {tgt : Nat} (hd : decode m.2.1 pc = .ok (.ifCond .eq off, 3)) (ht : (pc : Int) + off = (tgt : Int)) (kt : ¬ P → V g m d Q h tgt lc st) (kf : P → V g m d Q h (pc + 3) lc st) : V g m d Q h pc lc (xI (pI P) :: st) :=
  V_if_eq hd ht (pI_r P) (fun q => kt fun n => by rw [pI_t n] at q; cases q) (fun q => kf (Classical.byContradiction fun n => q (pI_f n)))
def lwk : List AV → List AV → Prop
  | [], [] => True
  | a :: l, b :: l' => (b = xU ∨ b = a) ∧ lwk l l'
  | _, _ => False
theorem lwk.len : ∀ {l l' : List AV}, lwk l l' → l'.length = l.length
  | [], [], _ => rfl
  | a :: l, b :: l', h => by simp [lwk.len h.2]
theorem lwk.get : ∀ {l l' : List AV}, lwk l l' → ∀ (i : Nat) (v : AV), l'[i]? = some v → v ≠ xU → l[i]? = some v
  | [], [], _, i, v, h, _ => by simp at h
  | a :: l, b :: l', h, 0, v, h1, h2 => by
    simp at h1
    subst h1
    rcases h.1 with e | e
    · exact absurd e h2
    · rw [e]; rfl
  | a :: l, b :: l', h, i + 1, v, h1, h2 => by
    simp at h1 ⊢
    exact lwk.get h.2 i v h1 h2
/-- locals forgotten -/
theorem V_wk (hw : lwk lc lc') (k : V g m d Q h pc lc' st) : V g m d Q h pc lc st := by
  intro p lch e R s mi args below meth c H locs cells slots ls C P S L
  exact k p lch e R s mi args below meth c H locs cells slots ls C P S ⟨L.1, L.2.1, hw.len.trans L.2.2.1, fun i v h1 h2 => L.2.2.2 i v (hw.get i v h1 h2) h2⟩
end V9

/-- the developers' state: numbers D (field, index), addresses A (what, index) -/
abbrev AD : Type := Nat → Int → Nat
def knd : Nat → Nat
  | 0 => 7
  | 1 => 22
  | 2 => 23
  | 3 => 6
  | 4 => 8
  | 5 => 23
  | 6 => 5
  | 8 => 9
  | 9 => 22
  | _ => 2
def vL (D : MS) (l : Int) : Prop := (0 ≤ l ∧ l < 3) ∨ (3 ≤ l ∧ l < 3 + D 91 0) ∨ (15 ≤ l ∧ l < 15 + D 92 0) ∨ (45 ≤ l ∧ l < 48)
def vA (D : MS) (f : Nat) (i : Int) : Prop := (f ≤ 2 ∧ 0 ≤ i ∧ i < D 90 0) ∨ (f = 3 ∧ 0 ≤ i ∧ i < D 91 0) ∨ ((f = 4 ∨ f = 5) ∧ 0 ≤ i ∧ i < D 92 0) ∨ (f = 6 ∧ vL D i) ∨ ((f = 8 ∨ f = 9 ∨ f = 10) ∧ i = 0)
def vF (D : MS) (F : Nat) (t : Int) : Prop :=
  (F = 0 ∧ 0 ≤ t ∧ t < 6) ∨ ((F = 1 ∨ F = 6 ∨ F = 7 ∨ F = 8 ∨ F = 9) ∧ t = 0) ∨
  ((F = 20 ∨ F = 22 ∨ F = 23 ∨ F = 25 ∨ F = 26 ∨ F = 27 ∨ F = 28 ∨ F = 29 ∨ F = 30) ∧ 0 ≤ t ∧ t < D 90 0) ∨
  (F = 40 ∧ 0 ≤ t ∧ t / 6 < D 90 0 ∧ t % 6 < D 41 (t / 6)) ∨ (F = 42 ∧ 0 ≤ t ∧ t / 30 < D 90 0) ∨
  ((F = 50 ∨ F = 51 ∨ F = 52 ∨ F = 54) ∧ 0 ≤ t ∧ t < D 91 0) ∨ (F = 60 ∧ 0 ≤ t ∧ t < D 92 0) ∨ (F = 61 ∧ 0 ≤ t ∧ t / 27 < D 92 0 ∧ t % 27 < D 62 (t / 27))
/-- where a number lies -/
def lf (F : Nat) (t : Int) : Nat × Int × Nat :=
  if F = 0 then (9, 0, t.toNat) else if F < 20 then (8, 0, F) else if F < 40 then (0, t, F - 20) else if F = 40 then (1, t / 6, (t % 6).toNat) else if F = 42 then (2, t / 30, (t % 30).toNat) else if F < 60 then (3, t, F - 50) else if F = 60 then (4, t, 2) else (5, t / 27, (t % 27).toNat)
def lfI (q : Nat × Int × Nat) : Nat × Int :=
  if q.1 = 9 then (0, (q.2.2 : Int)) else if q.1 = 8 then (q.2.2, 0) else if q.1 = 0 then (20 + q.2.2, q.2.1) else if q.1 = 1 then (40, 6 * q.2.1 + q.2.2) else if q.1 = 2 then (42, 30 * q.2.1 + q.2.2) else if q.1 = 3 then (50 + q.2.2, q.2.1) else if q.1 = 4 then (60, q.2.1) else (61, 27 * q.2.1 + q.2.2)
theorem vF_p {D : MS} {F : Nat} {t : Int} (h : vF D F t) : vA D (lf F t).1 (lf F t).2.1 ∧ (lf F t).1 ≠ 6 ∧ (lf F t).1 ≠ 7 ∧ (lf F t).1 ≠ 10 ∧ (lf F t).1 ≠ 11 ∧ lfI (lf F t) = (F, t) := by
  unfold vF at h
  unfold vA vL
  rcases h with ⟨rfl, a, b⟩ | ⟨rfl | rfl | rfl | rfl | rfl, rfl⟩ | ⟨rfl | rfl | rfl | rfl | rfl | rfl | rfl | rfl | rfl, a, b⟩ | ⟨rfl, a, b, c⟩ | ⟨rfl, a, b⟩ | ⟨rfl | rfl | rfl | rfl, a, b⟩ | ⟨rfl, a, b⟩ | ⟨rfl, a, b, c⟩
  all_goals refine ⟨?_, by simp [lf], by simp [lf], by simp [lf], by simp [lf], ?_⟩
  all_goals simp [lf, lfI]
  all_goals omega
theorem vF_inj {D : MS} {F F' : Nat} {t t' : Int} (h : vF D F t) (h' : vF D F' t') (e : lf F' t' = lf F t) : F' = F ∧ t' = t := by
  have e1 := (vF_p h).2.2.2.2.2
  have e2 := (vF_p h').2.2.2.2.2
  rw [e, e1] at e2
  exact ⟨(Prod.mk.inj e2).1.symm, (Prod.mk.inj e2).2.symm⟩
/-- the same things are there -/
def dST (D D' : MS) : Prop := D' 90 0 = D 90 0 ∧ D' 91 0 = D 91 0 ∧ D' 92 0 = D 92 0 ∧ (∀ k, D' 41 k = D 41 k) ∧ ∀ k, D' 62 k = D 62 k
theorem dST.L {D D' : MS} (s : dST D D') {l : Int} : vL D' l ↔ vL D l := by
  unfold vL
  rw [s.2.1, s.2.2.1]
theorem dST.A {D D' : MS} (s : dST D D') {f : Nat} {i : Int} : vA D' f i ↔ vA D f i := by
  unfold vA
  rw [s.1, s.2.1, s.2.2.1, s.L]
theorem dST.F {D D' : MS} (s : dST D D') {f : Nat} {i : Int} : vF D' f i ↔ vF D f i := by
  unfold vF
  rw [s.1, s.2.1, s.2.2.1, s.2.2.2.1, s.2.2.2.2]
def eA (A : AD) (l z : Int) : Nat := if l = 46 then A 3 z else if l = 47 then A 4 z else A 0 z
def vE (D : MS) (l z : Int) : Prop := 0 ≤ z ∧ z < (if l = 46 then D 91 0 else if l = 47 then D 92 0 else D 90 0)
theorem dST.E {D D' : MS} (s : dST D D') {l z : Int} : vE D' l z ↔ vE D l z := by
  unfold vE
  rw [s.1, s.2.1, s.2.2.1]
theorem dST.set {D : MS} {F : Nat} {k z : Int} (h : F ≠ 41 ∧ F ≠ 62 ∧ F < 90) : dST D (mset D F k z) :=
  ⟨mset_n (by omega), mset_n (by omega), mset_n (by omega), fun _ => mset_n (by omega), fun _ => mset_n (by omega)⟩
def DF (A : AD) : Prop := A 8 0 = 8 ∧ A 9 0 = 9 ∧ A 10 0 = 16 ∧ A 6 45 = 10 ∧ A 6 0 = 11 ∧ A 6 46 = 12 ∧ A 6 47 = 13 ∧ A 6 1 = 14 ∧ A 6 2 = 15
/-- numbers and counts -/
def D0 (h : AH) (A : AD) (D : MS) : Prop := (∀ q, h_k h q ≠ 0 → 8 ≤ q ∧ q < h_n h) ∧ 41 ≤ h_n h ∧ ((0 ≤ D 90 0 ∧ D 90 0 ≤ 40) ∧ (0 ≤ D 91 0 ∧ D 91 0 ≤ 12) ∧ (0 ≤ D 92 0 ∧ D 92 0 ≤ 30)) ∧ (∀ f k, inR (D f k)) ∧ DF A
/-- kinds; apart -/
def DA (h : AH) (A : AD) (D : MS) (tg : Nat → Nat × Int) : Prop := ∀ f i, vA D f i → h_k h (A f i) = knd f ∧ tg (A f i) = (f, i) ∧ ¬ (18 ≤ A f i ∧ A f i < 41)
/-- who holds whom -/
def DS (h : AH) (A : AD) (D : MS) : Prop :=
  (h_r h 8 0 = 9 ∧ h_r h 8 2 = 10 ∧ h_r h 8 3 = 11 ∧ h_r h 8 4 = 12 ∧ h_r h 8 5 = 13 ∧ h_r h 8 10 = 14 ∧ h_r h 8 11 = 15 ∧ h_r h 8 12 = 16) ∧ h_l h 9 = 6 ∧
  (∀ q, 0 ≤ q ∧ q < D 90 0 → h_r h (A 0 q) 1 = A 1 q ∧ h_r h (A 0 q) 4 = A 2 q ∧ (h_l h (A 1 q) : Int) = D 41 q ∧ D 41 q ≤ 6 ∧ h_l h (A 2 q) = 30) ∧
  (∀ p, 0 ≤ p ∧ p < D 91 0 → h_r h (A 3 p) 3 = A 6 (3 + p)) ∧
  ∀ s, 0 ≤ s ∧ s < D 92 0 → h_r h (A 4 s) 0 = A 6 (15 + s) ∧ h_r h (A 4 s) 1 = A 5 s ∧ (h_l h (A 5 s) : Int) = D 62 s ∧ D 62 s ≤ 27
def DN (h : AH) (A : AD) (D : MS) : Prop := ∀ F t, vF D F t → h_i h (A (lf F t).1 (lf F t).2.1) (lf F t).2.2 = D F t
def DL (h : AH) (A : AD) (D : MS) (tg : Nat → Nat × Int) (bw cp : Int → Nat) : Prop := ∀ l, vL D l → LR h (A 6 l) (D 70 l) (bw l) (cp l) (fun k => eA A l (D 71 (40 * l + k))) ∧ (cp l ≤ 60 ∧ D 70 l ≤ 40) ∧ (cp l ≠ 0 → tg (bw l) = (7, l) ∧ ¬ (18 ≤ bw l ∧ bw l < 41)) ∧ ∀ k, 0 ≤ k → k < D 70 l → vE D l (D 71 (40 * l + k))
def DT (h : AH) (D : MS) (tg : Nat → Nat × Int) (bt ct : Nat) : Prop := SB h 16 (D 80 0) bt ct (fun k => D 81 k) ∧ ct ≤ 202 ∧ tg bt = (11, 0) ∧ ¬ (18 ≤ bt ∧ bt < 41)
def sm (f : Int → Nat) : Nat → Nat
  | 0 => 0
  | n + 1 => sm f n + f n
def DB (h : AH) (D : MS) (cp : Int → Nat) (ct N U : Nat) : Prop := (∀ l, ¬ vL D l → cp l = 0) ∧ h_n h + sm (fun l => 60 - cp l) 48 + (202 - ct) ≤ N ∧ h_u h + 4 * sm (fun l => 60 - cp l) 48 + 202 * (202 - ct) ≤ U ∧ N + 100 ≤ z_CC ∧ U + 3000 ≤ z_CS
def DR (h : AH) (A : AD) (D : MS) (N U : Nat) : Prop := ∃ (tg : Nat → Nat × Int) (bw cp : Int → Nat) (bt ct : Nat), D0 h A D ∧ DA h A D tg ∧ DS h A D ∧ DN h A D ∧ DL h A D tg bw cp ∧ DT h D tg bt ct ∧ DB h D cp ct N U
/-- the model's part has not changed -/
def FD (h h' : AH) : Prop := ∀ q, 18 ≤ q → q < 41 → h_k h' q = h_k h q ∧ h_l h' q = h_l h q ∧ (∀ j, h_i h' q j = h_i h q j) ∧ ∀ j, h_r h' q j = h_r h q j
theorem FD.rf {h : AH} : FD h h := fun _ _ _ => ⟨rfl, rfl, fun _ => rfl, fun _ => rfl⟩
theorem FD.tr {h1 h2 h3 : AH} (a : FD h1 h2) (b : FD h2 h3) : FD h1 h3 := fun q x y => ⟨(b q x y).1.trans (a q x y).1, (b q x y).2.1.trans (a q x y).2.1, fun j => ((b q x y).2.2.1 j).trans ((a q x y).2.2.1 j), fun j => ((b q x y).2.2.2 j).trans ((a q x y).2.2.2 j)⟩
theorem sm_up {f : Int → Nat} {l : Int} {v : Nat} : ∀ {n : Nat}, (0 ≤ l ∧ l < n) → sm (fun q => if q = l then v else f q) n + f l = sm f n + v := by
  have lo : ∀ {n : Nat}, (n : Int) ≤ l → sm (fun q => if q = l then v else f q) n = sm f n := by
    intro n
    induction n with
    | zero => intro _; rfl
    | succ n ih =>
      intro h
      show sm _ n + (if (n : Int) = l then v else f n) = sm f n + f n
      rw [ih (by omega), if_neg (by omega)]
  intro n
  induction n with
  | zero => intro h; omega
  | succ n ih =>
    intro h
    show sm _ n + (if (n : Int) = l then v else f n) + f l = sm f n + f n + v
    by_cases e : (n : Int) = l
    · rw [if_pos e, lo (by omega), e]
      omega
    · rw [if_neg e]
      have := ih (by omega)
      omega
theorem DS.st {h : AH} {A : AD} {D D' : MS} (s : dST D D') (H : DS h A D) : DS h A D' := by
  unfold DS
  rw [s.1, s.2.1, s.2.2.1]
  simp only [s.2.2.2.1, s.2.2.2.2]
  exact H
section D1
variable {h h0 : AH} {A : AD} {D : MS} {N U : Nat}
theorem DR.b (H : DR h A D N U) : D0 h A D := by
  obtain ⟨tg, bw, cp, bt, ct, b0, -⟩ := H
  exact b0
theorem DR.kd (H : DR h A D N U) {f : Nat} {i : Int} (hv : vA D f i) : h_k h (A f i) = knd f := by
  obtain ⟨tg, bw, cp, bt, ct, b0, bA, -⟩ := H
  exact (bA f i hv).1
theorem DR.inj (H : DR h A D N U) {f f' : Nat} {i i' : Int} (hv : vA D f i) (hv' : vA D f' i') (e : A f i = A f' i') : f = f' ∧ i = i' := by
  obtain ⟨tg, bw, cp, bt, ct, b0, bA, -⟩ := H
  have e1 := (bA f i hv).2.1
  rw [e, (bA f' i' hv').2.1] at e1
  exact ⟨(Prod.mk.inj e1).1.symm, (Prod.mk.inj e1).2.symm⟩
theorem DR.ge (H : DR h A D N U) {f : Nat} {i : Int} (hv : vA D f i) : 8 ≤ A f i ∧ A f i < h_n h ∧ ¬ (18 ≤ A f i ∧ A f i < 41) := by
  obtain ⟨tg, bw, cp, bt, ct, b0, bA, -⟩ := H
  have h1 := bA f i hv
  have h2 : knd f ≠ 0 := by unfold knd; split <;> omega
  have h3 := b0.1 (A f i) (by rw [h1.1]; exact h2)
  exact ⟨h3.1, h3.2, h1.2.2⟩
theorem DR.s (H : DR h A D N U) : DS h A D := by
  obtain ⟨tg, bw, cp, bt, ct, b0, bA, bS, -⟩ := H
  exact bS
theorem DR.ld (H : DR h A D N U) {F : Nat} {t : Int} (hv : vF D F t) : h_i h (A (lf F t).1 (lf F t).2.1) (lf F t).2.2 = D F t := by
  obtain ⟨tg, bw, cp, bt, ct, b0, bA, bS, bN, -⟩ := H
  exact bN F t hv
theorem DR.li (H : DR h A D N U) {l : Int} (hv : vL D l) : ∃ b C, LR h (A 6 l) (D 70 l) b C (fun k => eA A l (D 71 (40 * l + k))) := by
  obtain ⟨tg, bw, cp, bt, ct, b0, bA, bS, bN, bL, -⟩ := H
  exact ⟨_, _, (bL l hv).1⟩
theorem DR.le (H : DR h A D N U) {l : Int} (hv : vL D l) : (0 ≤ D 70 l ∧ D 70 l ≤ 40) ∧ ∀ k, 0 ≤ k → k < D 70 l → vE D l (D 71 (40 * l + k)) := by
  obtain ⟨tg, bw, cp, bt, ct, b0, bA, bS, bN, bL, -⟩ := H
  obtain ⟨h1, h2, -, h3⟩ := bL l hv
  exact ⟨⟨h1.2.2.2.1.1, h2.2⟩, h3⟩
theorem DR.rg (H : DR h A D N U) (f : Nat) (k : Int) : -2147483648 ≤ D f k ∧ D f k ≤ 2147483647 := H.b.2.2.2.1 f k
theorem DR.room (H : DR h A D N U) : h_n h + 100 ≤ z_CC ∧ h_u h + 3000 ≤ z_CS := by
  obtain ⟨tg, bw, cp, bt, ct, b0, bA, bS, bN, bL, bT, bB⟩ := H
  obtain ⟨-, b1, b2, b3, b4⟩ := bB
  exact ⟨by omega, by omega⟩
theorem DR.fx (H : DR h A D N U) : DF A := H.b.2.2.2.2
/-- a plain number stored -/
theorem DR.si (H : DR h A D N U) {F : Nat} {t z : Int} (hv : vF D F t) (hz : -2147483648 ≤ z ∧ z ≤ 2147483647) : DR (h_si h (A (lf F t).1 (lf F t).2.1) (lf F t).2.2 z) A (mset D F t z) N U := by
  obtain ⟨tg, bw, cp, bt, ct, ⟨b1, b2, b3, b4, b5⟩, bA, bS, bN, bL, bT, bB⟩ := H
  obtain ⟨pA, n6, n7, n10, n11, -⟩ := vF_p hv
  have hF : F ≠ 41 ∧ F ≠ 62 ∧ F < 90 := by unfold vF at hv; omega
  have hF2 : F ≠ 70 ∧ F ≠ 71 ∧ F ≠ 80 ∧ F ≠ 81 := by unfold vF at hv; omega
  have s : dST D (mset D F t z) := dST.set hF
  obtain ⟨kA, tA, oA⟩ := bA _ _ pA
  refine ⟨tg, bw, cp, bt, ct, ⟨b1, b2, ?_, inR_set b4 hz, b5⟩, ?_, DS.st s bS, ?_, ?_, ?_, ?_⟩
  · rw [s.1, s.2.1, s.2.2.1]
    exact b3
  · intro f i q
    exact bA f i (s.A.mp q)
  · intro F' t' q
    have q' := s.F.mp q
    rw [hsi_at]
    by_cases e : F' = F ∧ t' = t
    · obtain ⟨rfl, rfl⟩ := e
      rw [if_pos ⟨rfl, rfl⟩, mset_s]
    · rw [if_neg, bN F' t' q']
      · unfold mset
        rw [if_neg e]
      · rintro ⟨e1, e2⟩
        have t2 := (bA _ _ (vF_p q').1).2.1
        rw [e1, tA] at t2
        exact e (vF_inj hv q' (Prod.ext (Prod.mk.inj t2).1.symm (Prod.ext (Prod.mk.inj t2).2.symm e2)))
  · intro l q
    obtain ⟨⟨l1, l2, l3, l4⟩, l5, l6, l7⟩ := bL l (s.L.mp q)
    have e70 : mset D F t z 70 l = D 70 l := mset_n (by omega)
    have e71 : ∀ k, mset D F t z 71 k = D 71 k := fun k => mset_n (by omega)
    rw [e70]
    simp only [e71, s.E]
    refine ⟨⟨l1, l2, ?_, l4⟩, l5, l6, l7⟩
    rw [hsi_at, if_neg]
    · exact l3
    · rintro ⟨e1, -⟩
      have t2 := (bA 6 l (by unfold vA; exact Or.inr (Or.inr (Or.inr (Or.inl ⟨rfl, s.L.mp q⟩))))).2.1
      rw [e1, tA] at t2
      exact n6 (Prod.mk.inj t2).1
  · obtain ⟨⟨t1, t2, t3, t4, t5, t6, t7, t8⟩, t9, t10, t11⟩ := bT
    have e80 : mset D F t z 80 0 = D 80 0 := mset_n (by omega)
    have e81 : ∀ k, mset D F t z 81 k = D 81 k := fun k => mset_n (by omega)
    have x1 : (16 : Nat) ≠ A (lf F t).1 (lf F t).2.1 := by
      intro e
      have t2 := (bA 10 0 (by unfold vA; exact Or.inr (Or.inr (Or.inr (Or.inr ⟨by omega, rfl⟩))))).2.1
      rw [b5.2.2.1, e, tA] at t2
      exact n10 (Prod.mk.inj t2).1
    have x2 : bt ≠ A (lf F t).1 (lf F t).2.1 := by
      intro e
      rw [e, tA] at t10
      exact n11 (Prod.mk.inj t10).1
    unfold DT SB
    rw [e80]
    simp only [e81, hsi_at]
    refine ⟨⟨t1, t2, ?_, t4, ?_, t6, fun k hk => ?_, fun k hk => ?_⟩, t9, t10, t11⟩
    · rw [if_neg (fun q => x1 q.1)]; exact t3
    · rw [if_neg (fun q => x1 q.1)]; exact t5
    · rw [if_neg (fun q => x2 q.1)]; exact t7 k hk
    · rw [if_neg (fun q => x2 q.1)]; exact t8 k hk
  · obtain ⟨c1, c2⟩ := bB
    exact ⟨fun l q => c1 l (fun w => q (s.L.mpr w)), c2⟩
theorem DR.fd (H : DR h A D N U) (hF : FD h0 h) {F : Nat} {t z : Int} (hv : vF D F t) : FD h0 (h_si h (A (lf F t).1 (lf F t).2.1) (lf F t).2.2 z) := by
  have hg := H.ge (vF_p hv).1
  intro q a b
  obtain ⟨x1, x2, x3, x4⟩ := hF q a b
  refine ⟨x1, x2, fun j => ?_, x4⟩
  rw [hsi_at, if_neg (fun e => by omega)]
  exact x3 j
end D1

/-- as before below B -/
def Ext (B : Nat) (h h' : AH) : Prop := ∀ q, q < B → h_k h' q = h_k h q ∧ h_l h' q = h_l h q ∧ (∀ j, h_i h' q j = h_i h q j) ∧ ∀ j, h_r h' q j = h_r h q j
theorem Ext.rf {B : Nat} {h : AH} : Ext B h h := fun _ _ => ⟨rfl, rfl, fun _ => rfl, fun _ => rfl⟩
theorem Ext.tr {B : Nat} {h h1 h2 : AH} (a : Ext B h h1) (b : Ext B h1 h2) : Ext B h h2 := fun q hq => ⟨(b q hq).1.trans (a q hq).1, (b q hq).2.1.trans (a q hq).2.1, fun j => ((b q hq).2.2.1 j).trans ((a q hq).2.2.1 j), fun j => ((b q hq).2.2.2 j).trans ((a q hq).2.2.2 j)⟩
theorem Ext.si {B a j : Nat} {z : Int} {h h1 : AH} (a1 : Ext B h h1) (ha : B ≤ a) : Ext B h (h_si h1 a j z) := fun q hq => ⟨(a1 q hq).1, (a1 q hq).2.1, fun i => by rw [hsi_at, if_neg (fun e => by omega)]; exact (a1 q hq).2.2.1 i, (a1 q hq).2.2.2⟩
theorem Ext.sr {B a j z : Nat} {h h1 : AH} (a1 : Ext B h h1) (ha : B ≤ a) : Ext B h (h_sr h1 a j z) := fun q hq => ⟨(a1 q hq).1, (a1 q hq).2.1, (a1 q hq).2.2.1, fun i => by rw [hsr_at, if_neg (fun e => by omega)]; exact (a1 q hq).2.2.2 i⟩
theorem Ext.mk {B k n N : Nat} {h h1 : AH} (a1 : Ext B h h1) (ha : B ≤ h_n h1) : Ext B h (h_mk h1 k n N) := fun q hq => ⟨(mk_k (k := k) (n := n) (N := N) (by omega)).trans (a1 q hq).1, (mk_l (k := k) (n := n) (N := N) (by omega)).trans (a1 q hq).2.1, fun j => (mk_i (k := k) (n := n) (N := N) (by omega)).trans ((a1 q hq).2.2.1 j), fun j => (mk_r (k := k) (n := n) (N := N) (by omega)).trans ((a1 q hq).2.2.2 j)⟩
theorem Ext.ci {B a sp b dp n : Nat} {h h1 : AH} (a1 : Ext B h h1) (hb : B ≤ b) : Ext B h (h_ci h1 a sp b dp n) := fun q hq => ⟨(a1 q hq).1, (a1 q hq).2.1, fun j => (if_neg (fun e => by omega)).trans ((a1 q hq).2.2.1 j), (a1 q hq).2.2.2⟩
theorem Ext.fd {B : Nat} {h h0 h' : AH} (E : Ext B h h') (hB : 41 ≤ B) (F : FD h0 h) : FD h0 h' := fun q x y => ⟨(E q (by omega)).1.trans (F q x y).1, (E q (by omega)).2.1.trans (F q x y).2.1, fun j => ((E q (by omega)).2.2.1 j).trans ((F q x y).2.2.1 j), fun j => ((E q (by omega)).2.2.2 j).trans ((F q x y).2.2.2 j)⟩
/-- the parts of DR that old things keep when new ones are made: D and A are for more things now -/
def dOld (D D' : MS) (A A' : AD) : Prop := (∀ F t, vF D F t → D' F t = D F t) ∧ (∀ f i, vA D f i → A' f i = A f i) ∧ (∀ f k, f = 41 ∧ 0 ≤ k ∧ k < D 90 0 ∨ f = 62 ∧ 0 ≤ k ∧ k < D 92 0 → D' f k = D f k) ∧ (∀ l, vL D l → D' 70 l = D 70 l ∧ ∀ k, 0 ≤ k → k < 40 → D' 71 (40 * l + k) = D 71 (40 * l + k)) ∧ D' 80 0 = D 80 0 ∧ (∀ k, D' 81 k = D 81 k) ∧ D 90 0 ≤ D' 90 0 ∧ D 91 0 ≤ D' 91 0 ∧ D 92 0 ≤ D' 92 0
theorem dOld.L {D D' : MS} {A A' : AD} (o : dOld D D' A A') {l : Int} (h : vL D l) : vL D' l := by
  obtain ⟨-, -, -, -, -, -, o1, o2, o3⟩ := o
  unfold vL at h ⊢
  omega
theorem dOld.A {D D' : MS} {A A' : AD} (o : dOld D D' A A') {f : Nat} {i : Int} (h : vA D f i) : vA D' f i := by
  have oL := fun l => o.L (l := l)
  obtain ⟨-, -, -, -, -, -, o1, o2, o3⟩ := o
  unfold vA at h ⊢
  rcases h with h | h | h | h | h
  · exact Or.inl (by omega)
  · exact Or.inr (Or.inl (by omega))
  · exact Or.inr (Or.inr (Or.inl (by omega)))
  · exact Or.inr (Or.inr (Or.inr (Or.inl ⟨h.1, oL _ h.2⟩)))
  · exact Or.inr (Or.inr (Or.inr (Or.inr h)))
theorem dOld.E {D D' : MS} {A A' : AD} (o : dOld D D' A A') {l z : Int} (h : vE D l z) : vE D' l z ∧ eA A' l z = eA A l z := by
  have oA := o.2.1
  obtain ⟨-, -, -, -, -, -, o1, o2, o3⟩ := o
  unfold vE at h ⊢
  unfold eA
  by_cases e1 : l = 46
  · rw [if_pos e1] at h ⊢
    rw [if_pos e1, if_pos e1]
    exact ⟨by omega, oA 3 z (vAp h)⟩
  · rw [if_neg e1] at h ⊢
    rw [if_neg e1, if_neg e1]
    by_cases e2 : l = 47
    · rw [if_pos e2] at h ⊢
      rw [if_pos e2, if_pos e2]
      exact ⟨by omega, oA 4 z (vAs (by decide) h)⟩
    · rw [if_neg e2] at h ⊢
      rw [if_neg e2, if_neg e2]
      exact ⟨by omega, oA 0 z (vAq (by decide) h)⟩
/-- what the old things still are: for the lemmas that register new ones -/
theorem DR.old {h h' : AH} {A A' : AD} {D D' : MS} {tg tg2 : Nat → Nat × Int} {bw cp : Int → Nat} {bt ct : Nat} (b0 : D0 h A D) (bA : DA h A D tg) (bS : DS h A D) (bN : DN h A D) (bL : DL h A D tg bw cp) (bT : DT h D tg bt ct) (E : Ext (h_n h) h h') (o : dOld D D' A A') (ht : ∀ q, q < h_n h → tg2 q = tg q) :
    (∀ f i, vA D f i → h_k h' (A' f i) = knd f ∧ tg2 (A' f i) = (f, i) ∧ ¬ (18 ≤ A' f i ∧ A' f i < 41) ∧ A' f i < h_n h) ∧
    ((h_r h' 8 0 = 9 ∧ h_r h' 8 2 = 10 ∧ h_r h' 8 3 = 11 ∧ h_r h' 8 4 = 12 ∧ h_r h' 8 5 = 13 ∧ h_r h' 8 10 = 14 ∧ h_r h' 8 11 = 15 ∧ h_r h' 8 12 = 16) ∧ h_l h' 9 = 6) ∧
    (∀ q, 0 ≤ q ∧ q < D 90 0 → h_r h' (A' 0 q) 1 = A' 1 q ∧ h_r h' (A' 0 q) 4 = A' 2 q ∧ (h_l h' (A' 1 q) : Int) = D' 41 q ∧ D' 41 q ≤ 6 ∧ h_l h' (A' 2 q) = 30) ∧
    (∀ p, 0 ≤ p ∧ p < D 91 0 → h_r h' (A' 3 p) 3 = A' 6 (3 + p)) ∧
    (∀ s, 0 ≤ s ∧ s < D 92 0 → h_r h' (A' 4 s) 0 = A' 6 (15 + s) ∧ h_r h' (A' 4 s) 1 = A' 5 s ∧ (h_l h' (A' 5 s) : Int) = D' 62 s ∧ D' 62 s ≤ 27) ∧
    (∀ F t, vF D F t → h_i h' (A' (lf F t).1 (lf F t).2.1) (lf F t).2.2 = D' F t) ∧
    (∀ l, vL D l → LR h' (A' 6 l) (D' 70 l) (bw l) (cp l) (fun k => eA A' l (D' 71 (40 * l + k))) ∧ (cp l ≤ 60 ∧ D' 70 l ≤ 40) ∧ (cp l ≠ 0 → tg2 (bw l) = (7, l) ∧ ¬ (18 ≤ bw l ∧ bw l < 41)) ∧ ∀ k, 0 ≤ k → k < D' 70 l → vE D' l (D' 71 (40 * l + k))) ∧ DT h' D' tg2 bt ct := by
  obtain ⟨b1, b2, b3, b4, b5⟩ := b0
  have hlt : ∀ f i, vA D f i → A f i < h_n h := fun f i v => (b1 _ (by rw [(bA f i v).1]; unfold knd; split <;> omega)).2
  have oA := o.2.1
  have x8 := hlt 8 0 (vAx (by decide))
  have x9 := hlt 9 0 (vAx (by decide))
  rw [b5.1] at x8
  rw [b5.2.1] at x9
  refine ⟨fun f i v => ?_, ?_, fun q hq => ?_, fun p hp => ?_, fun s hs => ?_, fun F t v => ?_, fun l v => ?_, ?_⟩
  · rw [oA f i v, (E _ (hlt f i v)).1, ht _ (hlt f i v)]
    obtain ⟨q1, q2, q3⟩ := bA f i v
    exact ⟨q1, q2, q3, hlt f i v⟩
  · obtain ⟨s1, s9, -⟩ := bS
    have r8 : ∀ j, h_r h' 8 j = h_r h 8 j := (E 8 x8).2.2.2
    rw [r8, r8, r8, r8, r8, r8, r8, r8, (E 9 x9).2.1]
    exact ⟨s1, s9⟩
  · have w0 : vA D 0 q := vAq (by decide) hq
    have w1 : vA D 1 q := vAq (by decide) hq
    have w2 : vA D 2 q := vAq (by decide) hq
    rw [oA 0 q w0, oA 1 q w1, oA 2 q w2, (E _ (hlt 0 q w0)).2.2.2, (E _ (hlt 0 q w0)).2.2.2, (E _ (hlt 1 q w1)).2.1, (E _ (hlt 2 q w2)).2.1, o.2.2.1 41 q (Or.inl ⟨rfl, hq⟩)]
    exact bS.2.2.1 q hq
  · have w0 : vA D 3 p := vAp hp
    have w1 : vA D 6 (3 + p) := vAl (vLp hp)
    rw [oA 3 p w0, oA 6 _ w1, (E _ (hlt 3 p w0)).2.2.2]
    exact bS.2.2.2.1 p hp
  · have w0 : vA D 4 s := vAs (by decide) hs
    have w1 : vA D 5 s := vAs (by decide) hs
    have w2 : vA D 6 (15 + s) := vAl (vLs hs)
    rw [oA 4 s w0, oA 5 s w1, oA 6 _ w2, (E _ (hlt 4 s w0)).2.2.2, (E _ (hlt 4 s w0)).2.2.2, (E _ (hlt 5 s w1)).2.1, o.2.2.1 62 s (Or.inr ⟨rfl, hs⟩)]
    exact bS.2.2.2.2 s hs
  · obtain ⟨pA, -⟩ := vF_p v
    rw [oA _ _ pA, (E _ (hlt _ _ pA)).2.2.1, o.1 F t v]
    exact bN F t v
  · obtain ⟨⟨m1, m2, m3, m4, m5, m6, m7⟩, m8, m9, m10⟩ := bL l v
    have w := hlt 6 l (vAl v)
    obtain ⟨e70, e71⟩ := o.2.2.2.1 l v
    rw [oA 6 l (vAl v), e70]
    refine ⟨⟨?_, ?_, ?_, m4, m5, fun c0 => ?_, fun k hk => ?_⟩, m8, fun c0 => ?_, fun k a b => ?_⟩
    · rw [(E _ w).1]; exact m1
    · rw [(E _ w).2.2.2]; exact m2
    · rw [(E _ w).2.2.1]; exact m3
    · have y := (b1 (bw l) (by rw [(m6 c0).1]; decide)).2
      rw [(E _ y).1, (E _ y).2.1]
      exact m6 c0
    · have c0 : cp l ≠ 0 := by omega
      have y := (b1 (bw l) (by rw [(m6 c0).1]; decide)).2
      rw [(E _ y).2.2.2, m7 k hk]
      show eA A l (D 71 (40 * l + k)) = eA A' l (D' 71 (40 * l + k))
      rw [e71 k (by omega) (by omega), (o.E (m10 k (by omega) hk)).2]
    · have y := (b1 (bw l) (by rw [(m6 c0).1]; decide)).2
      rw [ht _ y]
      exact m9 c0
    · rw [e71 k a (by omega)]
      exact (o.E (m10 k a b)).1
  · obtain ⟨⟨t1, t2, t3, t4, t5, t6, t7, t8⟩, t9, t10, t11⟩ := bT
    have y := (b1 bt (by rw [t6.1]; decide)).2
    have x := (b1 16 (by rw [t1]; decide)).2
    unfold DT SB
    rw [o.2.2.2.2.1, (E _ x).1, (E _ x).2.2.2, (E _ x).2.2.1, (E _ x).2.2.1, (E _ y).1, (E _ y).2.1, ht _ y]
    simp only [o.2.2.2.2.2.1, (E _ y).2.2.1]
    exact ⟨⟨t1, t2, t3, t4, t5, t6, t7, t8⟩, t9, t10, t11⟩
theorem sm_le {f f' : Int → Nat} : ∀ {n : Nat}, (∀ k : Int, 0 ≤ k → k < n → f' k = f k) → sm f' n = sm f n := by
  intro n
  induction n with
  | zero => intro _; rfl
  | succ n ih =>
    intro h
    show sm f' n + f' n = sm f n + f n
    rw [ih (fun k a b => h k a (by omega)), h n (by omega) (by omega)]
def dNq (D : MS) (lv : Int) : MS := fun f k =>
  if f = 90 ∧ k = 0 then D 90 0 + 1 else if k = D 90 0 ∧ (f = 20 ∨ f = 26) then D 90 0 else if k = D 90 0 ∧ (f = 22 ∨ f = 23) then lv else if k = D 90 0 ∧ (f = 25 ∨ f = 27 ∨ f = 28 ∨ f = 29) then 0 else if k = D 90 0 ∧ f = 30 then -1 else if k = D 90 0 ∧ f = 41 then D 1 0 else
  if f = 40 ∧ 6 * D 90 0 ≤ k ∧ k < 6 * D 90 0 + 6 then D 0 (k - 6 * D 90 0) else if f = 42 ∧ 30 * D 90 0 ≤ k ∧ k < 30 * D 90 0 + 30 then 0 else D f k
def aNq (A : AD) (D : MS) (a0 a1 a2 : Nat) : AD := fun f i => if i = D 90 0 ∧ f = 0 then a0 else if i = D 90 0 ∧ f = 1 then a1 else if i = D 90 0 ∧ f = 2 then a2 else A f i
theorem dNq_d {D : MS} {lv : Int} {f : Nat} {k : Int} (h1 : ¬ (f = 90 ∧ k = 0)) (h2 : ¬ (k = D 90 0 ∧ (f = 20 ∨ f = 26 ∨ f = 22 ∨ f = 23 ∨ f = 25 ∨ f = 27 ∨ f = 28 ∨ f = 29 ∨ f = 30 ∨ f = 41))) (h3 : ¬ (f = 40 ∧ 6 * D 90 0 ≤ k ∧ k < 6 * D 90 0 + 6)) (h4 : ¬ (f = 42 ∧ 30 * D 90 0 ≤ k ∧ k < 30 * D 90 0 + 30)) : dNq D lv f k = D f k := by
  unfold dNq
  rw [if_neg h1, if_neg (by omega), if_neg (by omega), if_neg (by omega), if_neg (by omega), if_neg (by omega), if_neg h3, if_neg h4]
theorem DR.newQ {h h' : AH} {A : AD} {D : MS} {N U a0 a1 a2 : Nat} {lv : Int} (H : DR h A D N U) (hn : D 90 0 ≤ 39) (hr : 0 ≤ D 1 0 ∧ D 1 0 ≤ 6) (hlv : 0 ≤ lv ∧ lv ≤ 100) (E : Ext (h_n h) h h') (e0 : a0 = h_n h) (e1 : a1 = h_n h + 1) (e2 : a2 = h_n h + 2) (en : h_n h' = h_n h + 3) (eu : h_u h' ≤ h_u h + 200) (hN : N + 200 ≤ z_CC) (hU : U + 5000 ≤ z_CS)
    (kb : ∀ q, h_n h + 3 ≤ q → h_k h' q = 0) (k0 : h_k h' a0 = 7) (k1 : h_k h' a1 = 22) (k2 : h_k h' a2 = 23) (l1 : (h_l h' a1 : Int) = D 1 0) (l2 : h_l h' a2 = 30) (r1 : h_r h' a0 1 = a1) (r4 : h_r h' a0 4 = a2)
    (i0 : h_i h' a0 0 = D 90 0) (i2 : h_i h' a0 2 = lv) (i3 : h_i h' a0 3 = lv) (i5 : h_i h' a0 5 = 0) (i6 : h_i h' a0 6 = D 90 0) (i7 : h_i h' a0 7 = 0) (i8 : h_i h' a0 8 = 0) (i9 : h_i h' a0 9 = 0) (i10 : h_i h' a0 10 = -1) (iw : ∀ k : Nat, (k : Int) < D 1 0 → h_i h' a1 k = D 0 k) (ib : ∀ k : Nat, k < 30 → h_i h' a2 k = 0) : DR h' (aNq A D a0 a1 a2) (dNq D lv) (N + 4) (U + 200) := by
  obtain ⟨tg, bw, cp, bt, ct, b0, bA, bS, bN, bL, bT, bB⟩ := H
  obtain ⟨b1, b2, b3, b4, b5⟩ := id b0
  have e90 : dNq D lv 90 0 = D 90 0 + 1 := if_pos ⟨rfl, rfl⟩
  have e91 : dNq D lv 91 0 = D 91 0 := dNq_d (by omega) (by omega) (by omega) (by omega)
  have e92 : dNq D lv 92 0 = D 92 0 := dNq_d (by omega) (by omega) (by omega) (by omega)
  have e62 : ∀ k, dNq D lv 62 k = D 62 k := fun k => dNq_d (by omega) (by omega) (by omega) (by omega)
  have aold : ∀ f i, ¬ (i = D 90 0 ∧ f ≤ 2) → aNq A D a0 a1 a2 f i = A f i := fun f i w => by
    unfold aNq
    rw [if_neg (by omega), if_neg (by omega), if_neg (by omega)]
  have o : dOld D (dNq D lv) A (aNq A D a0 a1 a2) := by
    refine ⟨fun F t v => ?_, fun f i v => aold f i (fun w => ?_), fun f k v => ?_, fun l v => ⟨dNq_d (by omega) (by omega) (by omega) (by omega), fun k _ _ => dNq_d (by omega) (by omega) (by omega) (by omega)⟩, dNq_d (by omega) (by omega) (by omega) (by omega), fun k => dNq_d (by omega) (by omega) (by omega) (by omega), by omega, by omega, by omega⟩
    · unfold vF at v
      exact dNq_d (by omega) (by omega) (by omega) (by omega)
    · unfold vA at v
      omega
    · exact dNq_d (by omega) (by omega) (by omega) (by omega)
  have hvL : ∀ l, vL (dNq D lv) l ↔ vL D l := fun l => by
    unfold vL
    rw [e91, e92]
  have tlt : ∀ q, q < h_n h → (if q = a0 then ((0 : Nat), D 90 0) else if q = a1 then (1, D 90 0) else if q = a2 then (2, D 90 0) else tg q) = tg q := fun q hq => by
    rw [if_neg (by omega), if_neg (by omega), if_neg (by omega)]
  obtain ⟨o1, o2, o3, o4, o5, o6, o7, o8⟩ := DR.old (tg2 := fun q => if q = a0 then (0, D 90 0) else if q = a1 then (1, D 90 0) else if q = a2 then (2, D 90 0) else tg q) b0 bA bS bN bL bT E o tlt
  have w0 : aNq A D a0 a1 a2 0 (D 90 0) = a0 := if_pos ⟨rfl, rfl⟩
  have w1 : aNq A D a0 a1 a2 1 (D 90 0) = a1 := (if_neg (by omega)).trans (if_pos ⟨rfl, rfl⟩)
  have w2 : aNq A D a0 a1 a2 2 (D 90 0) = a2 := (if_neg (by omega)).trans ((if_neg (by omega)).trans (if_pos ⟨rfl, rfl⟩))
  have hvA : ∀ f i, vA (dNq D lv) f i → vA D f i ∨ (f ≤ 2 ∧ i = D 90 0) := fun f i v => by
    have := (hvL i).mp
    unfold vA at v ⊢
    rw [e90, e91, e92] at v
    rcases v with v | v | v | v | v
    · by_cases e : i = D 90 0
      · exact Or.inr ⟨v.1, e⟩
      · exact Or.inl (Or.inl (by omega))
    · exact Or.inl (Or.inr (Or.inl v))
    · exact Or.inl (Or.inr (Or.inr (Or.inl v)))
    · exact Or.inl (Or.inr (Or.inr (Or.inr (Or.inl ⟨v.1, this v.2⟩))))
    · exact Or.inl (Or.inr (Or.inr (Or.inr (Or.inr v))))
  refine ⟨_, bw, cp, bt, ct, ⟨fun q hq => ?_, by omega, ?_, ?_, ?_⟩, fun f i v => ?_, ⟨o2.1, o2.2, fun q hq => ?_, fun p hp => ?_, fun s hs => ?_⟩, fun F t v => ?_, fun l v => o7 l ((hvL l).mp v), o8, ?_⟩
  · by_cases w : q < h_n h
    · rw [(E q w).1] at hq
      have := b1 q hq
      omega
    · by_cases w2 : h_n h + 3 ≤ q
      · exact absurd (kb q w2) hq
      · omega
  · rw [e90, e91, e92]
    omega
  · intro f k
    unfold dNq
    have := b4 f k
    have := b4 0 (k - 6 * D 90 0)
    unfold inR at *
    (repeat' split) <;> omega
  · obtain ⟨x1, x2, x3, x4, x5, x6, x7, x8, x9⟩ := b5
    unfold DF
    rw [aold 8 0 (by omega), aold 9 0 (by omega), aold 10 0 (by omega), aold 6 45 (by omega), aold 6 0 (by omega), aold 6 46 (by omega), aold 6 47 (by omega), aold 6 1 (by omega), aold 6 2 (by omega)]
    exact ⟨x1, x2, x3, x4, x5, x6, x7, x8, x9⟩
  · rcases hvA f i v with q | ⟨q, rfl⟩
    · obtain ⟨y1, y2, y3, -⟩ := o1 f i q
      exact ⟨y1, y2, y3⟩
    · have : f = 0 ∨ f = 1 ∨ f = 2 := by omega
      rcases this with rfl | rfl | rfl
      · rw [w0]
        exact ⟨k0, if_pos rfl, by omega⟩
      · rw [w1]
        exact ⟨k1, (if_neg (by omega)).trans (if_pos rfl), by omega⟩
      · rw [w2]
        exact ⟨k2, (if_neg (by omega)).trans ((if_neg (by omega)).trans (if_pos rfl)), by omega⟩
  · rw [e90] at hq
    by_cases e : q = D 90 0
    · subst e
      have e41 : dNq D lv 41 (D 90 0) = D 1 0 := by
        unfold dNq
        rw [if_neg (by omega), if_neg (by omega), if_neg (by omega), if_neg (by omega), if_neg (by omega), if_pos ⟨rfl, rfl⟩]
      rw [w0, w1, w2, e41]
      exact ⟨r1, r4, l1, by omega, l2⟩
    · exact o3 q (by omega)
  · rw [e91] at hp
    exact o4 p hp
  · rw [e92] at hs
    exact o5 s hs
  · by_cases w : vF D F t
    · exact o6 F t w
    · unfold vF at v w
      rw [e90, e91, e92] at v
      simp only [e62] at v
      have e41 : ∀ k, k ≠ D 90 0 → dNq D lv 41 k = D 41 k := fun k hk => dNq_d (by omega) (by omega) (by omega) (by omega)
      rcases v with v | v | ⟨v, v2⟩ | ⟨v, v2, v3, v4⟩ | ⟨v, v2, v3⟩ | v | v | v
      · exact absurd (Or.inl v) w
      · exact absurd (Or.inr (Or.inl v)) w
      · have et : t = D 90 0 := by omega
        subst et
        rcases v with rfl | rfl | rfl | rfl | rfl | rfl | rfl | rfl | rfl
        · show h_i h' (aNq A D a0 a1 a2 0 (D 90 0)) 0 = _
          rw [w0, i0]; simp [dNq]
        · show h_i h' (aNq A D a0 a1 a2 0 (D 90 0)) 2 = _
          rw [w0, i2]; simp [dNq]
        · show h_i h' (aNq A D a0 a1 a2 0 (D 90 0)) 3 = _
          rw [w0, i3]; simp [dNq]
        · show h_i h' (aNq A D a0 a1 a2 0 (D 90 0)) 5 = _
          rw [w0, i5]; simp [dNq]
        · show h_i h' (aNq A D a0 a1 a2 0 (D 90 0)) 6 = _
          rw [w0, i6]; simp [dNq]
        · show h_i h' (aNq A D a0 a1 a2 0 (D 90 0)) 7 = _
          rw [w0, i7]; simp [dNq]
        · show h_i h' (aNq A D a0 a1 a2 0 (D 90 0)) 8 = _
          rw [w0, i8]; simp [dNq]
        · show h_i h' (aNq A D a0 a1 a2 0 (D 90 0)) 9 = _
          rw [w0, i9]; simp [dNq]
        · show h_i h' (aNq A D a0 a1 a2 0 (D 90 0)) 10 = _
          rw [w0, i10]; simp [dNq]
      · subst v
        have et : t / 6 = D 90 0 := by
          by_cases et : t / 6 = D 90 0
          · exact et
          · rw [e41 _ et] at v4
            exact absurd (Or.inr (Or.inr (Or.inr (Or.inl ⟨rfl, v2, by omega, v4⟩)))) w
        have e41n : dNq D lv 41 (D 90 0) = D 1 0 := by
          unfold dNq
          rw [if_neg (by omega), if_neg (by omega), if_neg (by omega), if_neg (by omega), if_neg (by omega), if_pos ⟨rfl, rfl⟩]
        rw [et, e41n] at v4
        show h_i h' (aNq A D a0 a1 a2 1 (t / 6)) (t % 6).toNat = _
        rw [et, w1, iw _ (by omega)]
        unfold dNq
        rw [if_neg (by omega), if_neg (by omega), if_neg (by omega), if_neg (by omega), if_neg (by omega), if_neg (by omega), if_pos ⟨rfl, by omega, by omega⟩]
        congr 1
        omega
      · subst v
        have et : t / 30 = D 90 0 := by omega
        show h_i h' (aNq A D a0 a1 a2 2 (t / 30)) (t % 30).toNat = _
        rw [et, w2, ib _ (by omega)]
        unfold dNq
        rw [if_neg (by omega), if_neg (by omega), if_neg (by omega), if_neg (by omega), if_neg (by omega), if_neg (by omega), if_neg (by omega), if_pos ⟨rfl, by omega, by omega⟩]
      · exact absurd (Or.inr (Or.inr (Or.inr (Or.inr (Or.inr (Or.inl v)))))) w
      · exact absurd (Or.inr (Or.inr (Or.inr (Or.inr (Or.inr (Or.inr (Or.inl v))))))) w
      · exact absurd (Or.inr (Or.inr (Or.inr (Or.inr (Or.inr (Or.inr (Or.inr v))))))) w
  · obtain ⟨c1, c2, c3, c4, c5⟩ := bB
    exact ⟨fun l q => c1 l (fun w => q ((hvL l).mpr w)), by omega, by omega, by omega, by omega⟩

def dMp (D : MS) (w kd n : Int) : MS := fun f k =>
  if f = 91 ∧ k = 0 then D 91 0 + 1 else if k = D 91 0 ∧ f = 50 then w else if k = D 91 0 ∧ f = 51 then kd else if k = D 91 0 ∧ f = 52 then n else if k = D 91 0 ∧ f = 54 then 0 else if f = 70 ∧ k = 3 + D 91 0 then 0 else D f k
def aMp (A : AD) (D : MS) (a0 a1 : Nat) : AD := fun f i => if i = D 91 0 ∧ f = 3 then a0 else if i = 3 + D 91 0 ∧ f = 6 then a1 else A f i
theorem dMp_d {D : MS} {w kd n : Int} {f : Nat} {k : Int} (h1 : ¬ (f = 91 ∧ k = 0)) (h2 : ¬ (k = D 91 0 ∧ (f = 50 ∨ f = 51 ∨ f = 52 ∨ f = 54))) (h3 : ¬ (f = 70 ∧ k = 3 + D 91 0)) : dMp D w kd n f k = D f k := by
  unfold dMp
  rw [if_neg h1, if_neg (by omega), if_neg (by omega), if_neg (by omega), if_neg (by omega), if_neg h3]
theorem DR.newP {h h' : AH} {A : AD} {D : MS} {N U a0 a1 : Nat} {w kd n : Int} (H : DR h A D N U) (hn : D 91 0 ≤ 11) (hw : 0 ≤ w ∧ w ≤ 999) (hk : 0 ≤ kd ∧ kd ≤ 65535) (hm : 0 ≤ n ∧ n ≤ 9) (E : Ext (h_n h) h h') (e0 : a0 = h_n h) (e1 : a1 = h_n h + 1) (en : h_n h' = h_n h + 2) (eu : h_u h' ≤ h_u h + 200) (hN : N + 200 ≤ z_CC) (hU : U + 5000 ≤ z_CS)
    (kb : ∀ q, h_n h + 2 ≤ q → h_k h' q = 0) (k0 : h_k h' a0 = 6) (k1 : h_k h' a1 = 5) (r3 : h_r h' a0 3 = a1) (r1 : h_r h' a1 1 = 1) (i2 : h_i h' a1 2 = 0)
    (j0 : h_i h' a0 0 = w) (j1 : h_i h' a0 1 = kd) (j2 : h_i h' a0 2 = n) (j4 : h_i h' a0 4 = 0) : DR h' (aMp A D a0 a1) (dMp D w kd n) (N + 4) (U + 200) := by
  obtain ⟨tg, bw, cp, bt, ct, b0, bA, bS, bN, bL, bT, bB⟩ := H
  obtain ⟨b1, b2, b3, b4, b5⟩ := id b0
  have e90 : dMp D w kd n 90 0 = D 90 0 := dMp_d (by omega) (by omega) (by omega)
  have e91 : dMp D w kd n 91 0 = D 91 0 + 1 := if_pos ⟨rfl, rfl⟩
  have e92 : dMp D w kd n 92 0 = D 92 0 := dMp_d (by omega) (by omega) (by omega)
  have e62 : ∀ k, dMp D w kd n 62 k = D 62 k := fun k => dMp_d (by omega) (by omega) (by omega)
  have e41 : ∀ k, dMp D w kd n 41 k = D 41 k := fun k => dMp_d (by omega) (by omega) (by omega)
  have e71 : ∀ k, dMp D w kd n 71 k = D 71 k := fun k => dMp_d (by omega) (by omega) (by omega)
  have e70 : dMp D w kd n 70 (3 + D 91 0) = 0 := by
    unfold dMp
    rw [if_neg (by omega), if_neg (by omega), if_neg (by omega), if_neg (by omega), if_neg (by omega), if_pos ⟨rfl, rfl⟩]
  have aold : ∀ f i, ¬ (i = D 91 0 ∧ f = 3) → ¬ (i = 3 + D 91 0 ∧ f = 6) → aMp A D a0 a1 f i = A f i := fun f i x y => by
    unfold aMp
    rw [if_neg x, if_neg y]
  have o : dOld D (dMp D w kd n) A (aMp A D a0 a1) := by
    refine ⟨fun F t v => ?_, fun f i v => ?_, fun f k v => ?_, fun l v => ⟨?_, fun k _ _ => e71 _⟩, dMp_d (by omega) (by omega) (by omega), fun k => dMp_d (by omega) (by omega) (by omega), by omega, by omega, by omega⟩
    · unfold vF at v
      exact dMp_d (by omega) (by omega) (by omega)
    · unfold vA vL at v
      exact aold f i (by omega) (by omega)
    · exact dMp_d (by omega) (by omega) (by omega)
    · unfold vL at v
      exact dMp_d (by omega) (by omega) (by omega)
  have hvL : ∀ l, vL (dMp D w kd n) l → vL D l ∨ l = 3 + D 91 0 := fun l => by
    unfold vL
    rw [e91, e92]
    omega
  have hvL2 : vL (dMp D w kd n) (3 + D 91 0) := by
    unfold vL
    rw [e91, e92]
    omega
  have nvL : ¬ vL D (3 + D 91 0) := by
    unfold vL
    omega
  have tlt : ∀ q, q < h_n h → (if q = a0 then ((3 : Nat), D 91 0) else if q = a1 then (6, 3 + D 91 0) else tg q) = tg q := fun q hq => by
    rw [if_neg (by omega), if_neg (by omega)]
  obtain ⟨o1, o2, o3, o4, o5, o6, o7, o8⟩ := DR.old (tg2 := fun q => if q = a0 then (3, D 91 0) else if q = a1 then (6, 3 + D 91 0) else tg q) b0 bA bS bN bL bT E o tlt
  have w0 : aMp A D a0 a1 3 (D 91 0) = a0 := if_pos ⟨rfl, rfl⟩
  have w1 : aMp A D a0 a1 6 (3 + D 91 0) = a1 := (if_neg (by omega)).trans (if_pos ⟨rfl, rfl⟩)
  have hvA : ∀ f i, vA (dMp D w kd n) f i → vA D f i ∨ (f = 3 ∧ i = D 91 0) ∨ (f = 6 ∧ i = 3 + D 91 0) := fun f i v => by
    have := hvL i
    unfold vA at v ⊢
    rw [e90, e91, e92] at v
    rcases v with v | v | v | v | v
    · exact Or.inl (Or.inl v)
    · by_cases e : i = D 91 0
      · exact Or.inr (Or.inl ⟨v.1, e⟩)
      · exact Or.inl (Or.inr (Or.inl (by omega)))
    · exact Or.inl (Or.inr (Or.inr (Or.inl v)))
    · rcases this v.2 with q | q
      · exact Or.inl (Or.inr (Or.inr (Or.inr (Or.inl ⟨v.1, q⟩))))
      · exact Or.inr (Or.inr ⟨v.1, q⟩)
    · exact Or.inl (Or.inr (Or.inr (Or.inr (Or.inr v))))
  refine ⟨_, fun l => if l = 3 + D 91 0 then 1 else bw l, cp, bt, ct, ⟨fun q hq => ?_, by omega, ?_, ?_, ?_⟩, fun f i v => ?_, ⟨o2.1, o2.2, fun q hq => ?_, fun p hp => ?_, fun s hs => ?_⟩, fun F t v => ?_, fun l v => ?_, o8, ?_⟩
  · by_cases x : q < h_n h
    · rw [(E q x).1] at hq
      have := b1 q hq
      omega
    · by_cases x2 : h_n h + 2 ≤ q
      · exact absurd (kb q x2) hq
      · omega
  · rw [e90, e91, e92]
    omega
  · intro f k
    unfold dMp
    have := b4 f k
    unfold inR at *
    (repeat' split) <;> omega
  · obtain ⟨x1, x2, x3, x4, x5, x6, x7, x8, x9⟩ := b5
    unfold DF
    rw [aold 8 0 (by omega) (by omega), aold 9 0 (by omega) (by omega), aold 10 0 (by omega) (by omega), aold 6 45 (by omega) (by omega), aold 6 0 (by omega) (by omega), aold 6 46 (by omega) (by omega), aold 6 47 (by omega) (by omega), aold 6 1 (by omega) (by omega), aold 6 2 (by omega) (by omega)]
    exact ⟨x1, x2, x3, x4, x5, x6, x7, x8, x9⟩
  · rcases hvA f i v with q | ⟨rfl, rfl⟩ | ⟨rfl, rfl⟩
    · obtain ⟨y1, y2, y3, -⟩ := o1 f i q
      exact ⟨y1, y2, y3⟩
    · rw [w0]
      exact ⟨k0, if_pos rfl, by omega⟩
    · rw [w1]
      exact ⟨k1, (if_neg (by omega)).trans (if_pos rfl), by omega⟩
  · rw [e90] at hq
    exact o3 q hq
  · rw [e91] at hp
    by_cases e : p = D 91 0
    · subst e
      rw [w0, w1]
      exact r3
    · exact o4 p (by omega)
  · rw [e92] at hs
    exact o5 s hs
  · by_cases x : vF D F t
    · exact o6 F t x
    · unfold vF at v x
      rw [e90, e91, e92] at v
      simp only [e62, e41] at v
      rcases v with v | v | v | v | v | ⟨v, v2⟩ | v | v
      · exact absurd (Or.inl v) x
      · exact absurd (Or.inr (Or.inl v)) x
      · exact absurd (Or.inr (Or.inr (Or.inl v))) x
      · exact absurd (Or.inr (Or.inr (Or.inr (Or.inl v)))) x
      · exact absurd (Or.inr (Or.inr (Or.inr (Or.inr (Or.inl v))))) x
      · have et : t = D 91 0 := by omega
        subst et
        rcases v with rfl | rfl | rfl | rfl
        · show h_i h' (aMp A D a0 a1 3 (D 91 0)) 0 = _
          rw [w0, j0]; simp [dMp]
        · show h_i h' (aMp A D a0 a1 3 (D 91 0)) 1 = _
          rw [w0, j1]; simp [dMp]
        · show h_i h' (aMp A D a0 a1 3 (D 91 0)) 2 = _
          rw [w0, j2]; simp [dMp]
        · show h_i h' (aMp A D a0 a1 3 (D 91 0)) 4 = _
          rw [w0, j4]; simp [dMp]
      · exact absurd (Or.inr (Or.inr (Or.inr (Or.inr (Or.inr (Or.inr (Or.inl v))))))) x
      · exact absurd (Or.inr (Or.inr (Or.inr (Or.inr (Or.inr (Or.inr (Or.inr v))))))) x
  · obtain ⟨c1, -⟩ := bB
    rcases hvL l v with q | rfl
    · have ne : l ≠ 3 + D 91 0 := fun e => nvL (by rw [← e]; exact q)
      simp only [if_neg ne]
      exact o7 l q
    · have c0 := c1 _ nvL
      simp only [if_true]
      rw [w1, e70, c0]
      exact ⟨⟨k1, r1, i2, by omega, fun _ => rfl, fun x => absurd rfl x, fun k hk => by omega⟩, by omega, fun x => absurd rfl x, fun k a b => by omega⟩
  · obtain ⟨c1, c2, c3, c4, c5⟩ := bB
    exact ⟨fun l q => c1 l (fun x => q (o.L x)), by omega, by omega, by omega, by omega⟩
def dMs (D : MS) (l : Int) : MS := fun f k =>
  if f = 92 ∧ k = 0 then D 92 0 + 1 else if k = D 92 0 ∧ f = 60 then 115 else if k = D 92 0 ∧ f = 62 then D 70 l else if f = 61 ∧ 27 * D 92 0 ≤ k ∧ k < 27 * D 92 0 + 27 then 0 else if f = 70 ∧ k = 15 + D 92 0 then D 70 l else if f = 71 ∧ 40 * (15 + D 92 0) ≤ k ∧ k < 40 * (15 + D 92 0) + 40 then D 71 (40 * l + (k - 40 * (15 + D 92 0))) else D f k
def aMs (A : AD) (D : MS) (a0 a1 a2 : Nat) : AD := fun f i => if i = D 92 0 ∧ f = 4 then a0 else if i = 15 + D 92 0 ∧ f = 6 then a1 else if i = D 92 0 ∧ f = 5 then a2 else A f i
theorem dMs_d {D : MS} {l : Int} {f : Nat} {k : Int} (h1 : ¬ (f = 92 ∧ k = 0)) (h2 : ¬ (k = D 92 0 ∧ (f = 60 ∨ f = 62))) (h3 : ¬ (f = 61 ∧ 27 * D 92 0 ≤ k ∧ k < 27 * D 92 0 + 27)) (h4 : ¬ (f = 70 ∧ k = 15 + D 92 0)) (h5 : ¬ (f = 71 ∧ 40 * (15 + D 92 0) ≤ k ∧ k < 40 * (15 + D 92 0) + 40)) : dMs D l f k = D f k := by
  unfold dMs
  rw [if_neg h1, if_neg (by omega), if_neg (by omega), if_neg h3, if_neg h4, if_neg h5]
theorem DR.newS {h h' : AH} {A : AD} {D : MS} {N U a0 a1 a2 b C : Nat} {l : Int} (H : DR h A D N U) (hn : D 92 0 ≤ 29) (hv : vL D l) (hl : l ≠ 46 ∧ l ≠ 47) (h27 : D 70 l ≤ 27) (E : Ext (h_n h) h h') (e0 : h_n h ≤ a0) (e1 : h_n h ≤ a1) (e2 : h_n h ≤ a2) (en : h_n h' ≤ h_n h + 3 + C) (en2 : h_n h ≤ h_n h') (eu : h_u h' ≤ h_u h + 40 + 4 * C) (hN : N + 200 ≤ z_CC) (hU : U + 5000 ≤ z_CS) (hC : C ≤ 60)
    (kb : ∀ q, h_k h' q ≠ 0 → q < h_n h') (k0 : h_k h' a0 = 8) (k1 : h_k h' a1 = 5) (k2 : h_k h' a2 = 23) (r0 : h_r h' a0 0 = a1) (r1 : h_r h' a0 1 = a2) (j2 : h_i h' a0 2 = 115) (l2 : (h_l h' a2 : Int) = D 70 l) (ib : ∀ k : Nat, k < 27 → h_i h' a2 k = 0)
    (hL : LR h' a1 (D 70 l) b C (fun k => A 0 (D 71 (40 * l + k)))) (hb : C ≠ 0 → h_n h ≤ b) : DR h' (aMs A D a0 a1 a2) (dMs D l) (N + 4) (U + 200) := by
  have hle := (H.le hv).2
  obtain ⟨tg, bw, cp, bt, ct, b0, bA, bS, bN, bL, bT, bB⟩ := H
  obtain ⟨b1, b2, b3, b4, b5⟩ := id b0
  have e90 : dMs D l 90 0 = D 90 0 := dMs_d (by omega) (by omega) (by omega) (by omega) (by omega)
  have e91 : dMs D l 91 0 = D 91 0 := dMs_d (by omega) (by omega) (by omega) (by omega) (by omega)
  have e92 : dMs D l 92 0 = D 92 0 + 1 := if_pos ⟨rfl, rfl⟩
  have e41 : ∀ k, dMs D l 41 k = D 41 k := fun k => dMs_d (by omega) (by omega) (by omega) (by omega) (by omega)
  have e62 : ∀ k, k ≠ D 92 0 → dMs D l 62 k = D 62 k := fun k hk => dMs_d (by omega) (by omega) (by omega) (by omega) (by omega)
  have e62n : dMs D l 62 (D 92 0) = D 70 l := by
    unfold dMs
    rw [if_neg (by omega), if_neg (by omega), if_pos ⟨rfl, rfl⟩]
  have e70n : dMs D l 70 (15 + D 92 0) = D 70 l := by
    unfold dMs
    rw [if_neg (by omega), if_neg (by omega), if_neg (by omega), if_neg (by omega), if_pos ⟨rfl, rfl⟩]
  have e71n : ∀ k, 0 ≤ k → k < 40 → dMs D l 71 (40 * (15 + D 92 0) + k) = D 71 (40 * l + k) := fun k x y => by
    unfold dMs
    rw [if_neg (by omega), if_neg (by omega), if_neg (by omega), if_neg (by omega), if_neg (by omega), if_pos ⟨rfl, by omega, by omega⟩]
    congr 1
    omega
  have aold : ∀ f i, ¬ (i = D 92 0 ∧ (f = 4 ∨ f = 5)) → ¬ (i = 15 + D 92 0 ∧ f = 6) → aMs A D a0 a1 a2 f i = A f i := fun f i x y => by
    unfold aMs
    rw [if_neg (by omega), if_neg y, if_neg (by omega)]
  have o : dOld D (dMs D l) A (aMs A D a0 a1 a2) := by
    refine ⟨fun F t v => ?_, fun f i v => ?_, fun f k v => ?_, fun q v => ⟨?_, fun k x y => ?_⟩, dMs_d (by omega) (by omega) (by omega) (by omega) (by omega), fun k => dMs_d (by omega) (by omega) (by omega) (by omega) (by omega), by omega, by omega, by omega⟩
    · unfold vF at v
      exact dMs_d (by omega) (by omega) (by omega) (by omega) (by omega)
    · unfold vA vL at v
      exact aold f i (by omega) (by omega)
    · exact dMs_d (by omega) (by omega) (by omega) (by omega) (by omega)
    · unfold vL at v
      exact dMs_d (by omega) (by omega) (by omega) (by omega) (by omega)
    · unfold vL at v
      exact dMs_d (by omega) (by omega) (by omega) (by omega) (by omega)
  have hvL : ∀ q, vL (dMs D l) q → vL D q ∨ q = 15 + D 92 0 := fun q => by
    unfold vL
    rw [e91, e92]
    omega
  have nvL : ¬ vL D (15 + D 92 0) := by
    unfold vL
    omega
  have hbb : C ≠ 0 → h_n h ≤ b ∧ b ≠ a0 ∧ b ≠ a1 ∧ b ≠ a2 := fun c0 => by
    have kk := (hL.2.2.2.2.2.1 c0).1
    refine ⟨hb c0, fun e => ?_, fun e => ?_, fun e => ?_⟩
    · rw [e, k0] at kk; omega
    · rw [e, k1] at kk; omega
    · rw [e, k2] at kk; omega
  have ha : a0 ≠ a1 ∧ a0 ≠ a2 ∧ a1 ≠ a2 := ⟨fun e => by rw [e, k1] at k0; omega, fun e => by rw [e, k2] at k0; omega, fun e => by rw [e, k2] at k1; omega⟩
  have tlt : ∀ q, q < h_n h → (if q = a0 then ((4 : Nat), D 92 0) else if q = a1 then (6, 15 + D 92 0) else if q = a2 then (5, D 92 0) else if q = b ∧ C ≠ 0 then (7, 15 + D 92 0) else tg q) = tg q := fun q hq => by
    rw [if_neg (by omega), if_neg (by omega), if_neg (by omega), if_neg (fun w => by have := (hbb w.2).1; omega)]
  obtain ⟨o1, o2, o3, o4, o5, o6, o7, o8⟩ := DR.old (tg2 := fun q => if q = a0 then (4, D 92 0) else if q = a1 then (6, 15 + D 92 0) else if q = a2 then (5, D 92 0) else if q = b ∧ C ≠ 0 then (7, 15 + D 92 0) else tg q) b0 bA bS bN bL bT E o tlt
  have w0 : aMs A D a0 a1 a2 4 (D 92 0) = a0 := if_pos ⟨rfl, rfl⟩
  have w1 : aMs A D a0 a1 a2 6 (15 + D 92 0) = a1 := (if_neg (by omega)).trans (if_pos ⟨rfl, rfl⟩)
  have w2 : aMs A D a0 a1 a2 5 (D 92 0) = a2 := (if_neg (by omega)).trans ((if_neg (by omega)).trans (if_pos ⟨rfl, rfl⟩))
  have hvA : ∀ f i, vA (dMs D l) f i → vA D f i ∨ (f = 4 ∧ i = D 92 0) ∨ (f = 6 ∧ i = 15 + D 92 0) ∨ (f = 5 ∧ i = D 92 0) := fun f i v => by
    have := hvL i
    unfold vA at v ⊢
    rw [e90, e91, e92] at v
    rcases v with v | v | v | v | v
    · exact Or.inl (Or.inl v)
    · exact Or.inl (Or.inr (Or.inl v))
    · by_cases e : i = D 92 0
      · rcases v.1 with rfl | rfl
        · exact Or.inr (Or.inl ⟨rfl, e⟩)
        · exact Or.inr (Or.inr (Or.inr ⟨rfl, e⟩))
      · exact Or.inl (Or.inr (Or.inr (Or.inl ⟨v.1, by omega⟩)))
    · rcases this v.2 with q | q
      · exact Or.inl (Or.inr (Or.inr (Or.inr (Or.inl ⟨v.1, q⟩))))
      · exact Or.inr (Or.inr (Or.inl ⟨v.1, q⟩))
    · exact Or.inl (Or.inr (Or.inr (Or.inr (Or.inr v))))
  refine ⟨_, fun q => if q = 15 + D 92 0 then b else bw q, fun q => if q = 15 + D 92 0 then C else cp q, bt, ct, ⟨fun q hq => ?_, by omega, ?_, ?_, ?_⟩, fun f i v => ?_, ⟨o2.1, o2.2, fun q hq => ?_, fun p hp => ?_, fun s hs => ?_⟩, fun F t v => ?_, fun q v => ?_, o8, ?_⟩
  · by_cases x : q < h_n h
    · rw [(E q x).1] at hq
      have := b1 q hq
      omega
    · have := kb q hq
      omega
  · rw [e90, e91, e92]
    omega
  · intro f k
    unfold dMs
    have := b4 f k
    have := b4 71 (40 * l + (k - 40 * (15 + D 92 0)))
    have := b4 70 l
    unfold inR at *
    (repeat' split) <;> omega
  · obtain ⟨x1, x2, x3, x4, x5, x6, x7, x8, x9⟩ := b5
    unfold DF
    rw [aold 8 0 (by omega) (by omega), aold 9 0 (by omega) (by omega), aold 10 0 (by omega) (by omega), aold 6 45 (by omega) (by omega), aold 6 0 (by omega) (by omega), aold 6 46 (by omega) (by omega), aold 6 47 (by omega) (by omega), aold 6 1 (by omega) (by omega), aold 6 2 (by omega) (by omega)]
    exact ⟨x1, x2, x3, x4, x5, x6, x7, x8, x9⟩
  · rcases hvA f i v with q | ⟨rfl, rfl⟩ | ⟨rfl, rfl⟩ | ⟨rfl, rfl⟩
    · obtain ⟨y1, y2, y3, -⟩ := o1 f i q
      exact ⟨y1, y2, y3⟩
    · rw [w0]
      exact ⟨k0, if_pos rfl, by omega⟩
    · rw [w1]
      exact ⟨k1, (if_neg (by omega)).trans (if_pos rfl), by omega⟩
    · rw [w2]
      exact ⟨k2, (if_neg (by omega)).trans ((if_neg (by omega)).trans (if_pos rfl)), by omega⟩
  · rw [e90] at hq
    exact o3 q hq
  · rw [e91] at hp
    exact o4 p hp
  · rw [e92] at hs
    by_cases e : s = D 92 0
    · subst e
      rw [w0, w1, w2, e62n]
      exact ⟨r0, r1, l2, by omega⟩
    · exact o5 s (by omega)
  · by_cases x : vF D F t
    · exact o6 F t x
    · unfold vF at v x
      rw [e90, e91, e92] at v
      simp only [e41] at v
      rcases v with v | v | v | v | v | v | ⟨v, v2⟩ | ⟨v, v2, v3, v4⟩
      · exact absurd (Or.inl v) x
      · exact absurd (Or.inr (Or.inl v)) x
      · exact absurd (Or.inr (Or.inr (Or.inl v))) x
      · exact absurd (Or.inr (Or.inr (Or.inr (Or.inl v)))) x
      · exact absurd (Or.inr (Or.inr (Or.inr (Or.inr (Or.inl v))))) x
      · exact absurd (Or.inr (Or.inr (Or.inr (Or.inr (Or.inr (Or.inl v)))))) x
      · have et : t = D 92 0 := by omega
        subst et
        subst v
        show h_i h' (aMs A D a0 a1 a2 4 (D 92 0)) 2 = _
        rw [w0, j2]; simp [dMs]
      · subst v
        have et : t / 27 = D 92 0 := by
          by_cases et : t / 27 = D 92 0
          · exact et
          · rw [e62 _ et] at v4
            exact absurd (Or.inr (Or.inr (Or.inr (Or.inr (Or.inr (Or.inr (Or.inr ⟨rfl, v2, by omega, v4⟩))))))) x
        show h_i h' (aMs A D a0 a1 a2 5 (t / 27)) (t % 27).toNat = _
        rw [et, w2, ib _ (by omega)]
        unfold dMs
        rw [if_neg (by omega), if_neg (by omega), if_neg (by omega), if_pos ⟨rfl, by omega, by omega⟩]
  · rcases hvL q v with w | rfl
    · have ne : q ≠ 15 + D 92 0 := fun e => nvL (by rw [← e]; exact w)
      simp only [if_neg ne]
      exact o7 q w
    · simp only [if_true]
      rw [w1, e70n]
      obtain ⟨m1, m2, m3, m4, m5, m6, m7⟩ := hL
      refine ⟨⟨m1, m2, m3, m4, m5, m6, fun k hk => ?_⟩, ⟨hC, by omega⟩, fun c0 => ⟨?_, ?_⟩, fun k x y => ?_⟩
      · rw [m7 k hk]
        show A 0 (D 71 (40 * l + k)) = eA _ _ (dMs D l 71 (40 * (15 + D 92 0) + k))
        rw [e71n k (by omega) (by omega), eAq (by omega)]
        have := (vEq hl).mp (hle k (by omega) hk)
        exact (aold 0 _ (by omega) (by omega)).symm
      · obtain ⟨y1, y2, y3, y4⟩ := hbb c0
        rw [if_neg y2, if_neg y3, if_neg y4, if_pos ⟨trivial, c0⟩]
      · have := (hbb c0).1
        omega
      · rw [e71n k x (by omega)]
        have := (vEq hl).mp (hle k x y)
        exact (vEq (by omega)).mpr (by rw [e90]; exact this)
  · obtain ⟨c1, c2, c3, c4, c5⟩ := bB
    have c0 := c1 _ nvL
    have hS := sm_up (f := fun q => 60 - cp q) (l := 15 + D 92 0) (v := 60 - C) (n := 48) (by omega)
    have eS : sm (fun q => 60 - (if q = 15 + D 92 0 then C else cp q)) 48 = sm (fun q => if q = 15 + D 92 0 then 60 - C else 60 - cp q) 48 := by
      congr 1
      funext q
      split <;> rfl
    unfold DB
    rw [eS]
    simp only [c0] at hS
    refine ⟨fun q w => ?_, by omega, by omega, by omega, by omega⟩
    have : ¬ vL D q := fun x => w (o.L x)
    show (if q = 15 + D 92 0 then C else cp q) = 0
    rw [if_neg (fun e => w (by rw [e]; unfold vL; rw [e91, e92]; omega))]
    exact c1 q this

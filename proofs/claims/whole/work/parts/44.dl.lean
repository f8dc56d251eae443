/-- list a (its row b of C places) has changed; its row is b2 of C2 places now -/
def LC (h h' : AH) (a b C b2 C2 : Nat) : Prop :=
  ((b2 = b ∧ C2 = C ∧ h_n h' = h_n h ∧ h_u h' = h_u h ∧ ∀ q, h_k h' q = h_k h q ∧ h_l h' q = h_l h q) ∨
   (b2 = h_n h ∧ C < C2 ∧ C2 ≤ 60 ∧ h_n h' = h_n h + 1 ∧ h_u h' ≤ h_u h + 4 * (C2 - C) ∧ h_k h' b2 = 24 ∧ ∀ q, q ≠ b2 → h_k h' q = h_k h q ∧ h_l h' q = h_l h q)) ∧
  (∀ q j, q ≠ a → q ≠ b2 → h_i h' q j = h_i h q j) ∧ ∀ q j, q ≠ a → q ≠ b2 → h_r h' q j = h_r h q j
theorem LC.mc {h h' : AH} {a b C b2 C2 j : Nat} {z : Int} (H : LC (h_si h a j z) h' a b C b2 C2) : LC h h' a b C b2 C2 := by
  obtain ⟨h1, h2, h3⟩ := H
  refine ⟨h1, fun q i x y => ?_, h3⟩
  rw [h2 q i x y, hsi_at, if_neg (fun w => x w.1)]
theorem LC.ofSt {h h' : AH} {a b C : Nat} {n : Int} (S : LSt h h' a b n) : LC h h' a b C b C := by
  obtain ⟨s1, s2, s3, s4, s5, s6, s7, s8⟩ := S
  exact ⟨Or.inl ⟨rfl, rfl, s3, s4, fun q => ⟨by rw [s1], by rw [s2]⟩⟩, fun q j x y => s5 q j x, fun q j x y => s8 q j y⟩
section D2
variable {h h0 : AH} {A : AD} {D : MS} {N U : Nat}
theorem DR.lst (H : DR h A D N U) {l : Int} (hl : vL D l) : ∃ b C, LR h (A 6 l) (D 70 l) b C (fun k => eA A l (D 71 (40 * l + k))) ∧ C ≤ 60 ∧ (∀ k : Nat, (k : Int) < D 70 l → h_r h b k = 0 ∨ h_k h (h_r h b k) = 6 ∨ h_k h (h_r h b k) = 7 ∨ h_k h (h_r h b k) = 8) ∧
    ∀ (h' : AH) (b2 C2 : Nat) (D' : MS), LC h h' (A 6 l) b C b2 C2 → LR h' (A 6 l) (D' 70 l) b2 C2 (fun k => eA A l (D' 71 (40 * l + k))) → D' 70 l ≤ 40 → (∀ k, 0 ≤ k → k < D' 70 l → vE D l (D' 71 (40 * l + k))) →
      (∀ f k, ¬ (f = 70 ∧ k = l) → ¬ (f = 71 ∧ 40 * l ≤ k ∧ k < 40 * l + 40) → D' f k = D f k) → (∀ f k, inR (D' f k)) → DR h' A D' N U ∧ ∀ h0, FD h0 h → FD h0 h' := by
  obtain ⟨tg, bw, cp, bt, ct, b0, bA, bS, bN, bL, bT, bB⟩ := H
  obtain ⟨b1, b2, b3, b4, b5⟩ := b0
  obtain ⟨l1, l2, l3, l4⟩ := bL l hl
  have vl : vA D 6 l := by unfold vA; exact Or.inr (Or.inr (Or.inr (Or.inl ⟨rfl, hl⟩)))
  obtain ⟨kA, tA, oA⟩ := bA 6 l vl
  have nA := b1 (A 6 l) (by rw [kA]; decide)
  refine ⟨bw l, cp l, l1, l2.1, fun k hk => ?_, ?_⟩
  · rw [l1.2.2.2.2.2.2 k hk]
    have q := l4 k (by omega) hk
    unfold vE at q
    have := b3
    show eA A l (D 71 (40 * l + k)) = 0 ∨ h_k h (eA A l (D 71 (40 * l + k))) = 6 ∨ h_k h (eA A l (D 71 (40 * l + k))) = 7 ∨ h_k h (eA A l (D 71 (40 * l + k))) = 8
    unfold eA
    by_cases e1 : l = 46
    · rw [if_pos e1] at q ⊢
      right; left
      exact (bA 3 (D 71 (40 * l + k)) (by unfold vA; omega)).1
    · rw [if_neg e1] at q ⊢
      by_cases e2 : l = 47
      · rw [if_pos e2] at q ⊢
        right; right; right
        exact (bA 4 (D 71 (40 * l + k)) (by unfold vA; omega)).1
      · rw [if_neg e2] at q ⊢
        right; right; left
        exact (bA 0 (D 71 (40 * l + k)) (by unfold vA; omega)).1
  intro h' c2 C2 D' hc hr hn he hD hR
  obtain ⟨hc1, hc2, hc3⟩ := hc
  have s : dST D D' := ⟨hD _ _ (by omega) (by omega), hD _ _ (by omega) (by omega), hD _ _ (by omega) (by omega), fun k => hD _ _ (by omega) (by omega), fun k => hD _ _ (by omega) (by omega)⟩
  -- what is apart from the changed list
  have hob : ∀ f i, vA D f i → A f i ≠ c2 ∧ (f ≠ 6 ∨ i ≠ l → A f i ≠ A 6 l) := by
    intro f i hv
    obtain ⟨q1, q2, q3⟩ := bA f i hv
    refine ⟨?_, ?_⟩
    · rcases hc1 with ⟨e, -⟩ | ⟨e, -⟩
      · rw [e]
        intro w
        by_cases c0 : cp l = 0
        · have := l1.2.2.2.2.1 c0
          have := b1 (A f i) (by rw [q1]; unfold knd; split <;> omega)
          omega
        · have q4 := (l3 c0).1
          rw [← w, q2] at q4
          have q5 := (Prod.mk.inj q4).1
          subst q5
          unfold vA at hv
          omega
      · rw [e]
        have := b1 (A f i) (by rw [q1]; unfold knd; split <;> omega)
        omega
    · intro ne w
      rw [w, tA] at q2
      have := Prod.mk.inj q2
      omega
  have hkl : ∀ q, q ≠ c2 ∨ h_k h q ≠ 0 → h_k h' q = h_k h q ∧ h_l h' q = h_l h q := by
    intro q hq
    rcases hc1 with ⟨-, -, -, -, e⟩ | ⟨e1, -, -, -, -, -, e⟩
    · exact e q
    · refine e q ?_
      rcases hq with hq | hq
      · exact hq
      · have := b1 q hq
        omega
  have hnn : h_n h ≤ h_n h' := by
    rcases hc1 with ⟨-, -, e, -⟩ | ⟨-, -, -, e, -⟩ <;> omega
  have hbase : c2 < 18 ∨ 41 ≤ c2 := by
    rcases hc1 with ⟨e, -⟩ | ⟨e, -⟩
    · by_cases c0 : cp l = 0
      · have := l1.2.2.2.2.1 c0
        omega
      · have := (l3 c0).2
        omega
    · omega
  -- the old rows of the other lists, and the text's
  have hot : ∀ l', vL D l' → l' ≠ l → cp l' ≠ 0 → bw l' ≠ c2 ∧ bw l' ≠ A 6 l := by
    intro l' hl' ne c0
    obtain ⟨m1, m2, m3, m4⟩ := bL l' hl'
    have q1 := (m3 c0).1
    refine ⟨?_, ?_⟩
    · rcases hc1 with ⟨e, -⟩ | ⟨e, -⟩
      · rw [e]
        intro w
        by_cases c1 : cp l = 0
        · have := l1.2.2.2.2.1 c1
          have := b1 (bw l') (by rw [(m1.2.2.2.2.2.1 c0).1]; decide)
          omega
        · have q2 := (l3 c1).1
          rw [← w, q1] at q2
          exact ne (Prod.mk.inj q2).2
      · have := b1 (bw l') (by rw [(m1.2.2.2.2.2.1 c0).1]; decide)
        omega
    · intro w
      rw [w, tA] at q1
      have := (Prod.mk.inj q1).1
      omega
  have htx : bt ≠ c2 ∧ bt ≠ A 6 l ∧ (16 : Nat) ≠ c2 ∧ (16 : Nat) ≠ A 6 l := by
    obtain ⟨⟨t1, t2, t3, t4, t5, t6, t7, t8⟩, t9, t10, t11⟩ := bT
    have v10 : vA D 10 0 := by unfold vA; omega
    have q10 := hob 10 0 v10
    rw [b5.2.2.1] at q10
    refine ⟨?_, ?_, q10.1, q10.2 (Or.inl (by decide))⟩
    · rcases hc1 with ⟨e, -⟩ | ⟨e, -⟩
      · rw [e]
        intro w
        by_cases c1 : cp l = 0
        · have := l1.2.2.2.2.1 c1
          have := b1 bt (by rw [t6.1]; decide)
          omega
        · have q2 := (l3 c1).1
          rw [← w, t10] at q2
          have := (Prod.mk.inj q2).1
          omega
      · have := b1 bt (by rw [t6.1]; decide)
        omega
    · intro w
      rw [w, tA] at t10
      have := (Prod.mk.inj t10).1
      omega
  refine ⟨⟨fun q => if q = c2 ∧ C2 ≠ 0 then (7, l) else tg q, fun q => if q = l then c2 else bw q, fun q => if q = l then C2 else cp q, bt, ct, ⟨?_, by omega, ?_, hR, b5⟩, ?_, ?_, ?_, ?_, ?_, ?_⟩, ?_⟩
  · intro q hq
    by_cases e : q = c2
    · rcases hc1 with ⟨e1, e2, e3, e4, e5⟩ | ⟨e1, e2, e3, e4, e5, e6, e7⟩
      · rw [(e5 q).1] at hq
        have := b1 q hq
        omega
      · omega
    · rw [(hkl q (Or.inl e)).1] at hq
      have := b1 q hq
      omega
  · rw [s.1, s.2.1, s.2.2.1]
    exact b3
  · intro f i q
    have q' := s.A.mp q
    obtain ⟨q1, q2, q3⟩ := bA f i q'
    have q4 := (hob f i q').1
    refine ⟨by rw [(hkl _ (Or.inl q4)).1]; exact q1, ?_, q3⟩
    show (if A f i = c2 ∧ C2 ≠ 0 then _ else _) = _
    rw [if_neg (fun w => q4 w.1)]
    exact q2
  · obtain ⟨⟨s1, s2, s3, s4, s5, s6, s7, s8⟩, s9, s10, s11, s12⟩ := DS.st s bS
    have v8 : vA D 8 0 := by unfold vA; omega
    have v9 : vA D 9 0 := by unfold vA; omega
    have q8 := hob 8 0 v8
    have q9 := hob 9 0 v9
    rw [b5.1] at q8
    rw [b5.2.1] at q9
    have r8 : ∀ j, h_r h' 8 j = h_r h 8 j := fun j => hc3 8 j (q8.2 (Or.inl (by decide))) q8.1
    have rr : ∀ f i j, vA D f i → f ≠ 6 → h_r h' (A f i) j = h_r h (A f i) j := fun f i j v n => hc3 _ j ((hob f i v).2 (Or.inl n)) (hob f i v).1
    have rl : ∀ f i, vA D f i → h_l h' (A f i) = h_l h (A f i) := fun f i v => (hkl _ (Or.inl (hob f i v).1)).2
    have e90 := s.1
    have e91 := s.2.1
    have e92 := s.2.2.1
    refine ⟨by simp only [r8]; exact ⟨s1, s2, s3, s4, s5, s6, s7, s8⟩, by rw [(hkl 9 (Or.inl q9.1)).2]; exact s9, fun q hq => ?_, fun p hp => ?_, fun p hp => ?_⟩
    · have w0 : vA D 0 q := by unfold vA; omega
      have w1 : vA D 1 q := by unfold vA; omega
      have w2 : vA D 2 q := by unfold vA; omega
      rw [rr 0 q _ w0 (by decide), rr 0 q _ w0 (by decide), rl 1 q w1, rl 2 q w2]
      exact s10 q hq
    · have w0 : vA D 3 p := by unfold vA; omega
      rw [rr 3 p _ w0 (by decide)]
      exact s11 p hp
    · have w0 : vA D 4 p := by unfold vA; omega
      have w1 : vA D 5 p := by unfold vA; omega
      rw [rr 4 p _ w0 (by decide), rr 4 p _ w0 (by decide), rl 5 p w1]
      exact s12 p hp
  · intro F t q
    have q' := s.F.mp q
    obtain ⟨pA, n6, -⟩ := vF_p q'
    rw [hc2 _ _ ((hob _ _ pA).2 (Or.inl n6)) (hob _ _ pA).1, bN F t q']
    unfold vF at q'
    exact (hD _ _ (by omega) (by omega)).symm
  · intro l' q
    have q' := s.L.mp q
    by_cases e : l' = l
    · subst e
      simp only [if_true, s.E]
      refine ⟨hr, ⟨?_, hn⟩, fun c0 => ⟨?_, by omega⟩, he⟩
      · rcases hc1 with ⟨-, e, -⟩ | ⟨-, -, e, -⟩
        · rw [e]; exact l2.1
        · exact e
      · rw [if_pos ⟨trivial, c0⟩]
    · simp only [if_neg e, s.E]
      obtain ⟨⟨m1, m2, m3, m4, m5, m6, m7⟩, m8, m9, m10⟩ := bL l' q'
      have v6 : vA D 6 l' := by unfold vA; exact Or.inr (Or.inr (Or.inr (Or.inl ⟨rfl, q'⟩)))
      have o6 := hob 6 l' v6
      have e70 : D' 70 l' = D 70 l' := hD _ _ (by omega) (by omega)
      have b40 := m8.2
      have e71 : ∀ k, 0 ≤ k → k < D 70 l' → D' 71 (40 * l' + k) = D 71 (40 * l' + k) := fun k a b => hD _ _ (by omega) (by omega)
      rw [e70]
      refine ⟨⟨?_, ?_, ?_, m4, m5, fun c0 => ?_, fun k hk => ?_⟩, m8, fun c0 => ⟨?_, (m9 c0).2⟩, fun k a b => ?_⟩
      · rw [(hkl _ (Or.inl o6.1)).1]; exact m1
      · rw [hc3 _ _ (o6.2 (Or.inr e)) o6.1]; exact m2
      · rw [hc2 _ _ (o6.2 (Or.inr e)) o6.1]; exact m3
      · rw [(hkl _ (Or.inl (hot l' q' e c0).1)).1, (hkl _ (Or.inl (hot l' q' e c0).1)).2]
        exact m6 c0
      · show _ = eA A l' (D' 71 (40 * l' + k))
        rw [e71 k (by omega) hk]
        have c0 : cp l' ≠ 0 := by omega
        rw [hc3 _ _ (hot l' q' e c0).2 (hot l' q' e c0).1]
        exact m7 k hk
      · show (if bw l' = c2 ∧ C2 ≠ 0 then _ else _) = _
        rw [if_neg (fun w => (hot l' q' e c0).1 w.1)]
        exact (m9 c0).1
      · rw [e71 k a b]
        exact m10 k a b
  · obtain ⟨⟨t1, t2, t3, t4, t5, t6, t7, t8⟩, t9, t10, t11⟩ := bT
    have e80 : D' 80 0 = D 80 0 := hD _ _ (by omega) (by omega)
    have e81 : ∀ k, D' 81 k = D 81 k := fun k => hD _ _ (by omega) (by omega)
    obtain ⟨x1, x2, x3, x4⟩ := htx
    unfold DT SB
    rw [e80, (hkl 16 (Or.inl x3)).1, (hkl bt (Or.inl x1)).1, (hkl bt (Or.inl x1)).2, hc3 16 _ x4 x3, hc2 16 _ x4 x3, hc2 16 _ x4 x3]
    simp only [e81, hc2 bt _ x2 x1]
    refine ⟨⟨t1, t2, t3, t4, t5, t6, t7, t8⟩, t9, ?_, t11⟩
    rw [if_neg (fun w => x1 w.1)]
    exact t10
  · obtain ⟨c1, c2', c3, c4, c5⟩ := bB
    have hl48 : 0 ≤ l ∧ l < 48 := by unfold vL at hl; omega
    have hS := sm_up (f := fun q => 60 - cp q) (l := l) (v := 60 - C2) (n := 48) hl48
    have eS : sm (fun q => 60 - (if q = l then C2 else cp q)) 48 = sm (fun q => if q = l then 60 - C2 else 60 - cp q) 48 := by
      congr 1
      funext q
      split <;> rfl
    unfold DB
    rw [eS]
    refine ⟨fun l' hn' => ?_, ?_, ?_, c4, c5⟩
    · have : ¬ vL D l' := fun w => hn' (s.L.mpr w)
      show (if l' = l then C2 else cp l') = 0
      rw [if_neg (fun w => this (by rw [w]; exact hl))]
      exact c1 l' this
    · rcases hc1 with ⟨-, e2, e3, -⟩ | ⟨-, e2, e3, e4, -⟩
      · rw [e2] at hS ⊢; omega
      · have := l2.1
        omega
    · rcases hc1 with ⟨-, e2, -, e3, -⟩ | ⟨-, e2, e3, -, e4, -⟩
      · rw [e2] at hS ⊢; omega
      · have := l2.1
        omega
  · intro h9 hF q x y
    have q1 := hF q x y
    have nA6 : q ≠ A 6 l := by omega
    have n2 : q ≠ c2 := by omega
    exact ⟨(hkl q (Or.inl n2)).1.trans q1.1, (hkl q (Or.inl n2)).2.trans q1.2.1, fun j => (hc2 q j nA6 n2).trans (q1.2.2.1 j), fun j => (hc3 q j nA6 n2).trans (q1.2.2.2 j)⟩
end D2
theorem gH_f {h : AH} {a b C : Nat} (han : a ≠ h_n h) : (∀ q, q ≠ h_n h → h_k (gH h a b C) q = h_k h q ∧ h_l (gH h a b C) q = h_l h q ∧ ∀ j, h_i (gH h a b C) q j = h_i h q j) ∧ (∀ q j, q ≠ h_n h → q ≠ a → h_r (gH h a b C) q j = h_r h q j) ∧ h_r (gH h a b C) a 1 = h_n h ∧ h_n (gH h a b C) = h_n h + 1 ∧ h_u (gH h a b C) = h_u h + gN C ∧ h_k (gH h a b C) (h_n h) = 24 ∧ h_l (gH h a b C) (h_n h) = gN C ∧ (b ≠ h_n h → ∀ k, k < C → h_r (gH h a b C) (h_n h) k = h_r h b k) := by
  by_cases c0 : C = 0
  · subst c0
    have e : gH h a b 0 = h_sr (h_mk h 24 10 10) a 1 (h_n h) := if_pos rfl
    rw [e]
    refine ⟨fun q hq => ⟨mk_k (k := 24) (n := 10) (N := 10) hq, mk_l (k := 24) (n := 10) (N := 10) hq, fun j => mk_i (k := 24) (n := 10) (N := 10) hq⟩, fun q j hq ha => ?_, u2_s, rfl, rfl, mk_ks (n := 10) (N := 10), mk_ls (k := 24) (N := 10), fun _ k hk => by omega⟩
    exact ((hsr_ne (Or.inl ha)).2).trans (mk_r (k := 24) (n := 10) (N := 10) hq)
  · have e : gH h a b C = h_sr (h_cr (h_mk h 24 (gN C) (gN C)) b 0 (h_n h) 0 C) a 1 (h_n h) := if_neg c0
    rw [e]
    refine ⟨fun q hq => ⟨mk_k (k := 24) (n := gN C) (N := gN C) hq, mk_l (k := 24) (n := gN C) (N := gN C) hq, fun j => mk_i (k := 24) (n := gN C) (N := gN C) hq⟩, fun q j hq ha => ?_, u2_s, rfl, rfl, mk_ks (n := gN C) (N := gN C), mk_ls (k := 24) (N := gN C), fun hb k hk => ?_⟩
    · refine ((hsr_ne (Or.inl ha)).2).trans ?_
      exact (if_neg (fun w => hq w.1)).trans (mk_r (k := 24) (n := gN C) (N := gN C) hq)
    · refine ((hsr_ne (Or.inl (Ne.symm han))).2).trans ?_
      refine (if_pos ⟨rfl, Nat.zero_le _, by omega⟩).trans ?_
      refine (mk_r (k := 24) (n := gN C) (N := gN C) hb).trans ?_
      congr 1
      omega
theorem gN_u {C : Nat} (h : C ≤ 39) : C < gN C ∧ gN C ≤ 60 ∧ gN C ≤ 4 * (gN C - C) := by
  unfold gN
  (repeat' split) <;> omega
theorem hsr_at {h : AH} {a j q i z : Nat} : h_r (h_sr h a j z) q i = if q = a ∧ i = j then z else h_r h q i := rfl
theorem aH_ok {h : AH} {a b C e : Nat} {n : Int} {E E2 : Int → Nat} (H : LR h a n b C E) (han : a ≠ h_n h) (hbn : C ≠ 0 → b ≠ h_n h) (hab : a ≠ b) (hn : n ≤ 39) (hC : C ≤ 60) (h2 : ∀ k, 0 ≤ k → k < n → E2 k = E k) (h3 : E2 n = e) : ∃ b2 C2, LC h (aH h a b n C e) a b C b2 C2 ∧ LR (aH h a b n C e) a (n + 1) b2 C2 E2 := by
  obtain ⟨q1, q2, q3, q4, q5, q6, q7⟩ := H
  by_cases c : (C : Int) = n
  · have e1 : aH h a b n C e = h_si (h_sr (gH h a b C) (h_n h) C e) a 2 (n + 1) := if_pos c
    rw [e1]
    obtain ⟨g1, g2, g3, g4, g5, g6, g7, g8⟩ := gH_f (b := b) (C := C) han
    obtain ⟨u1, u2, u3⟩ := gN_u (C := C) (by omega)
    refine ⟨h_n h, gN C, ⟨Or.inr ⟨rfl, u1, u2, g4, ?_, g6, fun q hq => ⟨(g1 q hq).1, (g1 q hq).2.1⟩⟩, fun q j x y => ?_, fun q j x y => ?_⟩, (g1 a han).1.trans q1, ?_, ?_, by omega, fun w => by omega, fun _ => ⟨g6, g7⟩, fun k hk => ?_⟩
    · show h_u (gH h a b C) ≤ _
      omega
    · rw [hsi_at, if_neg (fun w => x w.1)]
      exact (g1 q y).2.2 j
    · show h_r (h_sr (gH h a b C) (h_n h) C e) q j = _
      rw [hsr_at, if_neg (fun w => y w.1)]
      exact g2 q j y x
    · show h_r (h_sr (gH h a b C) (h_n h) C e) a 1 = _
      rw [hsr_at, if_neg (fun w => han w.1)]
      exact g3
    · rw [hsi_at, if_pos ⟨rfl, rfl⟩]
    · show h_r (h_sr (gH h a b C) (h_n h) C e) (h_n h) k = _
      rw [hsr_at]
      by_cases ek : k = C
      · rw [if_pos ⟨rfl, ek⟩, ek, c]
        exact h3.symm
      · rw [if_neg (fun w => ek w.2), g8 (hbn (by omega)) k (by omega), q7 k (by omega)]
        exact (h2 k (by omega) (by omega)).symm
  · have e1 : aH h a b n C e = h_si (h_sr h b n.toNat e) a 2 (n + 1) := if_neg c
    rw [e1]
    refine ⟨b, C, ⟨Or.inl ⟨rfl, rfl, rfl, rfl, fun q => ⟨rfl, rfl⟩⟩, fun q j x y => ?_, fun q j x y => ?_⟩, q1, ?_, ?_, by omega, q5, q6, fun k hk => ?_⟩
    · rw [hsi_at, if_neg (fun w => x w.1)]
      rfl
    · show h_r (h_sr h b n.toNat e) q j = _
      rw [hsr_at, if_neg (fun w => y w.1)]
    · show h_r (h_sr h b n.toNat e) a 1 = _
      rw [hsr_at, if_neg (fun w => hab w.1)]
      exact q2
    · rw [hsi_at, if_pos ⟨rfl, rfl⟩]
    · show h_r (h_sr h b n.toNat e) b k = _
      rw [hsr_at]
      by_cases ek : k = n.toNat
      · rw [if_pos ⟨rfl, ek⟩, ek, show ((n.toNat : Nat) : Int) = n by omega]
        exact h3.symm
      · rw [if_neg (fun w => ek w.2), q7 k (by omega)]
        exact (h2 k (by omega) (by omega)).symm
theorem hcr_at {h : AH} {a b sp dp n q j : Nat} : h_r (h_cr h a sp b dp n) q j = if q = b ∧ dp ≤ j ∧ j < dp + n then h_r h a (sp + (j - dp)) else h_r h q j := rfl
theorem iH_ok {h : AH} {a b C e : Nat} {n i : Int} {E E2 : Int → Nat} (H : LR h a n b C E) (han : a ≠ h_n h) (hbn : C ≠ 0 → b ≠ h_n h) (hab : a ≠ b) (hn : n ≤ 39) (hC : C ≤ 60) (hi : 0 ≤ i ∧ i ≤ n) (h2 : ∀ k, 0 ≤ k → k < i → E2 k = E k) (h3 : E2 i = e) (h4 : ∀ k, i ≤ k → k < n → E2 (k + 1) = E k) : ∃ b2 C2, LC h (iH h a b n i C e) a b C b2 C2 ∧ LR (iH h a b n i C e) a (n + 1) b2 C2 E2 := by
  obtain ⟨q1, q2, q3, q4, q5, q6, q7⟩ := H
  by_cases c : (C : Int) = n
  · have e1 : iH h a b n i C e = h_si (h_sr (h_cr (gH h a b C) (h_n h) i.toNat (h_n h) (i + 1).toNat (n - i).toNat) (h_n h) i.toNat e) a 2 (n + 1) := if_pos c
    rw [e1]
    obtain ⟨g1, g2, g3, g4, g5, g6, g7, g8⟩ := gH_f (b := b) (C := C) han
    obtain ⟨u1, u2, u3⟩ := gN_u (C := C) (by omega)
    refine ⟨h_n h, gN C, ⟨Or.inr ⟨rfl, u1, u2, g4, ?_, g6, fun q hq => ⟨(g1 q hq).1, (g1 q hq).2.1⟩⟩, fun q j x y => ?_, fun q j x y => ?_⟩, (g1 a han).1.trans q1, ?_, ?_, by omega, fun w => by omega, fun _ => ⟨g6, g7⟩, fun k hk => ?_⟩
    · show h_u (gH h a b C) ≤ _
      omega
    · rw [hsi_at, if_neg (fun w => x w.1)]
      exact (g1 q y).2.2 j
    · show h_r (h_sr (h_cr (gH h a b C) (h_n h) i.toNat (h_n h) (i + 1).toNat (n - i).toNat) (h_n h) i.toNat e) q j = _
      rw [hsr_at, if_neg (fun w => y w.1), hcr_at, if_neg (fun w => y w.1)]
      exact g2 q j y x
    · show h_r (h_sr (h_cr (gH h a b C) (h_n h) i.toNat (h_n h) (i + 1).toNat (n - i).toNat) (h_n h) i.toNat e) a 1 = _
      rw [hsr_at, if_neg (fun w => han w.1), hcr_at, if_neg (fun w => han w.1)]
      exact g3
    · rw [hsi_at, if_pos ⟨rfl, rfl⟩]
    · show h_r (h_sr (h_cr (gH h a b C) (h_n h) i.toNat (h_n h) (i + 1).toNat (n - i).toNat) (h_n h) i.toNat e) (h_n h) k = _
      rw [hsr_at]
      by_cases ek : k = i.toNat
      · rw [if_pos ⟨rfl, ek⟩, ek, show ((i.toNat : Nat) : Int) = i by omega]
        exact h3.symm
      · rw [if_neg (fun w => ek w.2), hcr_at]
        by_cases el : (k : Int) < i
        · rw [if_neg (fun w => by omega), g8 (hbn (by omega)) k (by omega), q7 k (by omega)]
          exact (h2 k (by omega) el).symm
        · rw [if_pos ⟨rfl, by omega, by omega⟩, g8 (hbn (by omega)) _ (by omega), q7 _ (by omega), show (((i.toNat + (k - (i + 1).toNat) : Nat)) : Int) = (k : Int) - 1 by omega]
          have := h4 ((k : Int) - 1) (by omega) (by omega)
          rw [show (k : Int) - 1 + 1 = k by omega] at this
          exact this.symm
  · have e1 : iH h a b n i C e = h_si (h_sr (h_cr h b i.toNat b (i + 1).toNat (n - i).toNat) b i.toNat e) a 2 (n + 1) := if_neg c
    rw [e1]
    refine ⟨b, C, ⟨Or.inl ⟨rfl, rfl, rfl, rfl, fun q => ⟨rfl, rfl⟩⟩, fun q j x y => ?_, fun q j x y => ?_⟩, q1, ?_, ?_, by omega, q5, q6, fun k hk => ?_⟩
    · rw [hsi_at, if_neg (fun w => x w.1)]
      rfl
    · show h_r (h_sr (h_cr h b i.toNat b (i + 1).toNat (n - i).toNat) b i.toNat e) q j = _
      rw [hsr_at, if_neg (fun w => y w.1), hcr_at, if_neg (fun w => y w.1)]
    · show h_r (h_sr (h_cr h b i.toNat b (i + 1).toNat (n - i).toNat) b i.toNat e) a 1 = _
      rw [hsr_at, if_neg (fun w => hab w.1), hcr_at, if_neg (fun w => hab w.1)]
      exact q2
    · rw [hsi_at, if_pos ⟨rfl, rfl⟩]
    · show h_r (h_sr (h_cr h b i.toNat b (i + 1).toNat (n - i).toNat) b i.toNat e) b k = _
      rw [hsr_at]
      by_cases ek : k = i.toNat
      · rw [if_pos ⟨rfl, ek⟩, ek, show ((i.toNat : Nat) : Int) = i by omega]
        exact h3.symm
      · rw [if_neg (fun w => ek w.2), hcr_at]
        by_cases el : (k : Int) < i
        · rw [if_neg (fun w => by omega), q7 k (by omega)]
          exact (h2 k (by omega) el).symm
        · rw [if_pos ⟨rfl, by omega, by omega⟩, q7 _ (by omega), show (((i.toNat + (k - (i + 1).toNat) : Nat)) : Int) = (k : Int) - 1 by omega]
          have := h4 ((k : Int) - 1) (by omega) (by omega)
          rw [show (k : Int) - 1 + 1 = k by omega] at this
          exact this.symm

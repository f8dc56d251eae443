/-- the text has changed: its bytes are b2 of C2 places now -/
def TC (h h' : AH) (b C b2 C2 : Nat) : Prop :=
  ((b2 = b ∧ C2 = C ∧ h_n h' = h_n h ∧ h_u h' = h_u h ∧ ∀ q, h_k h' q = h_k h q ∧ h_l h' q = h_l h q) ∨
   (b2 = h_n h ∧ C < C2 ∧ C2 ≤ 202 ∧ h_n h' = h_n h + 1 ∧ h_u h' ≤ h_u h + C2 ∧ h_k h' b2 = 20 ∧ ∀ q, q ≠ b2 → h_k h' q = h_k h q ∧ h_l h' q = h_l h q)) ∧
  (∀ q j, q ≠ 16 → q ≠ b2 → h_i h' q j = h_i h q j) ∧ ∀ q j, q ≠ 16 → q ≠ b2 → h_r h' q j = h_r h q j
theorem TC.si {h h' : AH} {b C b2 C2 a j : Nat} {z : Int} (H : TC h h' b C b2 C2) (ha : a = 16 ∨ a = b2) : TC h (h_si h' a j z) b C b2 C2 := by
  obtain ⟨h1, h2, h3⟩ := H
  refine ⟨h1, fun q i x y => ?_, h3⟩
  rw [hsi_at, if_neg (fun w => by rcases ha with e | e <;> omega)]
  exact h2 q i x y
theorem TC.rf {h : AH} {b C : Nat} : TC h h b C b C := ⟨Or.inl ⟨rfl, rfl, rfl, rfl, fun _ => ⟨rfl, rfl⟩⟩, fun _ _ _ _ => rfl, fun _ _ _ _ => rfl⟩
section D5
variable {g : GP} {m m' : MT} {d d' : Nat} {Q Q' : Res → AH → Prop} {h h0 : AH} {pc : Nat} {lc lc' st as : List AV} {A : AD} {D : MS} {N U : Nat}
theorem DR.txt (H : DR h A D N U) : ∃ b C, SB h 16 (D 80 0) b C (fun k => D 81 k) ∧ C ≤ 202 ∧ b ≠ h_n h ∧ (16 : Nat) ≠ h_n h ∧ (16 : Nat) ≠ b ∧
    ∀ (h' : AH) (b2 C2 : Nat) (D' : MS), TC h h' b C b2 C2 → SB h' 16 (D' 80 0) b2 C2 (fun k => D' 81 k) → (∀ f k, f ≠ 80 → f ≠ 81 → D' f k = D f k) → (∀ f k, inR (D' f k)) → DR h' A D' N U ∧ ∀ h0, FD h0 h → FD h0 h' := by
  obtain ⟨tg, bw, cp, bt, ct, b0, bA, bS, bN, bL, bT, bB⟩ := H
  obtain ⟨b1, b2, b3, b4, b5⟩ := b0
  obtain ⟨t0, t9, t10, t11⟩ := bT
  have v10 : vA D 10 0 := vAx (by decide)
  obtain ⟨k10, g10, o10⟩ := bA 10 0 v10
  rw [b5.2.2.1] at k10 g10 o10
  have hbt := b1 bt (by rw [t0.2.2.2.2.2.1.1]; decide)
  have h16b : (16 : Nat) ≠ bt := by
    intro e
    rw [← e, g10] at t10
    have := (Prod.mk.inj t10).1
    omega
  refine ⟨bt, ct, t0, t9, by omega, by omega, h16b, ?_⟩
  intro h' c2 C2 D' hc hr hD hR
  obtain ⟨hc1, hc2, hc3⟩ := hc
  have s : dST D D' := ⟨hD _ _ (by omega) (by omega), hD _ _ (by omega) (by omega), hD _ _ (by omega) (by omega), fun k => hD _ _ (by omega) (by omega), fun k => hD _ _ (by omega) (by omega)⟩
  have hob : ∀ f i, vA D f i → A f i ≠ c2 ∧ (f ≠ 10 → A f i ≠ 16) := by
    intro f i hv
    obtain ⟨q1, q2, q3⟩ := bA f i hv
    have := b1 (A f i) (by rw [q1]; unfold knd; split <;> omega)
    refine ⟨?_, ?_⟩
    · rcases hc1 with ⟨e, -⟩ | ⟨e, -⟩
      · rw [e]
        intro w
        rw [w, t10] at q2
        have := (Prod.mk.inj q2).1
        subst this
        unfold vA at hv
        omega
      · omega
    · intro ne w
      rw [w, g10] at q2
      have := (Prod.mk.inj q2).1
      omega
  have hkl : ∀ q, q ≠ c2 → h_k h' q = h_k h q ∧ h_l h' q = h_l h q := by
    intro q hq
    rcases hc1 with ⟨-, -, -, -, e⟩ | ⟨e1, -, -, -, -, -, e⟩
    · exact e q
    · exact e q hq
  have hbase : c2 < 18 ∨ 41 ≤ c2 := by
    rcases hc1 with ⟨e, -⟩ | ⟨e, -⟩ <;> omega
  have hnn : h_n h ≤ h_n h' := by
    rcases hc1 with ⟨-, -, e, -⟩ | ⟨-, -, -, e, -⟩ <;> omega
  have hot : ∀ l, vL D l → cp l ≠ 0 → bw l ≠ c2 ∧ bw l ≠ 16 := by
    intro l hl c0
    obtain ⟨m1, m2, m3, m4⟩ := bL l hl
    have q1 := (m3 c0).1
    have := b1 (bw l) (by rw [(m1.2.2.2.2.2.1 c0).1]; decide)
    refine ⟨?_, ?_⟩
    · rcases hc1 with ⟨e, -⟩ | ⟨e, -⟩
      · rw [e]
        intro w
        rw [w, t10] at q1
        have := (Prod.mk.inj q1).1
        omega
      · omega
    · intro w
      rw [w, g10] at q1
      have := (Prod.mk.inj q1).1
      omega
  refine ⟨⟨fun q => if q = c2 then (11, 0) else tg q, bw, cp, c2, C2, ⟨?_, by omega, ?_, hR, b5⟩, ?_, ?_, ?_, ?_, ?_, ?_⟩, ?_⟩
  · intro q hq
    by_cases e : q = c2
    · rcases hc1 with ⟨e1, e2, e3, e4, e5⟩ | ⟨e1, e2, e3, e4, e5, e6, e7⟩ <;> omega
    · rw [(hkl q e).1] at hq
      have := b1 q hq
      omega
  · rw [s.1, s.2.1, s.2.2.1]
    exact b3
  · intro f i q
    have q' := s.A.mp q
    obtain ⟨q1, q2, q3⟩ := bA f i q'
    have q4 := (hob f i q').1
    refine ⟨by rw [(hkl _ q4).1]; exact q1, ?_, q3⟩
    show (if A f i = c2 then _ else _) = _
    rw [if_neg q4]
    exact q2
  · obtain ⟨⟨s1, s2, s3, s4, s5, s6, s7, s8⟩, s9, s10, s11, s12⟩ := DS.st s bS
    have v8 : vA D 8 0 := vAx (by decide)
    have v9 : vA D 9 0 := vAx (by decide)
    have q8 := hob 8 0 v8
    have q9 := hob 9 0 v9
    rw [b5.1] at q8
    rw [b5.2.1] at q9
    have r8 : ∀ j, h_r h' 8 j = h_r h 8 j := fun j => hc3 8 j (q8.2 (by decide)) q8.1
    have rr : ∀ f i j, vA D f i → f ≠ 10 → h_r h' (A f i) j = h_r h (A f i) j := fun f i j v n => hc3 _ j ((hob f i v).2 n) (hob f i v).1
    have rl : ∀ f i, vA D f i → h_l h' (A f i) = h_l h (A f i) := fun f i v => (hkl _ (hob f i v).1).2
    have e90 := s.1
    have e91 := s.2.1
    have e92 := s.2.2.1
    refine ⟨by simp only [r8]; exact ⟨s1, s2, s3, s4, s5, s6, s7, s8⟩, by rw [(hkl 9 q9.1).2]; exact s9, fun q hq => ?_, fun p hp => ?_, fun p hp => ?_⟩
    · have w0 : vA D 0 q := by unfold vA; omega
      have w1 : vA D 1 q := by unfold vA; omega
      have w2 : vA D 2 q := by unfold vA; omega
      rw [rr 0 q _ w0 (by decide), rr 0 q _ w0 (by decide), rl 1 q w1, rl 2 q w2]
      exact s10 q hq
    · have w0 : vA D 3 p := by unfold vA; omega
      rw [rr 3 p _ w0 (by decide)]
      exact s11 p hp
    · have w0 : vA D 4 p := by unfold vA; omega
      have w1 : vA D 5 p := by unfold vA; omega
      rw [rr 4 p _ w0 (by decide), rr 4 p _ w0 (by decide), rl 5 p w1]
      exact s12 p hp
  · intro F t q
    have q' := s.F.mp q
    obtain ⟨pA, n6, n7, n10, -⟩ := vF_p q'
    rw [hc2 _ _ ((hob _ _ pA).2 n10) (hob _ _ pA).1, bN F t q']
    unfold vF at q'
    exact (hD _ _ (by omega) (by omega)).symm
  · intro l q
    have q' := s.L.mp q
    obtain ⟨⟨m1, m2, m3, m4, m5, m6, m7⟩, m8, m9, m10⟩ := bL l q'
    have o6 := hob 6 l (vAl q')
    have e70 : D' 70 l = D 70 l := hD _ _ (by omega) (by omega)
    have e71 : ∀ k, D' 71 k = D 71 k := fun k => hD _ _ (by omega) (by omega)
    rw [e70]
    simp only [e71, s.E]
    refine ⟨⟨?_, ?_, ?_, m4, m5, fun c0 => ?_, fun k hk => ?_⟩, m8, fun c0 => ⟨?_, (m9 c0).2⟩, m10⟩
    · rw [(hkl _ o6.1).1]; exact m1
    · rw [hc3 _ _ (o6.2 (by decide)) o6.1]; exact m2
    · rw [hc2 _ _ (o6.2 (by decide)) o6.1]; exact m3
    · rw [(hkl _ (hot l q' c0).1).1, (hkl _ (hot l q' c0).1).2]
      exact m6 c0
    · have c0 : cp l ≠ 0 := by omega
      rw [hc3 _ _ (hot l q' c0).2 (hot l q' c0).1]
      exact m7 k hk
    · show (if bw l = c2 then _ else _) = _
      rw [if_neg (hot l q' c0).1]
      exact (m9 c0).1
  · refine ⟨hr, ?_, if_pos rfl, by omega⟩
    rcases hc1 with ⟨-, e, -⟩ | ⟨-, -, e, -⟩ <;> omega
  · obtain ⟨c1, c2', c3, c4, c5⟩ := bB
    refine ⟨fun l q => c1 l (fun w => q (s.L.mpr w)), ?_, ?_, c4, c5⟩
    · rcases hc1 with ⟨-, e2, e3, -⟩ | ⟨-, e2, e3, e4, -⟩ <;> omega
    · rcases hc1 with ⟨-, e2, -, e3, -⟩ | ⟨-, e2, e3, -, e4, -⟩ <;> omega
  · intro h9 hF q x y
    have q1 := hF q x y
    have n16 : q ≠ 16 := by omega
    have n2 : q ≠ c2 := by omega
    exact ⟨(hkl q n2).1.trans q1.1, (hkl q n2).2.trans q1.2.1, fun j => (hc2 q j n16 n2).trans (q1.2.2.1 j), fun j => (hc3 q j n16 n2).trans (q1.2.2.2 j)⟩
theorem EN.tc {h9 : AH} {b C b9 C9 : Nat} {mn : Int} (e : EN h h9 16 b C b9 C9 mn) (hm : mn ≤ 100) : TC h h9 b C b9 C9 := by
  rcases e with ⟨e1, rfl, rfl, rfl⟩ | ⟨e1, e2, e3, e4, rfl, rfl⟩
  · exact TC.rf
  · refine ⟨Or.inr ⟨rfl, e2, by omega, rfl, Nat.le_refl _, mk_ks (k := 20) (n := C9) (N := C9), fun q hq => ⟨mk_k (k := 20) (n := C9) (N := C9) hq, mk_l (k := 20) (n := C9) (N := C9) hq⟩⟩, fun q j x y => ?_, fun q j x y => ?_⟩
    · exact (if_neg (fun w => y w.1)).trans (mk_i (k := 20) (n := C9) (N := C9) y)
    · exact ((hsr_ne (Or.inl x)).2).trans (mk_r (k := 20) (n := C9) (N := C9) y)
theorem dPc_r (hR : ∀ f k, inR (D f k)) {c : Int} (hc : 0 ≤ c ∧ c ≤ 127) (hn : 0 ≤ D 80 0 ∧ D 80 0 ≤ 98) : ∀ f k, inR (dPc D c f k) := inR_set (inR_set hR (by unfold inR; omega)) (by unfold inR; omega)
theorem V_dTc {idx : Nat} {c : Int} (hd : decode m.2.1 pc = .ok (.invokevirtual idx, 3)) (hw : CaV m.1.cls idx m_J4_append_cf468 1 1) (hh : m.2.2.2.2 = []) (hd' : 7 ≤ d) (hst : st.length ≤ 4) (hM : DR h A D N U) (hF : FD h0 h) (hc : 0 ≤ c ∧ c ≤ 127) (hn : D 80 0 ≤ 98) (k : ∀ h, DR h A (dPc D c) N U → FD h0 h → V g m d Q h (pc + 3) lc (xR 16 :: st)) : V g m d Q h pc lc (xI c :: xR 16 :: st) := by
  obtain ⟨b, C, S, hC, hbn, hsn, hsb, key⟩ := hM.txt
  have hrm := hM.room
  have hb := hM.b
  have h40 := S.2.2.2.1
  refine V_cV (as := [_]) hd hw hh hd' rfl hst S.1 (T_appC g 16 c (D 80 0) b C _ S hbn hsn hsb (by omega) (by omega) hc hn) (fun _ _ z => nomatch z.1) (fun v9 h9 p9 => ?_)
  obtain ⟨p1, h8, b9, C9, p2, p3, p4, p5, rfl⟩ := p9
  cases p1
  have t1 := (EN.tc p2 (by omega)).si (a := 16) (j := 3) (z := D 80 0 + 1) (Or.inl rfl)
  have t2 := t1.si (a := b9) (j := (D 80 0).toNat) (z := c) (Or.inr rfl)
  have e80 : dPc D c 80 0 = D 80 0 + 1 := mset_s
  have e81 : ∀ k, dPc D c 81 k = if k = D 80 0 then c else D 81 k := fun k => by
    show mset (mset D 81 (D 80 0) c) 80 0 (D 80 0 + 1) 81 k = _
    rw [mset_n (by decide), mset_f]
  have qq := fun hS => key _ b9 C9 (dPc D c) t2 hS (fun f k x y => (mset_n x).trans (mset_n y)) (dPc_r hb.2.2.2.1 hc (by omega))
  refine (fun hS => k _ (qq hS).1 ((qq hS).2 h0 hF)) ?_
  · obtain ⟨q1, q2, q3, q4, q5, q6, q7, q8⟩ := p3
    rw [e80]
    unfold SB
    simp only [hsi_at, e81]
    refine ⟨q1, q2, ?_, by omega, ?_, q6, fun k hk => ?_, fun k hk => ?_⟩
    · rw [if_neg (fun w => p4 w.1), if_pos ⟨trivial, trivial⟩]
    · rw [if_neg (fun w => p4 w.1), if_neg (fun w => by omega)]
      exact q5
    · by_cases e : k = (D 80 0).toNat
      · rw [if_pos ⟨trivial, e⟩, if_pos (by omega)]
      · rw [if_neg (fun w => e w.2), if_neg (fun w => p4 w.1.symm), if_neg (by omega)]
        exact q7 k (by omega)
    · split
      · exact hc
      · rw [if_neg (fun w => p4 w.1.symm)]
        exact q8 k hk
theorem V_dTi {idx : Nat} {x : Int} (hd : decode m.2.1 pc = .ok (.invokevirtual idx, 3)) (hw : CaV m.1.cls idx m_J4_append_bf812 1 1) (hh : m.2.2.2.2 = []) (hd' : 7 ≤ d) (hst : st.length ≤ 4) (hM : DR h A D N U) (hF : FD h0 h) (hx : 0 ≤ x ∧ x ≤ 99) (hn : D 80 0 ≤ 97) (k : ∀ h, DR h A (dPn D x) N U → FD h0 h → V g m d Q h (pc + 3) lc (xR 16 :: st)) : V g m d Q h pc lc (xI x :: xR 16 :: st) := by
  obtain ⟨b, C, S, hC, hbn, hsn, hsb, key⟩ := hM.txt
  have hrm := hM.room
  have hb := hM.b
  have h40 := S.2.2.2.1
  refine V_cV (as := [_]) hd hw hh hd' rfl hst S.1 (T_appI g 16 x (D 80 0) b C _ S hbn hsn hsb (by omega) (by omega) hx (by omega)) (fun _ _ z => nomatch z.1) (fun v9 h9 p9 => ?_)
  obtain ⟨p1, h8, b9, C9, p2, p3, p4, p5, rfl⟩ := p9
  cases p1
  obtain ⟨q1, q2, q3, q4, q5, q6, q7, q8⟩ := p3
  by_cases c : x < 10
  · rw [if_pos c] at p2 p5 ⊢
    have t1 := (EN.tc p2 (by omega)).si (a := b9) (j := (D 80 0 + 1 - 1).toNat) (z := 48 + x % 10) (Or.inr rfl)
    have t2 := t1.si (a := 16) (j := 3) (z := D 80 0 + 1) (Or.inl rfl)
    have e0 : dPn D x = dPc D (48 + x % 10) := if_pos c
    have e80 : dPc D (48 + x % 10) 80 0 = D 80 0 + 1 := mset_s
    have e81 : ∀ k, dPc D (48 + x % 10) 81 k = if k = D 80 0 then 48 + x % 10 else D 81 k := fun k => by
      show mset (mset D 81 (D 80 0) _) 80 0 (D 80 0 + 1) 81 k = _
      rw [mset_n (by decide), mset_f]
    have eh : dH h8 b9 x (D 80 0 + 1) = h_si h8 b9 (D 80 0 + 1 - 1).toNat (48 + x % 10) := if_pos c
    rw [eh]
    rw [e0] at k
    have qq := fun hS => key _ b9 C9 (dPc D (48 + x % 10)) t2 hS (fun f k x y => (mset_n x).trans (mset_n y)) (dPc_r hb.2.2.2.1 (by omega) (by omega))
    refine (fun hS => k _ (qq hS).1 ((qq hS).2 h0 hF)) ?_
    · rw [e80]
      unfold SB
      simp only [hsi_at, e81]
      refine ⟨q1, q2, ?_, by omega, ?_, q6, fun k hk => ?_, fun k hk => ?_⟩
      · rw [if_pos ⟨trivial, trivial⟩]
      · rw [if_neg (fun w => by omega), if_neg (fun w => p4 w.1)]
        exact q5
      · rw [if_neg (fun w => p4 w.1.symm)]
        by_cases e : k = (D 80 0).toNat
        · rw [if_pos ⟨trivial, by omega⟩, if_pos (by omega)]
        · rw [if_neg (fun w => by omega), if_neg (by omega)]
          exact q7 k (by omega)
      · rw [if_neg (fun w => p4 w.1.symm)]
        split
        · omega
        · exact q8 k hk
  · rw [if_neg c] at p2 p5 ⊢
    have t1 := (EN.tc p2 (by omega)).si (a := b9) (j := (D 80 0 + 2 - 1).toNat) (z := 48 + x % 10) (Or.inr rfl)
    have t3 := t1.si (a := b9) (j := (D 80 0 + 2 - 2).toNat) (z := 48 + x / 10) (Or.inr rfl)
    have t2 := t3.si (a := 16) (j := 3) (z := D 80 0 + 2) (Or.inl rfl)
    have e0 : dPn D x = dPc (dPc D (48 + x / 10)) (48 + x % 10) := if_neg c
    have e8a : dPc D (48 + x / 10) 80 0 = D 80 0 + 1 := mset_s
    have e80 : dPc (dPc D (48 + x / 10)) (48 + x % 10) 80 0 = D 80 0 + 2 := by
      show mset _ 80 0 (dPc D (48 + x / 10) 80 0 + 1) 80 0 = _
      rw [mset_s, e8a]
      omega
    have e81 : ∀ k, dPc (dPc D (48 + x / 10)) (48 + x % 10) 81 k = if k = D 80 0 + 1 then 48 + x % 10 else if k = D 80 0 then 48 + x / 10 else D 81 k := fun k => by
      show mset (mset (dPc D (48 + x / 10)) 81 (dPc D (48 + x / 10) 80 0) _) 80 0 _ 81 k = _
      rw [mset_n (by decide), mset_f, e8a]
      show (if _ then _ else mset (mset D 81 (D 80 0) _) 80 0 (D 80 0 + 1) 81 k) = _
      rw [mset_n (by decide), mset_f]
    have eh : dH h8 b9 x (D 80 0 + 2) = h_si (h_si h8 b9 (D 80 0 + 2 - 1).toNat (48 + x % 10)) b9 (D 80 0 + 2 - 2).toNat (48 + x / 10) := if_neg c
    rw [eh]
    rw [e0] at k
    have qq := fun hS => key _ b9 C9 (dPc (dPc D (48 + x / 10)) (48 + x % 10)) t2 hS (fun f k x y => ((mset_n x).trans (mset_n y)).trans ((mset_n x).trans (mset_n y))) (dPc_r (dPc_r hb.2.2.2.1 (by omega) (by omega)) (by omega) (by omega))
    refine (fun hS => k _ (qq hS).1 ((qq hS).2 h0 hF)) ?_
    · rw [e80]
      unfold SB
      simp only [hsi_at, e81]
      refine ⟨q1, q2, ?_, by omega, ?_, q6, fun k hk => ?_, fun k hk => ?_⟩
      · rw [if_pos ⟨trivial, trivial⟩]
      · rw [if_neg (fun w => by omega), if_neg (fun w => p4 w.1), if_neg (fun w => p4 w.1)]
        exact q5
      · rw [if_neg (fun w => p4 w.1.symm)]
        by_cases e : k = (D 80 0).toNat
        · rw [if_pos ⟨trivial, by omega⟩, if_neg (by omega), if_pos (by omega)]
        · rw [if_neg (fun w => by omega)]
          by_cases e2 : (k : Int) = D 80 0 + 1
          · rw [if_pos ⟨trivial, by omega⟩, if_pos e2]
          · rw [if_neg (fun w => by omega), if_neg e2, if_neg (by omega)]
            exact q7 k (by omega)
      · rw [if_neg (fun w => p4 w.1.symm)]
        split
        · omega
        · split
          · omega
          · exact q8 k hk
theorem V_dT0 {idx : Nat} (hd : decode m.2.1 pc = .ok (.invokevirtual idx, 3)) (hw : CaV m.1.cls idx m_J4_setLength_d00df 1 1) (hh : m.2.2.2.2 = []) (hd' : 7 ≤ d) (hst : st.length ≤ 4) (hM : DR h A D N U) (hF : FD h0 h) (k : ∀ h, DR h A (mset D 80 0 0) N U → FD h0 h → V g m d Q h (pc + 3) lc st) : V g m d Q h pc lc (xI 0 :: xR 16 :: st) := by
  obtain ⟨b, C, S, hC, hbn, hsn, hsb, key⟩ := hM.txt
  have hrm := hM.room
  have hb := hM.b
  have h40 := S.2.2.2.1
  refine V_cV (as := [_]) hd hw hh hd' rfl hst S.1 (T_setL g 16 (D 80 0) b C _ S hbn hsn hsb (by omega) (by omega)) (fun _ _ z => nomatch z.1) (fun v9 h9 p9 => ?_)
  obtain ⟨p1, p2⟩ := p9
  cases p1
  have e80 : mset D 80 0 0 80 0 = 0 := mset_s
  obtain ⟨q1, q2, q3, q4, q5, q6, q7, q8⟩ := S
  rcases p2 with rfl | rfl
  · have qq := fun hS => key _ b C (mset D 80 0 0) ((TC.rf.si (a := 16) (j := 2) (z := 1) (Or.inl rfl)).si (a := 16) (j := 3) (z := 0) (Or.inl rfl)) hS (fun f k x _ => mset_n x) (inR_set hb.2.2.2.1 (by unfold inR; omega))
    refine (fun hS => k _ (qq hS).1 ((qq hS).2 h0 hF)) ?_
    · rw [e80]
      unfold SB
      simp only [hsi_at]
      refine ⟨q1, q2, ?_, by omega, ?_, q6, fun k hk => by omega, fun k hk => ?_⟩
      · rw [if_pos ⟨trivial, trivial⟩]
      · rw [if_neg (fun w => by omega), if_neg (fun w => by omega)]
        exact q5
      · rw [if_neg (fun w => hsb w.1.symm), if_neg (fun w => hsb w.1.symm)]
        exact q8 k hk
  · have qq := fun hS => key _ b C (mset D 80 0 0) (TC.rf.si (a := 16) (j := 3) (z := 0) (Or.inl rfl)) hS (fun f k x _ => mset_n x) (inR_set hb.2.2.2.1 (by unfold inR; omega))
    refine (fun hS => k _ (qq hS).1 ((qq hS).2 h0 hF)) ?_
    · rw [e80]
      unfold SB
      simp only [hsi_at]
      refine ⟨q1, q2, ?_, by omega, ?_, q6, fun k hk => by omega, fun k hk => ?_⟩
      · rw [if_pos ⟨trivial, trivial⟩]
      · rw [if_neg (fun w => by omega)]
        exact q5
      · rw [if_neg (fun w => hsb w.1.symm)]
        exact q8 k hk
theorem V_dTl {idx : Nat} (hd : decode m.2.1 pc = .ok (.invokevirtual idx, 3)) (hw : CaV m.1.cls idx m_J4_length_8abf5 0 1) (hh : m.2.2.2.2 = []) (hd' : 3 ≤ d) (hst : st.length ≤ 4) (hM : DR h A D N U) (k : V g m d Q h (pc + 3) lc (xI (D 80 0) :: st)) : V g m d Q h pc lc (xR 16 :: st) := by
  obtain ⟨b, C, S, -⟩ := hM.txt
  exact V_pV (as := []) hd hw hh hd' rfl hst S.1 (T_J4_length_8abf5 g 16 (D 80 0) b C _ S) k
theorem V_dTa {idx : Nat} {i : Int} (hd : decode m.2.1 pc = .ok (.invokevirtual idx, 3)) (hw : CaV m.1.cls idx m_J4_charAt_5068e 1 1) (hh : m.2.2.2.2 = []) (hd' : 5 ≤ d) (hst : st.length ≤ 4) (hM : DR h A D N U) (hi : 0 ≤ i ∧ i < D 80 0) (k : 0 ≤ D 81 i ∧ D 81 i ≤ 127 → V g m d Q h (pc + 3) lc (xI (D 81 i) :: st)) : V g m d Q h pc lc (xI i :: xR 16 :: st) := by
  obtain ⟨b, C, S, hC, -⟩ := hM.txt
  have h4 := S.2.2.2.1
  have h1 := S.row hi
  have h2 := S.2.2.2.2.2.2.2 i.toNat (by omega)
  rw [h1.2.2] at h2
  exact V_pV (as := [_]) hd hw hh hd' rfl hst S.1 (T_J4_charAt_5068e g 16 i (D 80 0) b C _ (by omega) S hi h2) (k h2)
end D5

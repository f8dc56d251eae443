theorem DM.ps {D M : MS} (H : DM D M) : PS D M := ⟨H.1.1, H.1.2.1, H.1.2.2.1, H.2.1, fun _ hp => ⟨(H.pl hp).1, fun _ => (H.pl hp).2⟩, H.1.2.2.2.2, H.2.2.1, H.2.2.2.1, H.2.2.2.2⟩
theorem nS_m {D : MS} {E : Int → Int} {z v k : Int} {f : Nat} (h92 : f ≠ 92) (h1 : ¬ (k = D 92 0 ∧ (f = 60 ∨ f = 62))) (h3 : ¬ (f = 61 ∧ 27 * D 92 0 ≤ k ∧ k < 27 * D 92 0 + 27)) (h4 : ¬ (f = 70 ∧ k = 15 + D 92 0)) (h5 : ¬ (f = 71 ∧ 40 * (15 + D 92 0) ≤ k ∧ k < 40 * (15 + D 92 0) + 40)) : mset (nS D E z) f k v = nS (mset D f k v) E z := by
  have e : mset D f k v 92 0 = D 92 0 := mset_n (fun w => h92 w.symm)
  funext g j
  rw [mset2]
  by_cases a : g = f ∧ j = k
  · rw [if_pos a, a.1, a.2, nS_d (by omega) (by rw [e]; exact h1) (by rw [e]; exact h3) (by rw [e]; exact h4) (by rw [e]; exact h5)]
    exact mset_s.symm
  · have e2 : mset D f k v g j = D g j := if_neg a
    rw [if_neg a]
    unfold nS
    rw [e, e2]
theorem nS_hon {D : MS} {E : Int → Int} {z l v : Int} (hl : l < 15) (h92 : 0 ≤ D 92 0) : ∀ n : Nat, n ≤ 40 → dHoN (nS D E z) l v n = nS (dHoN D l v n) E z := by
  intro n
  induction n with
  | zero => intro _; rfl
  | succ n ih =>
    intro hn
    have e : nS D E z 71 (40 * l + n) = D 71 (40 * l + n) := nS_d (by omega) (by omega) (by omega) (by omega) (by omega)
    show mset (dHoN (nS D E z) l v n) 28 (nS D E z 71 (40 * l + n)) v = nS (mset (dHoN D l v n) 28 (D 71 (40 * l + n)) v) E z
    rw [e, ih (by omega), nS_m (by decide) (by omega) (by omega) (by omega) (by omega)]
theorem nS_cls {D : MS} {E : Int → Int} {z p : Int} (hI : ID D) (hp : 0 ≤ p ∧ p < 12) (h92 : 0 ≤ D 92 0) : dCls (nS D E z) p = nS (dCls D p) E z := by
  have e : nS D E z 70 (3 + p) = D 70 (3 + p) := nS_d (by omega) (by omega) (by omega) (by omega) (by omega)
  have h9 := hI.l9 hp
  have e92 : dHoN D (3 + p) 0 (D 70 (3 + p)).toNat 92 0 = D 92 0 := (dHoN_q _).1 _ _ (by decide)
  have e92b : mset (dHoN D (3 + p) 0 (D 70 (3 + p)).toNat) 70 (3 + p) 0 92 0 = D 92 0 := (mset_n (by decide)).trans e92
  show mset (mset (dHoN (nS D E z) (3 + p) 0 (nS D E z 70 (3 + p)).toNat) 70 (3 + p) 0) 54 p 1 = nS (mset (mset (dHoN D (3 + p) 0 (D 70 (3 + p)).toNat) 70 (3 + p) 0) 54 p 1) E z
  rw [e, nS_hon (by omega) h92 _ (by omega), nS_m (by decide) (by omega) (by omega) (by omega) (by omega), nS_m (by decide) (by omega) (by omega) (by omega) (by omega)]
theorem sCqN_v {M : MS} {p : Int} {f : Nat} {j : Int} : ∀ n : Nat, sCqN M p n f j = if f = 16 ∧ 27 * M 23 0 ≤ j ∧ j < 27 * M 23 0 + n then M 10 (9 * p + (j - 27 * M 23 0)) else M f j := by
  intro n
  induction n with
  | zero => rw [if_neg (by omega)]; rfl
  | succ n ih =>
    show mset (sCqN M p n) 16 (27 * M 23 0 + n) (M 10 (9 * p + n)) f j = _
    rw [mset2, ih]
    by_cases e : f = 16 ∧ j = 27 * M 23 0 + n
    · rw [if_pos e, if_pos (by omega), e.2, show 27 * M 23 0 + (n : Int) - 27 * M 23 0 = n by omega]
    · rw [if_neg e]
      by_cases e2 : f = 16 ∧ 27 * M 23 0 ≤ j ∧ j < 27 * M 23 0 + n
      · rw [if_pos e2, if_pos (by omega)]
      · rw [if_neg e2, if_neg (by omega)]
theorem g_quizOf {D M : MS} (H : DM D M) (p : Int) : AG [eIO, eUO, eIS] (d_quizOf D p) (s_quizOf M p) :=
  AG.ite (not_c (H.ip p)) (fun _ => .no 0 H.th rfl mset_s) (fun hp => by
    have hp := Classical.not_not.mp hp
    have hp' : 0 ≤ p ∧ p < D 91 0 := hp
    have hI := H.1.2.1
    have c := hI.c
    have h9 := hI.l9 (p := p) (by omega)
    have z3 := hI.a70 (3 + p)
    have i92 := hI.n.2.2
    have z47 := hI.a70 47
    obtain ⟨u1, u2, u3, u4⟩ := H.pp p hp
    obtain ⟨v1, v2, v3⟩ := H.hb hp
    have a6 := H.g1.2.1
    have e23 := H.nn.2.2
    have hc : (D 50 p ≠ D 6 0 ∨ D 54 p ≠ 0 ∨ D 70 (3 + p) = 0) ↔ (M 14 p ≠ 0 ∨ M 8 p ≠ M 24 0 ∨ M 11 p = 0) := by
      rw [u1, u4, a6]
      by_cases w : D 54 p = 0 ∧ D 50 p = D 6 0
      · have := (v3 (v2.mpr ⟨w.1, by omega⟩)).1
        omega
      · omega
    refine AG.ite hc (fun _ => .no 1 H.th rfl mset_s) (fun hno => AG.ite (by omega) (fun _ => .no 2 H.th rfl mset_s) (fun h30 => ?_))
    have hno2 : D 50 p = D 6 0 ∧ D 54 p = 0 := by omega
    obtain ⟨r1, r2⟩ := v3 (v2.mpr ⟨hno2.2, by omega⟩)
    rw [r1]
    -- the state before the sheet
    have hcq : ∀ f j, ¬ (f = 16 ∧ 27 * M 23 0 ≤ j) → sCqN (sT M 0) p (D 70 (3 + p)).toNat f j = sT M 0 f j := fun f j h => by
      have e : sT M 0 23 0 = M 23 0 := rfl
      rw [sCqN_v, e, if_neg (by omega)]
    have hDM : DM D (sCqN (sT M 0) p (D 70 (3 + p)).toNat) := by
      refine H.q oQ.rf (fun f j a b => (hcq f j b).trans (mset_n a.2.1)) hI ?_ H.2.2.2.2
      exact (sCqN_o H.2.1.th _).2
    have hps := PS.dr hDM hp
    obtain ⟨o1, o2⟩ := dCls_o p hI hp'
    have e92 : dCls D p 92 0 = D 92 0 := o1 _ _ (by decide)
    have e90 : dCls D p 90 0 = D 90 0 := o1 _ _ (by decide)
    have hX : dCls (dMs D (3 + p)) p = nS (dCls D p) (fun j => D 71 (40 * (3 + p) + j)) (D 70 (3 + p)) := by
      rw [dMs_n]
      exact nS_cls hI (by omega) (by omega)
    have hpl : pl D (3 + p) := Or.inl (by omega)
    have hX70 : nS (dCls D p) (fun j => D 71 (40 * (3 + p) + j)) (D 70 (3 + p)) 70 (15 + D 92 0) = D 70 (3 + p) := by
      unfold nS
      rw [if_neg (by omega), if_neg (by omega), if_neg (by omega), if_neg (by omega), if_pos ⟨rfl, by rw [e92]⟩]
    have eD : dSp (dCls (dMs D (3 + p)) p) (D 92 0) = dSet (dNS (dCls D p) (fun j => D 71 (40 * (3 + p) + j)) (D 70 (3 + p))) := by
      unfold dSp dNS
      rw [hX, hX70, e92]
    rw [eD]
    refine .set (PS.ns hps (by omega) (by omega) (fun k a b => ⟨?_, ?_, ?_⟩) (fun j k a b a' b' e => (H.1.2.2.1.1 (3 + p) j (3 + p) k hpl hpl a b a' b' e).2) ?_) (by omega) ?_
    · unfold iQ
      rw [e90]
      exact H.1.2.2.1.2.2 _ k hpl a b
    · show mset (mset (dHoN D (3 + p) 0 (D 70 (3 + p)).toNat) 70 (3 + p) 0) 54 p 1 28 (D 71 (40 * (3 + p) + k)) = 0
      rw [mset_n (by decide), mset_n (by decide)]
      rcases dHoN_v (D := D) (l := 3 + p) (v := 0) (q := D 71 (40 * (3 + p) + k)) (D 70 (3 + p)).toNat with ⟨x, -⟩ | ⟨x, y⟩
      · exact x
      · exact absurd rfl (y k a (by omega))
    · have e : sT M 0 23 0 = D 92 0 := e23
      rw [mset_n (by decide), sCqN_v, e, e92, if_pos (by omega), show 27 * D 92 0 + k - 27 * D 92 0 = k by omega]
      exact r2 k a b
    · have h1 := IDp_HoN (l := 15 + D 92 0) (v := 1) (IDp_Cls (p := p) (dMs_I (l := 3 + p) hI (by omega) (by omega)) (by omega)) (Or.inr rfl) (D 70 (3 + p)).toNat
      rw [hX] at h1
      unfold dNS
      rw [e92]
      exact h1
    · show mset (mset (mset (mset (sCqN (sT M 0) p (D 70 (3 + p)).toNat) 14 p 1) 17 _ _) 13 _ _) 23 0 _ 27 0 = 0
      rw [mset_n (by decide), mset_n (by decide), mset_n (by decide), mset_n (by decide), hcq 27 0 (by omega)]
      exact mset_s)

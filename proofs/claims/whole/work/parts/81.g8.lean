theorem sPick_no {f : Nat} {o : Int} {M : MS} {kd sz pl : Int} : ∀ n : Nat, sCc f o M kd sz n ≤ pl → sPick f o M kd sz pl n = -1 := by
  intro n
  induction n with
  | zero => intro _; rfl
  | succ n ih =>
    intro h
    have h : sCc f o M kd sz n + (@ite Int (sOk f o M kd sz n) (Classical.propDecidable _) 1 0) ≤ pl := h
    have h1 : sCc f o M kd sz n ≤ pl := by
      split at h <;> omega
    unfold sPick
    rw [ih h1, if_neg (fun w => w rfl)]
    by_cases e : sOk f o M kd sz n
    · rw [if_pos e] at h
      have ne : ¬ (sOk f o M kd sz n ∧ sCc f o M kd sz n = pl) := fun w => by have := w.2; omega
      rw [if_neg ne]
    · have ne : ¬ (sOk f o M kd sz n ∧ sCc f o M kd sz n = pl) := fun w => e w.1
      rw [if_neg ne]
theorem can_both {X Y : MS} (H : DM X Y) {f : Nat} {o kd n q : Int} (hn : X 70 1 = n) (he : ∀ k, 0 ≤ k → k < n → X 71 (40 * 1 + k) = Y f (o + k) ∧ iQ X (X 71 (40 * 1 + k))) (hq : iQ X q) : dCan X q kd 1 ↔ sOk f o Y kd n q := by
  have h3 := (H.qq q hq).2.1
  have h4 := (H.qq q hq).2.2.1
  have hf := H.1.fr hq
  unfold dCan sOk
  rw [h3, hf]
  refine ⟨fun ⟨a, b, d⟩ => ⟨⟨a, b⟩, fun j x y => ?_⟩, fun ⟨⟨a, b⟩, d⟩ => ⟨a, b, ?_⟩⟩
  · obtain ⟨e1, e2⟩ := he j x y
    have nr : X 26 (X 71 (40 * 1 + j)) ≠ X 26 q := fun w => d ⟨j, x, by omega, by omega, w⟩
    rw [← e1]
    refine ⟨fun w => nr (by rw [w]), fun w => nr ?_⟩
    have := w.2
    rw [(H.qq _ e2).2.2.1, h4] at this
    exact this
  · rintro ⟨k, x, y, y', w⟩
    obtain ⟨e1, e2⟩ := he k x (by omega)
    obtain ⟨d1, d2⟩ := d k x (by omega)
    rw [← e1] at d1 d2
    refine d2 ⟨d1, ?_⟩
    rw [(H.qq _ e2).2.2.1, h4]
    exact w
theorem gat_both {X Y : MS} (H : DM X Y) {f : Nat} {o kd n : Int} (hn : X 70 1 = n) (hn2 : n ≤ 39) (he : ∀ k, 0 ≤ k → k < n → X 71 (40 * 1 + k) = Y f (o + k) ∧ iQ X (X 71 (40 * 1 + k))) : ∀ N : Nat, (N : Int) ≤ X 90 0 → dGaN X kd N 70 2 = sCc f o Y kd n N ∧ ∀ pl, 0 ≤ pl → pl < sCc f o Y kd n N → dGaN X kd N 71 (40 * 2 + pl) = sPick f o Y kd n pl N := by
  have hI := H.1.2.1
  have c := hI.c
  intro N
  induction N with
  | zero =>
    intro _
    refine ⟨mset_s, fun pl a b => ?_⟩
    have b : pl < 0 := b
    omega
  | succ N ih =>
    intro hN
    obtain ⟨i1, i2⟩ := ih (by omega)
    obtain ⟨-, -, g3, g4⟩ := dGaN_o (kd := kd) hI N (by omega)
    have hcan : dCan (dGaN X kd N) N kd 1 ↔ sOk f o Y kd n N := by
      refine Iff.trans ?_ (can_both H hn he (q := (N : Int)) ⟨by omega, by omega⟩)
      have ee : ∀ F k, F ≠ 70 → F ≠ 71 → dGaN X kd N F k = X F k := fun F k a b => g4 F k (fun w => a w.1) (fun w => b w.1)
      have e70 : dGaN X kd N 70 1 = X 70 1 := g4 _ _ (by omega) (by omega)
      unfold dCan dAv dRel
      simp only [ee 23 _ (by decide) (by decide), ee 28 _ (by decide) (by decide), ee 30 _ (by decide) (by decide), ee 6 _ (by decide) (by decide), ee 26 _ (by decide) (by decide), e70]
      refine ⟨fun ⟨a, b, d⟩ => ⟨a, b, fun ⟨k, x, y, y', w⟩ => d ⟨k, x, y, y', ?_⟩⟩, fun ⟨a, b, d⟩ => ⟨a, b, fun ⟨k, x, y, y', w⟩ => d ⟨k, x, y, y', ?_⟩⟩⟩
      · rw [g4 71 _ (by omega) (by omega)]; exact w
      · rw [g4 71 _ (by omega) (by omega)] at w; exact w
    show (@ite MS (dCan (dGaN X kd N) N kd 1) (Classical.propDecidable _) (dAd (dGaN X kd N) 2 N) (dGaN X kd N)) 70 2 = sCc f o Y kd n N + (@ite Int (sOk f o Y kd n N) (Classical.propDecidable _) 1 0) ∧ ∀ pl, 0 ≤ pl → pl < sCc f o Y kd n N + (@ite Int (sOk f o Y kd n N) (Classical.propDecidable _) 1 0) → (@ite MS (dCan (dGaN X kd N) N kd 1) (Classical.propDecidable _) (dAd (dGaN X kd N) 2 N) (dGaN X kd N)) 71 (40 * 2 + pl) = (if sPick f o Y kd n pl N ≠ -1 then sPick f o Y kd n pl N else @ite Int (sOk f o Y kd n N ∧ sCc f o Y kd n N = pl) (Classical.propDecidable _) N (-1))
    by_cases e : sOk f o Y kd n N
    · rw [if_pos (hcan.mpr e), if_pos e]
      refine ⟨?_, fun pl a b => ?_⟩
      · show mset (mset (dGaN X kd N) 71 _ _) 70 2 (dGaN X kd N 70 2 + 1) 70 2 = _
        rw [mset_s, i1]
      · show mset (mset (dGaN X kd N) 71 (40 * 2 + dGaN X kd N 70 2) N) 70 2 _ 71 (40 * 2 + pl) = _
        rw [mset_n (by decide), mset_f, i1]
        by_cases e2 : pl < sCc f o Y kd n N
        · rw [if_neg (by omega), if_pos (sPick_ex a N e2)]
          exact i2 pl a e2
        · have e3 : pl = sCc f o Y kd n N := by omega
          have e4 : sOk f o Y kd n N ∧ sCc f o Y kd n N = pl := ⟨e, e3.symm⟩
          rw [if_pos (by omega), sPick_no N (by omega), if_neg (fun w => w rfl), if_pos e4]
    · rw [if_neg (fun w => e (hcan.mp w)), if_neg e]
      refine ⟨by rw [i1]; omega, fun pl a b => ?_⟩
      have b2 : pl < sCc f o Y kd n N := by omega
      rw [if_pos (sPick_ex a N b2)]
      exact i2 pl a b2
/-- drawing on both sides -/
def DrR (D M : MS) (f : Nat) (o n : Int) (x y : MS × Int × Int) : Prop :=
  (x.2.1 = y.2.1 ∧ x.2.2 = y.2.2 ∧ 0 ≤ y.2.1 ∧ y.2.1 ≤ 1008) ∧ oQ D x.1 ∧ (∀ g j, ¬ (g = f ∧ o ≤ j) → y.1 g j = M g j) ∧ DM x.1 y.1 ∧
  (y.2.2 ≠ 0 → x.1 70 1 = n ∧ (∀ k, 0 ≤ k → k < n → x.1 71 (40 * 1 + k) = y.1 f (o + k) ∧ iQ x.1 (x.1 71 (40 * 1 + k)) ∧ x.1 28 (x.1 71 (40 * 1 + k)) = 0) ∧ ∀ j k, 0 ≤ j → j < k → k < n → x.1 71 (40 * 1 + j) ≠ x.1 71 (40 * 1 + k))
theorem DrR.st {D M : MS} {f : Nat} {o n e m : Int} (hfo : (f = 16 ∧ o = 27 * M 23 0) ∨ (f = 30 ∧ o = 0)) (hn : 0 ≤ n ∧ n ≤ 26) (hD : DM D M) {x y : MS × Int × Int} (R : DrR D M f o n x y) : DrR D M f o (n + 1) (dDr1 e m x n) (sDr1 f o (M 20 0) e m y n) := by
  obtain ⟨⟨r1, r2, r3, r3'⟩, r4, r5, r6, r7⟩ := id R
  have hI := r6.1.2.1
  have c := hI.c
  have e20 : M 20 0 = x.1 90 0 := by
    rw [← r6.nn.1]
    exact (r5 20 0 (by omega)).symm
  have i90 := hI.n.1
  have z45 := hI.a70 45
  unfold dDr1 sDr1
  rw [r2]
  by_cases h0 : y.2.2 = 0
  · rw [if_pos h0, if_pos h0]
    exact ⟨⟨r1, r2, r3, r3'⟩, r4, r5, r6, fun w => absurd h0 w⟩
  · rw [if_neg h0, if_neg h0]
    obtain ⟨s1, s2, s3⟩ := r7 h0
    obtain ⟨g1, g2⟩ := gat_both r6 (f := f) (o := o) (kd := sDk e m n) s1 (by omega) (fun k a b => ⟨(s2 k a b).1, (s2 k a b).2.1⟩) (x.1 90 0).toNat (by omega)
    obtain ⟨-, p2, p3, p4⟩ := dGaN_o (kd := sDk e m n) hI (x.1 90 0).toNat (by omega)
    rw [e20, g1]
    have oG : oQ D (dGaN x.1 (sDk e m n) (x.1 90 0).toNat) := fun F k a b d => (p4 F k (fun w => b ⟨w.1, by omega⟩) (fun w => d ⟨w.1, by omega⟩)).trans (r4 F k a b d)
    have oGx : oQ x.1 (dGaN x.1 (sDk e m n) (x.1 90 0).toNat) := fun F k a b d => p4 F k (fun w => b ⟨w.1, by omega⟩) (fun w => d ⟨w.1, by omega⟩)
    have h29 : ∀ k, dGaN x.1 (sDk e m n) (x.1 90 0).toNat 29 k = x.1 29 k := fun k => p4 29 k (by omega) (by omega)
    have hDG : DM (dGaN x.1 (sDk e m n) (x.1 90 0).toNat) y.1 := r6.q oGx (fun _ _ _ _ => rfl) p2 r6.2.1 (fun k => by rw [h29]; exact r6.2.2.2.2 k)
    by_cases hz : sCc f o y.1 (sDk e m n) n (x.1 90 0).toNat = 0
    · rw [if_pos hz, if_pos hz]
      exact ⟨⟨r1, rfl, r3, r3'⟩, oG, r5, hDG, fun w => absurd rfl w⟩
    · rw [if_neg hz, if_neg hz]
      have hcr := (sCc_r (f := f) (o := o) (M := y.1) (kd := sDk e m n) (sz := n) (x.1 90 0).toNat).1
      have hm1 : 0 ≤ y.2.1 % sCc f o y.1 (sDk e m n) n (x.1 90 0).toNat := Int.emod_nonneg _ hz
      have hm2 : y.2.1 % sCc f o y.1 (sDk e m n) n (x.1 90 0).toNat < sCc f o y.1 (sDk e m n) n (x.1 90 0).toNat := Int.emod_lt_of_pos _ (by omega)
      rw [r1, g2 _ hm1 hm2]
      generalize hpl : y.2.1 % sCc f o y.1 (sDk e m n) n (x.1 90 0).toNat = pl at hm1 hm2
      obtain ⟨k1, k2, k3⟩ := sPick_ok _ (sPick_ex hm1 _ hm2)
      generalize hQ : sPick f o y.1 (sDk e m n) n pl (x.1 90 0).toNat = Q at k1 k2 k3
      have hq : iQ x.1 Q := ⟨k1, by omega⟩
      have hcan := (can_both r6 (f := f) (o := o) (kd := sDk e m n) s1 (fun k a b => ⟨(s2 k a b).1, (s2 k a b).2.1⟩) hq).mpr k3
      obtain ⟨-, hav, hnr⟩ := hcan
      have eG70 : dGaN x.1 (sDk e m n) (x.1 90 0).toNat 70 1 = n := (p4 70 1 (by omega) (by omega)).trans s1
      generalize hG : dGaN x.1 (sDk e m n) (x.1 90 0).toNat = G at p2 p3 p4 oG oGx h29 hDG eG70
      have eA : ∀ F k, ¬ (F = 70 ∧ k = 1) → ¬ (F = 71 ∧ k = 40 * 1 + n) → dAd G 1 Q F k = G F k := fun F k a b => by
        show mset (mset G 71 (40 * 1 + G 70 1) Q) 70 1 (G 70 1 + 1) F k = _
        rw [mset2, if_neg a, eG70, mset2, if_neg b]
      have eA70 : dAd G 1 Q 70 1 = n + 1 := by
        show mset (mset G 71 (40 * 1 + G 70 1) Q) 70 1 (G 70 1 + 1) 70 1 = _
        rw [mset_s, eG70]
      have eA71 : ∀ k, 0 ≤ k → k < 40 → dAd G 1 Q 71 (40 * 1 + k) = if k = n then Q else x.1 71 (40 * 1 + k) := fun k a b => by
        show mset (mset G 71 (40 * 1 + G 70 1) Q) 70 1 (G 70 1 + 1) 71 (40 * 1 + k) = _
        rw [mset_n (by decide), mset_f, eG70]
        by_cases e : k = n
        · rw [if_pos (by omega), if_pos e]
        · rw [if_neg (by omega), if_neg e]
          exact p4 71 _ (by omega) (by omega)
      have oA1 : oQ G (dAd G 1 Q) := fun F k a b d => eA F k (fun w => b ⟨w.1, by omega⟩) (fun w => d ⟨w.1, by omega⟩)
      have hI9 : ID (dAd G 1 Q) := p2.ad (by omega) (by omega) (fun _ _ => by omega) (fun _ => by omega)
      have hIM9 : IM (mset y.1 f (o + n) Q) := by
        have := r6.2.1
        rcases hfo with ⟨rfl, -⟩ | ⟨rfl, -⟩
        · exact this.s16 ⟨k1, by omega⟩
        · exact this.s30 ⟨k1, by omega⟩
      have mq9 : mQ y.1 (mset y.1 f (o + n) Q) := fun F k a b => by
        rw [mset2, if_neg]
        rintro ⟨rfl, rfl⟩
        rcases hfo with ⟨h1, h2⟩ | ⟨h1, h2⟩
        · have e23 : y.1 23 0 = M 23 0 := r5 23 0 (by omega)
          exact b ⟨h1, by rw [e23, h2]; omega⟩
        · exact a.2.2.2 h1
      have hDM9 : DM (dAd G 1 Q) (mset y.1 f (o + n) Q) := hDG.q oA1 mq9 hI9 hIM9 (fun k => by rw [eA 29 k (by omega) (by omega)]; exact hDG.2.2.2.2 k)
      refine ⟨⟨rfl, rfl, ?_⟩, fun F k a b d => ?_, fun g j h => ?_, hDM9, fun _ => ⟨eA70, fun k a b => ?_, fun j k a b d => ?_⟩⟩
      · show 0 ≤ (y.2.1 * 5 + 3) % 1009 ∧ (y.2.1 * 5 + 3) % 1009 ≤ 1008
        omega
      · exact (oA1 F k a b d).trans (oG F k a b d)
      · show mset y.1 f (o + n) Q g j = M g j
        rw [mset2, if_neg (fun w => h ⟨w.1, by omega⟩)]
        exact r5 g j h
      · have e28 : ∀ k, dAd G 1 Q 28 k = x.1 28 k := fun k => (eA 28 k (by omega) (by omega)).trans (p4 28 k (by omega) (by omega))
        have e90 : dAd G 1 Q 90 0 = x.1 90 0 := (eA 90 0 (by omega) (by omega)).trans (p4 90 0 (by omega) (by omega))
        show dAd G 1 Q 71 (40 * 1 + k) = mset y.1 f (o + n) Q f (o + k) ∧ iQ (dAd G 1 Q) (dAd G 1 Q 71 (40 * 1 + k)) ∧ dAd G 1 Q 28 (dAd G 1 Q 71 (40 * 1 + k)) = 0
        unfold iQ
        rw [eA71 k a (by omega), e28, e90, mset_f]
        by_cases e : k = n
        · rw [if_pos e, if_pos (by omega)]
          exact ⟨rfl, hq, hav.1⟩
        · rw [if_neg e, if_neg (by omega)]
          exact s2 k a (by omega)
      · show dAd G 1 Q 71 (40 * 1 + j) ≠ dAd G 1 Q 71 (40 * 1 + k)
        rw [eA71 j a (by omega), eA71 k (by omega) (by omega), if_neg (by omega)]
        by_cases e : k = n
        · rw [if_pos e]
          intro w
          exact hnr ⟨j, a, by omega, by omega, by rw [w]⟩
        · rw [if_neg e]
          exact s3 j k a b (by omega)
theorem DrR.all {D M : MS} {f : Nat} {o sd e m : Int} (hfo : (f = 16 ∧ o = 27 * M 23 0) ∨ (f = 30 ∧ o = 0)) (hD : DM D M) (hs : 0 ≤ sd ∧ sd ≤ 1008) : ∀ n : Nat, n ≤ 27 → DrR D M f o n (dDr D sd e m n) (sDr f o M sd e m n) := by
  intro n
  induction n with
  | zero =>
    intro _
    have o1 : oQ D (mset D 70 1 0) := fun F k a b d => by rw [mset2, if_neg (fun w => b ⟨w.1, by omega⟩)]
    refine ⟨⟨rfl, rfl, hs⟩, o1, fun _ _ _ => rfl, hD.q o1 (fun _ _ _ _ => rfl) (hD.1.2.1.cl (by omega)) hD.2.1 hD.2.2.2.2, fun _ => ⟨(show mset D 70 1 0 70 1 = 0 from mset_s), fun k a b => ?_, fun j k a b d => ?_⟩⟩
    · have b : k < ((0 : Nat) : Int) := b
      omega
    · have d : k < ((0 : Nat) : Int) := d
      omega
  | succ n ih =>
    intro hn
    exact DrR.st hfo (by omega) hD (ih (by omega))
theorem g_quiz {D M : MS} (H : DM D M) (sd ne nm nh : Int) : AG [eIA, eNS, eIS] (d_quiz D sd ne nm nh) (s_quiz M sd ne nm nh) := by
  have hI := H.1.2.1
  have c := hI.c
  have e23 := H.nn.2.2
  have i92 := hI.n.2.2
  have z47 := hI.a70 47
  unfold d_quiz s_quiz
  rw [e23]
  by_cases h1 : (sd < 0 ∨ 1008 < sd) ∨ (ne < 0 ∨ 9 < ne) ∨ (nm < 0 ∨ 9 < nm) ∨ (nh < 0 ∨ 9 < nh)
  · have n1 : ¬ ((0 ≤ sd ∧ sd ≤ 1008) ∧ (0 ≤ ne ∧ ne ≤ 9) ∧ (0 ≤ nm ∧ nm ≤ 9) ∧ (0 ≤ nh ∧ nh ≤ 9) ∧ 0 < ne + nm + nh) := by omega
    rw [if_pos h1, if_pos n1]
    exact .no 0 H.th rfl mset_s
  rw [if_neg h1]
  by_cases h2 : ne + nm + nh = 0
  · have n1 : ¬ ((0 ≤ sd ∧ sd ≤ 1008) ∧ (0 ≤ ne ∧ ne ≤ 9) ∧ (0 ≤ nm ∧ nm ≤ 9) ∧ (0 ≤ nh ∧ nh ≤ 9) ∧ 0 < ne + nm + nh) := by omega
    rw [if_pos h2, if_pos n1]
    exact .no 0 H.th rfl mset_s
  have n1 : ¬ ¬ ((0 ≤ sd ∧ sd ≤ 1008) ∧ (0 ≤ ne ∧ ne ≤ 9) ∧ (0 ≤ nm ∧ nm ≤ 9) ∧ (0 ≤ nh ∧ nh ≤ 9) ∧ 0 < ne + nm + nh) := by omega
  rw [if_neg h2, if_neg n1]
  have hn27 : (ne + nm + nh).toNat ≤ 27 := by omega
  have hT : DM D (sT M 0) := H.th
  by_cases h30 : D 92 0 = 30
  · obtain ⟨⟨-, r2, -⟩, -, r5, r6, -⟩ := DrR.all (e := ne) (m := nm) (Or.inr ⟨rfl, rfl⟩) hT (f := 30) (o := 0) (sd := sd) (by omega) _ hn27
    have n2 : 30 ≤ D 92 0 := by omega
    rw [r2, if_pos h30]
    by_cases ok : (sDr 30 0 (sT M 0) sd ne nm (ne + nm + nh).toNat).2.2 = 1
    · have ok2 : ¬ ¬ (sDr 30 0 (sT M 0) sd ne nm (ne + nm + nh).toNat).2.2 = 1 := fun w => w ok
      rw [if_neg ok2, if_pos n2, if_pos ok]
      exact .no 2 r6.th rfl mset_s
    · rw [if_pos ok, if_neg ok]
      exact .no 1 r6.th rfl mset_s
  · have R := DrR.all (e := ne) (m := nm) (Or.inl ⟨rfl, rfl⟩) hT (f := 16) (sd := sd) (by omega) (ne + nm + nh).toNat hn27
    have e27 : (27 * sT M 0 23 0) = 27 * D 92 0 := by rw [← e23]; rfl
    rw [e27] at R
    obtain ⟨⟨-, r2, -⟩, r4, r5, r6, r7⟩ := R
    have n2 : ¬ 30 ≤ D 92 0 := by omega
    rw [r2, if_neg h30]
    have h01 := (sDr_o (f := 16) (Or.inl rfl) (o := 27 * D 92 0) (e := ne) (m := nm) hT.2.1 (show 0 ≤ sd ∧ sd ≤ 1008 by omega) (ne + nm + nh).toNat).2.2.2
    have e920 : (dDr D sd ne nm (ne + nm + nh).toNat).1 92 0 = D 92 0 := r4 92 0 (by omega) (by omega) (by omega)
    have t27 : (sDr 16 (27 * D 92 0) (sT M 0) sd ne nm (ne + nm + nh).toNat).1 27 0 = 0 := (r5 27 0 (by omega)).trans mset_s
    by_cases ok : (sDr 16 (27 * D 92 0) (sT M 0) sd ne nm (ne + nm + nh).toNat).2.2 = 0
    · have ok2 : ¬ (sDr 16 (27 * D 92 0) (sT M 0) sd ne nm (ne + nm + nh).toNat).2.2 = 1 := by omega
      rw [if_pos ok2, if_pos ok]
      exact .no 1 r6.th rfl mset_s
    · have ok2 : ¬ ¬ (sDr 16 (27 * D 92 0) (sT M 0) sd ne nm (ne + nm + nh).toNat).2.2 = 1 := by omega
      rw [if_neg ok2, if_neg n2, if_neg ok]
      obtain ⟨s1, s2, s3⟩ := r7 ok
      have es : (((ne + nm + nh).toNat : Nat) : Int) = ne + nm + nh := by omega
      rw [es] at s1 s2 s3
      generalize (dDr D sd ne nm (ne + nm + nh).toNat).1 = X at r4 r6 s1 s2 s3 e920
      generalize (sDr 16 (27 * D 92 0) (sT M 0) sd ne nm (ne + nm + nh).toNat).1 = Y at r5 r6 s2 t27
      have hX70 : nS X (fun j => X 71 (40 * 1 + j)) (X 70 1) 70 (15 + X 92 0) = X 70 1 := by
        unfold nS
        rw [if_neg (by omega), if_neg (by omega), if_neg (by omega), if_neg (by omega), if_pos ⟨rfl, rfl⟩]
      have eD : dSp (dMs X 1) (D 92 0) = dSet (dNS X (fun j => X 71 (40 * 1 + j)) (ne + nm + nh)) := by
        rw [← e920, ← s1]
        unfold dSp dNS
        rw [dMs_n, hX70]
      rw [eD]
      refine .set (PS.ns r6.ps (by omega) (by omega) (fun k a b => ⟨(s2 k a b).2.1, (s2 k a b).2.2, by rw [e920]; exact (s2 k a b).1.symm⟩) (fun j k a b a' b' e => ?_) ?_) (by omega) ?_
      · rcases Int.lt_trichotomy j k with h | h | h
        · exact absurd e (s3 j k a h b')
        · exact h
        · exact absurd e.symm (s3 k j a' h b)
      · have h1 := IDp_HoN (l := 15 + X 92 0) (v := 1) (dMs_I (l := 1) r6.1.2.1 (by omega) (by omega)) (Or.inr rfl) (ne + nm + nh).toNat
        rw [dMs_n, s1] at h1
        exact h1
      · show mset (mset (mset Y 17 _ _) 13 _ _) 23 0 _ 27 0 = 0
        rw [mset_n (by decide), mset_n (by decide), mset_n (by decide)]
        exact t27

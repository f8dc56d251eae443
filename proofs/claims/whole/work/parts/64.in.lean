/-- a question made -/
def qH (h : AH) (a0 : Nat) (n : Int) (a1 : Nat) (lv : Int) : AH := h_si (h_si (h_si (h_sr (h_si (h_si (h_sr (h_mk h 23 30 30) a0 4 (h_n h)) a0 10 (-1)) a0 0 n) a0 1 a1) a0 2 lv) a0 3 lv) a0 6 n
theorem T_X1_init (g : GP) {h : AH} (a0 a1 : Nat) (n lv : Int) (hk : h_k h a0 = 7) (h0 : a0 ≠ 0) (han : a0 ≠ h_n h) (h1 : h_n h + 1 ≤ z_CC) (h2 : h_u h + 30 ≤ z_CS) : TrI g m_X1_init 2 [xR a0, xI n, xR a1, xI lv] h (fun r h' => r = .inl none ∧ h' = qH h a0 n a1 lv) := by
  refine TrI.ofTr ?_ (fun _ _ z => nomatch z.1)
  refine Tr.ofV (by decide) rfl (fun v hv => by simp only [List.mem_cons, List.not_mem_nil, or_false] at hv; rcases hv with rfl | rfl | rfl | rfl <;> first | rfl | exact cat_R) (Nat.le_of_ble_eq_true rfl) ?_
  change V g m_X1_init 2 _ h 0 [xR a0, xI n, xR a1, xI lv] []
  refine V_aload_n dX1_init_0 rfl ?_
  refine V_objInit dX1_init_1 w_ob_RX1_3 w_ob1 w_ob2 (by decide) (st4 (Nat.le_of_ble_eq_true rfl)) h0 ?_
  refine V_aload_n dX1_init_4 rfl ?_
  refine V_bipush dX1_init_5 (by decide) ?_
  refine V_newa3 (n := 30) dX1_init_7 w_arr3 rfl (by omega) h1 h2 ?_
  have k0 : h_k (h_mk h 23 30 30) a0 = 7 := (mk_k (k := 23) (n := 30) (N := 30) han).trans hk
  refine V_putRF dX1_init_9 f_RX1_9 rfl rfl rfl k0 ?_
  refine V_aload_n dX1_init_12 rfl ?_
  refine V_iconst dX1_init_13 ?_
  refine V_putI dX1_init_14 f_RX1_15 rfl k0 ?_
  refine V_aload_n dX1_init_17 rfl ?_
  refine V_iload_n dX1_init_18 rfl ?_
  refine V_putIF dX1_init_19 f_RX1_19 rfl rfl k0 ?_
  refine V_aload_n dX1_init_22 rfl ?_
  refine V_aload_n dX1_init_23 rfl ?_
  refine V_putRF dX1_init_24 f_RX1_22 rfl rfl rfl k0 ?_
  refine V_aload_n dX1_init_27 rfl ?_
  refine V_iload_n dX1_init_28 rfl ?_
  refine V_putIF dX1_init_29 f_RX1_26 rfl rfl k0 ?_
  refine V_aload_n dX1_init_32 rfl ?_
  refine V_iload_n dX1_init_33 rfl ?_
  refine V_putI dX1_init_34 f_RX1_29 rfl k0 ?_
  refine V_aload_n dX1_init_37 rfl ?_
  refine V_iload_n dX1_init_38 rfl ?_
  refine V_putI dX1_init_39 f_RX1_32 rfl k0 ?_
  refine V_vret dX1_init_42 rfl ?_
  exact ⟨rfl, rfl⟩
/-- a plan made -/
def pH (h : AH) (a0 : Nat) (w kd n : Int) : AH := h_si (h_si (h_si (h_sr (h_sr (h_si (h_mk h 5 0 3) (h_n h) 0 0) (h_n h) 1 1) a0 3 (h_n h)) a0 0 w) a0 1 kd) a0 2 n
theorem T_X0_init (g : GP) {h : AH} (a0 : Nat) (w kd n : Int) (hkd : 0 ≤ kd ∧ kd < 65536) (hk : h_k h a0 = 6) (h0 : a0 ≠ 0) (hn0 : h_n h ≠ 0) (han : a0 ≠ h_n h) (h1 : h_n h + 1 ≤ z_CC) (h2 : h_u h + 3 ≤ z_CS) : TrI g m_X0_init 4 [xR a0, xI w, xI kd, xI n] h (fun r h' => r = .inl none ∧ h' = pH h a0 w kd n) := by
  refine TrI.ofTr ?_ (fun _ _ z => nomatch z.1)
  refine Tr.ofV (by decide) rfl (fun v hv => by simp only [List.mem_cons, List.not_mem_nil, or_false] at hv; rcases hv with rfl | rfl | rfl | rfl <;> first | rfl | exact cat_R) (Nat.le_of_ble_eq_true rfl) ?_
  change V g m_X0_init 4 _ h 0 [xR a0, xI w, xI kd, xI n] []
  refine V_aload_n dX0_init_0 rfl ?_
  refine V_objInit dX0_init_1 w_ob_RX0_1 w_ob1 w_ob2 (by decide) (st4 (Nat.le_of_ble_eq_true rfl)) h0 ?_
  refine V_aload_n dX0_init_4 rfl ?_
  refine V_new (N := 3) dX0_init_5 n_RX0_7 rfl h1 h2 ?_
  refine V_dup dX0_init_8 cat_R ?_
  refine V_cI (as := []) dX0_init_9 c_RX0_9 rfl (by decide) rfl (Nat.le_of_ble_eq_true rfl) hn0 (I_list g (h_n h) (mk_ks (k := 5) (n := 0) (N := 3)) hn0) (fun v9 h9 p9 => ?_)
  obtain ⟨p1, rfl⟩ := p9
  cases p1
  have k0 : h_k (h_mk h 5 0 3) a0 = 6 := (mk_k (k := 5) (n := 0) (N := 3) han).trans hk
  refine V_putRF dX0_init_12 f_RX0_10 rfl rfl rfl k0 ?_
  refine V_aload_n dX0_init_15 rfl ?_
  refine V_iload_n dX0_init_16 rfl ?_
  refine V_putIF dX0_init_17 f_RX0_16 rfl rfl k0 ?_
  refine V_aload_n dX0_init_20 rfl ?_
  refine V_iload_n dX0_init_21 rfl ?_
  refine V_putCF dX0_init_22 f_RX0_20 rfl hkd rfl k0 ?_
  refine V_aload_n dX0_init_25 rfl ?_
  refine V_iload_n dX0_init_26 rfl ?_
  refine V_putIF dX0_init_27 f_RX0_24 rfl rfl k0 ?_
  refine V_vret dX0_init_30 rfl ?_
  exact ⟨rfl, rfl⟩
theorem LR.ext {B : Nat} {h h' : AH} {a b C : Nat} {n : Int} {E : Int → Nat} (H : LR h a n b C E) (X : Ext B h h') (ha : a < B) (hb : C ≠ 0 → b < B) : LR h' a n b C E := by
  obtain ⟨m1, m2, m3, m4, m5, m6, m7⟩ := H
  refine ⟨by rw [(X a ha).1]; exact m1, by rw [(X a ha).2.2.2]; exact m2, by rw [(X a ha).2.2.1]; exact m3, m4, m5, fun c0 => by rw [(X b (hb c0)).1, (X b (hb c0)).2.1]; exact m6 c0, fun k hk => ?_⟩
  have c0 : C ≠ 0 := by omega
  rw [(X b (hb c0)).2.2.2]
  exact m7 k hk
/-- while a sheet is made -/
def XI (A : AD) (D : MS) (l : Int) (h hc : AH) (k : Int) : Prop := Ext (h_n h) h hc ∧ h_n h + 2 ≤ h_n hc ∧ (∀ q, h_k hc q ≠ 0 → 8 ≤ q ∧ q < h_n hc) ∧ (h_k hc (h_n h) = 8 ∧ h_r hc (h_n h) 0 = h_n h + 1 ∧ h_i hc (h_n h) 2 = 115) ∧
  ∃ b C, LR hc (h_n h + 1) k b C (fun j => A 0 (D 71 (40 * l + j))) ∧ C ≤ 60 ∧ (C ≠ 0 → h_n h ≤ b) ∧ h_n hc ≤ h_n h + 2 + C ∧ h_u hc ≤ h_u h + 6 + 4 * C
theorem XI.ad {A : AD} {D : MS} {l k : Int} {h hc : AH} {b C : Nat} (x1 : Ext (h_n h) h hc) (x2 : h_n h + 2 ≤ h_n hc) (x3 : ∀ q, h_k hc q ≠ 0 → 8 ≤ q ∧ q < h_n hc) (x4 : h_k hc (h_n h) = 8 ∧ h_r hc (h_n h) 0 = h_n h + 1 ∧ h_i hc (h_n h) 2 = 115) (L : LR hc (h_n h + 1) k b C (fun j => A 0 (D 71 (40 * l + j)))) (hC : C ≤ 60) (hb : C ≠ 0 → h_n h ≤ b) (n1 : h_n hc ≤ h_n h + 2 + C) (n2 : h_u hc ≤ h_u h + 6 + 4 * C) (h8 : 8 ≤ h_n h) (hk : k ≤ 39) (z : Int) :
    XI A D l h (aH (h_si hc (h_n h + 1) 0 z) (h_n h + 1) b k C (A 0 (D 71 (40 * l + k)))) (k + 1) := by
  have han : h_n h + 1 ≠ h_n hc := by omega
  have hbn : C ≠ 0 → b ≠ h_n hc := fun c0 => by have := x3 b (by rw [(L.2.2.2.2.2.1 c0).1]; decide); omega
  have hab := L.ab (by omega)
  obtain ⟨b2, C2, q1, q2⟩ := aH_ok (e := A 0 (D 71 (40 * l + k))) (E2 := fun j => A 0 (D 71 (40 * l + j))) (L.mc (z := z)) han hbn hab hk hC (fun _ _ _ => rfl) rfl
  have q1 := q1.mc
  obtain ⟨c1, c2, c3⟩ := q1
  have hb2 : C2 ≠ 0 → h_n h ≤ b2 := by
    rcases c1 with ⟨e1, e2, -⟩ | ⟨e1, -⟩
    · rw [e1, e2]; exact hb
    · intro _; omega
  have hne : ∀ q, q < h_n h + 1 → q ≠ b2 := by
    intro q hq e
    rcases c1 with ⟨e1, e2, -⟩ | ⟨e1, -⟩
    · by_cases c0 : C = 0
      · have e3 := L.2.2.2.2.1 c0
        have m4 := L.2.2.2.1
        have r4 := q2.2.2.2.1
        omega
      · have := hb c0
        have e4 : q = h_n h := by omega
        have := (L.2.2.2.2.2.1 c0).1
        rw [← e1, ← e, e4, x4.1] at this
        omega
    · omega
  have hkl : ∀ q, q < h_n h + 1 → h_k (aH (h_si hc (h_n h + 1) 0 z) (h_n h + 1) b k C (A 0 (D 71 (40 * l + k)))) q = h_k hc q ∧ h_l (aH (h_si hc (h_n h + 1) 0 z) (h_n h + 1) b k C (A 0 (D 71 (40 * l + k)))) q = h_l hc q := by
    intro q hq
    rcases c1 with ⟨-, -, -, -, e⟩ | ⟨-, -, -, -, -, -, e⟩
    · exact e q
    · exact e q (hne q hq)
  refine ⟨fun q hq => ⟨(hkl q (by omega)).1.trans (x1 q hq).1, (hkl q (by omega)).2.trans (x1 q hq).2.1, fun j => (c2 q j (by omega) (hne q (by omega))).trans ((x1 q hq).2.2.1 j), fun j => (c3 q j (by omega) (hne q (by omega))).trans ((x1 q hq).2.2.2 j)⟩, ?_, fun q hq => ?_, ⟨?_, ?_, ?_⟩, b2, C2, q2, ?_, hb2, ?_, ?_⟩
  · rcases c1 with ⟨-, -, e, -⟩ | ⟨-, -, -, e, -⟩ <;> omega
  · rcases c1 with ⟨-, -, e, -, e2⟩ | ⟨e0, -, -, e, -, -, e2⟩
    · rw [(e2 q).1] at hq
      have := x3 q hq
      omega
    · by_cases e3 : q = b2
      · omega
      · rw [(e2 q e3).1] at hq
        have := x3 q hq
        omega
  · rw [(hkl _ (by omega)).1]; exact x4.1
  · rw [c3 _ _ (by omega) (hne _ (by omega))]; exact x4.2.1
  · rw [c2 _ _ (by omega) (hne _ (by omega))]; exact x4.2.2
  · rcases c1 with ⟨-, e, -⟩ | ⟨-, -, e, -⟩ <;> omega
  · rcases c1 with ⟨-, e, e2, -⟩ | ⟨-, e, -, e2, -⟩ <;> omega
  · rcases c1 with ⟨-, e, -, e2, -⟩ | ⟨-, e, -, -, e2, -⟩ <;> omega
theorem T_X2_init (g : GP) {h : AH} {A : AD} {D : MS} {N U : Nat} (hM : DR h A D N U) (l : Int) (hv : vL D l) (hl : l ≠ 46 ∧ l ≠ 47) (h27 : D 70 l ≤ 27) (hs : D 92 0 ≤ 29) (hN : N + 200 ≤ z_CC) (hU : U + 5000 ≤ z_CS) : TrI g m_X2_init 9 [xR (h_n h), xR (A 6 l)] (h_mk h 8 0 3) (fun r h' => r = .inl none ∧ ∃ a1 a2, DR h' (aMs A D (h_n h) a1 a2) (dMs D l) (N + 4) (U + 200) ∧ Ext (h_n h) h h') := by
  refine TrI.ofTr ?_ (fun _ _ z => nomatch z.1)
  refine Tr.ofV (by decide) rfl (fun v hv => by simp only [List.mem_cons, List.not_mem_nil, or_false] at hv; rcases hv with rfl | rfl <;> exact cat_R) (Nat.le_of_ble_eq_true rfl) ?_
  obtain ⟨b, C, L, hC, hE, -⟩ := hM.lst hv
  have hb := hM.b
  have hrm : h_n h ≤ N ∧ h_u h ≤ U := by
    obtain ⟨tg, bw, cp, bt, ct, -, -, -, -, -, -, c1, c2, c3, -⟩ := hM
    omega
  have va := hM.ge (vAl hv)
  have hbl : C ≠ 0 → b < h_n h := fun c0 => (hb.1 b (by rw [(L.2.2.2.2.2.1 c0).1]; decide)).2
  have h41 := hb.2.1
  have hent : ∀ k, 0 ≤ k → k < D 70 l → 0 ≤ D 71 (40 * l + k) ∧ D 71 (40 * l + k) < D 90 0 := fun k a c => hM.le2 hl hv ⟨a, c⟩
  have L : LR h (A 6 l) (D 70 l) b C (fun k => A 0 (D 71 (40 * l + k))) := by
    obtain ⟨m1, m2, m3, m4, m5, m6, m7⟩ := L
    exact ⟨m1, m2, m3, m4, m5, m6, fun k hk => (m7 k hk).trans (eAq hl)⟩
  have hn0 := L.2.2.2.1
  have lp : ∀ k : Int, (0 ≤ k ∧ k ≤ D 70 l) → ∀ hc, XI A D l h hc k → V g m_X2_init 9 (fun r h' => r = .inl none ∧ ∃ a1 a2, DR h' (aMs A D (h_n h) a1 a2) (dMs D l) (N + 4) (U + 200) ∧ Ext (h_n h) h h') hc 23 [xR (h_n h), xR (A 6 l), xI k] [] := by
    refine lp_up (D 70 l) (fun k ih => ?_)
    intro hk hc hx
    obtain ⟨x1, x2, x3, x4, b2, C2, L2, y1, y2, y3, y4⟩ := id hx
    have L1 := L.ext x1 va.2.1 hbl
    refine V_iload_n dX2_init_23 rfl ?_
    refine V_aload_n dX2_init_24 rfl ?_
    refine V_pV (as := []) dX2_init_25 c_RX2_22 rfl (by decide) rfl (Nat.le_of_ble_eq_true rfl) L1.1 (T_Jx4a65c_size_8abf5 g (A 6 l) (D 70 l) b C _ L1) ?_
    refine V_icmp_ge (tgt := 53) dX2_init_28 (by decide) (by omega) (by omega) (fun q28 => ?_) (fun q28 => ?_)
    · have ek : k = D 70 l := by omega
      subst ek
      refine V_aload_n dX2_init_53 rfl ?_
      refine V_aload_n dX2_init_54 rfl ?_
      refine V_getRv (v := h_n h + 1) dX2_init_55 fg_RX2_12 rfl x4.1 x4.2.1 ?_
      refine V_pV (as := []) dX2_init_58 c_RX2_22 rfl (by decide) rfl (Nat.le_of_ble_eq_true rfl) L2.1 (T_Jx4a65c_size_8abf5 g (h_n h + 1) (D 70 l) b2 C2 _ L2) ?_
      refine V_newa3 (n := (D 70 l).toNat) dX2_init_61 w_arr3 (by omega) (by omega) (by omega) (by omega) ?_
      have k0 : h_k (h_mk hc 23 (D 70 l).toNat (D 70 l).toNat) (h_n h) = 8 := (mk_k (k := 23) (n := (D 70 l).toNat) (N := (D 70 l).toNat) (by omega)).trans x4.1
      refine V_putRF dX2_init_63 f_RX2_36 rfl rfl rfl k0 ?_
      refine V_vret dX2_init_66 rfl ?_
      have b2n : C2 ≠ 0 → b2 < h_n hc := fun c0 => (x3 b2 (by rw [(L2.2.2.2.2.2.1 c0).1]; decide)).2
      refine ⟨rfl, h_n h + 1, h_n hc, ?_, ?_⟩
      · refine hM.newS (b := b2) (C := C2) hs hv hl h27 ((x1.mk (by omega)).sr (Nat.le_refl _)) (Nat.le_refl _) (by omega) (by omega) ?_ ?_ ?_ hN hU y1 (fun q hq => ?_) k0 ?_ (mk_ks (k := 23) (n := (D 70 l).toNat) (N := (D 70 l).toNat)) ?_ ?_ ?_ ?_ ?_ ?_ y2
        · show h_n hc + 1 ≤ _; omega
        · show _ ≤ h_n hc + 1; omega
        · show h_u hc + (D 70 l).toNat ≤ _; omega
        · show q < h_n hc + 1
          by_cases e : q = h_n hc
          · omega
          · have := x3 q (by rw [← mk_k (k := 23) (n := (D 70 l).toNat) (N := (D 70 l).toNat) e]; exact hq)
            omega
        · exact (mk_k (k := 23) (n := (D 70 l).toNat) (N := (D 70 l).toNat) (by omega)).trans L2.1
        · rw [hsr_at, if_neg (fun w => by omega)]
          exact (mk_r (k := 23) (n := (D 70 l).toNat) (N := (D 70 l).toNat) (by omega)).trans x4.2.1
        · rw [hsr_at, if_pos ⟨rfl, rfl⟩]
        · exact (mk_i (k := 23) (n := (D 70 l).toNat) (N := (D 70 l).toNat) (by omega)).trans x4.2.2
        · show ((h_l (h_mk hc 23 (D 70 l).toNat (D 70 l).toNat) (h_n hc) : Nat) : Int) = _
          rw [mk_ls (k := 23) (n := (D 70 l).toNat) (N := (D 70 l).toNat)]
          omega
        · intro k _
          show h_i (h_mk hc 23 (D 70 l).toNat (D 70 l).toNat) (h_n hc) k = 0
          exact if_pos rfl
        · have X : Ext (h_n hc) hc (h_mk hc 23 (D 70 l).toNat (D 70 l).toNat) := Ext.rf.mk (Nat.le_refl _)
          obtain ⟨m1, m2, m3, m4, m5, m6, m7⟩ := L2.ext X (by omega) b2n
          refine ⟨m1, ?_, m3, m4, m5, m6, fun k hk => ?_⟩
          · rw [hsr_at, if_neg (fun w => by omega)]; exact m2
          · rw [hsr_at, if_neg (fun w => ?_)]
            · exact m7 k hk
            · have c0 : C2 ≠ 0 := by omega
              have := (L2.2.2.2.2.2.1 c0).1
              rw [w.1, x4.1] at this
              omega
      · exact (x1.mk (by omega)).sr (Nat.le_refl _)
    · have hg := hent k hk.1 q28
      refine V_aload_n dX2_init_31 rfl ?_
      refine V_getRv (v := h_n h + 1) dX2_init_32 fg_RX2_12 rfl x4.1 x4.2.1 ?_
      refine V_aload_n dX2_init_35 rfl ?_
      refine V_iload_n dX2_init_36 rfl ?_
      refine V_pV (as := [_]) dX2_init_37 c_RX2_26 rfl (by decide) rfl (Nat.le_of_ble_eq_true rfl) L1.1 (T_Jx4a65c_get_915e3 g (A 6 l) k (D 70 l) b C _ (by omega) L1 ⟨hk.1, q28⟩) ?_
      have vq : vA D 0 (D 71 (40 * l + k)) := vAq (by decide) hg
      have kq : h_k hc (A 0 (D 71 (40 * l + k))) = 7 := by
        rw [(x1 _ (hM.ge vq).2.1).1]
        exact hM.kd vq
      refine V_ckc dX2_init_40 k_RX2_30 kq ?_
      refine V_cV (as := [_]) dX2_init_43 c_RX2_32 rfl (by decide) rfl (Nat.le_of_ble_eq_true rfl) L2.1 (T_add1 g (h_n h + 1) (A 0 (D 71 (40 * l + k))) k b2 C2 _ L2 y1 (by omega) (Or.inr (Or.inl kq)) (fun j hj => ?_) (fun q hq => by have := x3 q hq; omega) (by omega) (by omega)) (fun _ _ z => nomatch z.1) (fun v9 h9 p9 => ?_)
      · right; right; left
        rw [L2.2.2.2.2.2.2 j hj]
        have vj : vA D 0 (D 71 (40 * l + j)) := vAq (by decide) (hent j (by omega) (by omega))
        show h_k hc (A 0 (D 71 (40 * l + j))) = 7
        rw [(x1 _ (hM.ge vj).2.1).1]
        exact hM.kd vj
      obtain ⟨p1, rfl⟩ := p9
      cases p1
      refine V_pop dX2_init_46 rfl ?_
      refine V_iinc (lc' := [_, _, _]) dX2_init_47 rfl (by decide) rfl ?_
      refine V_goto (tgt := 23) dX2_init_50 (by decide) ?_
      exact ih q28 (by omega) _ (XI.ad x1 x2 x3 x4 L2 y1 y2 y3 y4 (by omega) (by omega) _)
  change V g m_X2_init 9 _ (h_mk h 8 0 3) 0 [xR (h_n h), xR (A 6 l), xU] []
  refine V_aload_n dX2_init_0 rfl ?_
  refine V_objInit dX2_init_1 w_ob_RX2_3 w_ob1 w_ob2 (by decide) (st4 (Nat.le_of_ble_eq_true rfl)) (by omega) ?_
  refine V_aload_n dX2_init_4 rfl ?_
  refine V_new (N := 3) dX2_init_5 n_RX2_9 rfl (by show h_n h + 1 + 1 ≤ _; omega) (by show h_u h + 3 + 3 ≤ _; omega) ?_
  refine V_dup dX2_init_8 cat_R ?_
  refine V_cI (as := []) dX2_init_9 c_RX2_11 rfl (by decide) rfl (Nat.le_of_ble_eq_true rfl) (by show h_n h + 1 ≠ 0; omega) (I_list g (h_n (h_mk h 8 0 3)) (mk_ks (k := 5) (n := 0) (N := 3)) (by show h_n h + 1 ≠ 0; omega)) (fun v9 h9 p9 => ?_)
  obtain ⟨p1, rfl⟩ := p9
  cases p1
  have k0 : h_k (h_mk (h_mk h 8 0 3) 5 0 3) (h_n h) = 8 := (mk_k (k := 5) (n := 0) (N := 3) (by show h_n h ≠ h_n h + 1; omega)).trans (mk_ks (k := 8) (n := 0) (N := 3))
  refine V_putRF dX2_init_12 f_RX2_12 rfl rfl rfl k0 ?_
  refine V_aload_n dX2_init_15 rfl ?_
  refine V_bipush dX2_init_16 (by decide) ?_
  refine V_putC dX2_init_18 f_RX2_18 (by decide) rfl k0 ?_
  refine V_iconst dX2_init_21 ?_
  refine V_istore_n (lc' := [_, _, _]) dX2_init_22 (by decide) rfl ?_
  have e1 : h_n (h_mk h 8 0 3) = h_n h + 1 := rfl
  refine lp 0 ⟨by omega, by omega⟩ _ ⟨?_, ?_, fun q hq => ?_, ⟨k0, ?_, ?_⟩, 1, 0, ⟨mk_ks (h := h_mk h 8 0 3) (k := 5) (n := 0) (N := 3), ?_, ?_, by omega, fun _ => rfl, fun w => absurd rfl w, fun k hk => by omega⟩, by omega, fun w => absurd rfl w, ?_, ?_⟩
  · exact ((((((Ext.rf.mk (Nat.le_refl _)).mk (by rw [e1]; omega)).si (by omega)).sr (by omega)).sr (Nat.le_refl _)).si (Nat.le_refl _))
  · show h_n h + 2 ≤ h_n h + 1 + 1; omega
  · show 8 ≤ q ∧ q < h_n h + 1 + 1
    by_cases w1 : q = h_n h + 1
    · omega
    · by_cases w2 : q = h_n h
      · omega
      · have e3 : h_k (h_mk (h_mk h 8 0 3) 5 0 3) q = h_k h q := (mk_k (k := 5) (n := 0) (N := 3) w1).trans (mk_k (k := 8) (n := 0) (N := 3) w2)
        have := hb.1 q (by rw [← e3]; exact hq)
        omega
  · show h_r (h_sr (h_sr (h_si (h_mk (h_mk h 8 0 3) 5 0 3) (h_n (h_mk h 8 0 3)) 0 0) (h_n (h_mk h 8 0 3)) 1 1) (h_n h) 0 (h_n (h_mk h 8 0 3))) (h_n h) 0 = _
    rw [hsr_at, if_pos ⟨rfl, rfl⟩]
    rfl
  · rw [hsi_at, if_pos ⟨rfl, rfl⟩]
  · show h_r (h_sr (h_sr (h_si (h_mk (h_mk h 8 0 3) 5 0 3) (h_n (h_mk h 8 0 3)) 0 0) (h_n (h_mk h 8 0 3)) 1 1) (h_n h) 0 (h_n (h_mk h 8 0 3))) (h_n h + 1) 1 = 1
    rw [hsr_at, if_neg (fun w => by omega), hsr_at, if_pos ⟨rfl, rfl⟩]
  · show h_i (h_si (h_sr (h_sr (h_si (h_mk (h_mk h 8 0 3) 5 0 3) (h_n (h_mk h 8 0 3)) 0 0) (h_n (h_mk h 8 0 3)) 1 1) (h_n h) 0 (h_n (h_mk h 8 0 3))) (h_n h) 2 115) (h_n h + 1) 2 = 0
    rw [hsi_at, if_neg (fun w => by omega)]
    show h_i (h_si (h_mk (h_mk h 8 0 3) 5 0 3) (h_n (h_mk h 8 0 3)) 0 0) (h_n h + 1) 2 = 0
    rw [hsi_at, if_neg (fun w => by omega)]
    exact if_pos rfl
  · show h_n h + 1 + 1 ≤ h_n h + 2 + 0; omega
  · show h_u h + 3 + 3 ≤ _; omega

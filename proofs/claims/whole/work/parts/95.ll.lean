/-- the law's loop -/
theorem law_loop (g : GP) (hg : g_l g ≤ 2560) : ∀ (n : Nat) (i c : Int) (h : AH), (g_l g - i).toNat ≤ n → 0 ≤ i ∧ i ≤ 2565 → i = 5 * c → LW h c → V g m_L_law 15 Q1 h 28 [xR 5, xR 8, xR 18, xR 39, xR 40, xI i, xU, xU, xU] [] := by
  intro n
  induction n with
  | zero =>
    intro i c h hn h0 hi W
    refine V_iload dL_law_28 rfl ?_
    refine V_aload_n dL_law_30 rfl ?_
    refine V_slen dL_law_31 ?_
    refine V_iconst dL_law_32 ?_
    refine V_isub dL_law_33 ?_
    refine V_icmp_gt (tgt := 2125) dL_law_34 (by decide) (by omega) (by omega) (fun q => ?_) (fun q => ?_)
    · refine V_iconst dL_law_2125 ?_
      refine V_zret (Or.inr rfl) dL_law_2126 rfl ?_
      rfl
    · omega
  | succ n ih =>
    intro i c h hn h0 hi W
    refine V_iload dL_law_28 rfl ?_
    refine V_aload_n dL_law_30 rfl ?_
    refine V_slen dL_law_31 ?_
    refine V_iconst dL_law_32 ?_
    refine V_isub dL_law_33 ?_
    refine V_icmp_gt (tgt := 2125) dL_law_34 (by decide) (by omega) (by omega) (fun q => ?_) (fun q => ?_)
    · refine V_iconst dL_law_2125 ?_
      refine V_zret (Or.inr rfl) dL_law_2126 rfl ?_
      rfl
    · have hT : ∀ h', LW h' (c + 1) → V g m_L_law 15 Q1 h' 2119 [xR 5, xR 8, xR 18, xR 39, xR 40, xI i, xU, xU, xU] [] := fun h' W' => by
        refine V_iinc (lc' := [_, _, _, _, _, _, _, _, _]) dL_law_2119 rfl (by decide) rfl ?_
        refine V_goto (tgt := 28) dL_law_2122 (by decide) ?_
        exact ih (i + 5) (c + 1) h' (by omega) (by omega) (by omega) W'
      refine V_aload_n dL_law_37 rfl ?_
      refine V_iload dL_law_38 rfl ?_
      refine V_sld (j := i.toNat) dL_law_40 (by omega) (by omega) (by omega) ?_
      refine V_bipush dL_law_41 (by decide) ?_
      obtain ⟨k, hk, ek⟩ := i32_63 (w := g_x g i.toNat)
      refine V_iand (z := k) dL_law_43 ek ?_
      by_cases hk2 : 35 < k
      · exact V_tblO (tgt := 2119) dL_law_44 (by omega) (Or.inr hk2) (by decide) (hT h ⟨W.choose, W.choose_spec.choose, W.choose_spec.choose_spec.choose, W.choose_spec.choose_spec.choose_spec.choose, W.choose_spec.choose_spec.choose_spec.choose_spec.choose, by
          obtain ⟨a1, a2, a3, a4, a5, a6, a7⟩ := W.choose_spec.choose_spec.choose_spec.choose_spec.choose_spec
          exact ⟨a1, a2, a3, a4, ⟨by omega, by omega⟩, by omega, by omega⟩⟩)
      have hks : k = 0 ∨ k = 1 ∨ k = 2 ∨ k = 3 ∨ k = 4 ∨ k = 5 ∨ k = 6 ∨ k = 7 ∨ k = 8 ∨ k = 9 ∨ k = 10 ∨ k = 11 ∨ k = 12 ∨ k = 13 ∨ k = 14 ∨ k = 15 ∨ k = 16 ∨ k = 17 ∨ k = 18 ∨ k = 19 ∨ k = 20 ∨ k = 21 ∨ k = 22 ∨ k = 23 ∨ k = 24 ∨ k = 25 ∨ k = 26 ∨ k = 27 ∨ k = 28 ∨ k = 29 ∨ k = 30 ∨ k = 31 ∨ k = 32 ∨ k = 33 ∨ k = 34 ∨ k = 35 := by omega
      rcases hks with rfl | rfl | rfl | rfl | rfl | rfl | rfl | rfl | rfl | rfl | rfl | rfl | rfl | rfl | rfl | rfl | rfl | rfl | rfl | rfl | rfl | rfl | rfl | rfl | rfl | rfl | rfl | rfl | rfl | rfl | rfl | rfl | rfl | rfl | rfl | rfl
      · exact V_tblI (off := 160) (tgt := 204) dL_law_44 (by decide) (by decide) (by decide) rfl (by decide) (LC_0 g hT W (by omega) hg (by omega))
      · exact V_tblI (off := 216) (tgt := 260) dL_law_44 (by decide) (by decide) (by decide) rfl (by decide) (LC_1 g hT W (by omega) hg (by omega))
      · exact V_tblI (off := 229) (tgt := 273) dL_law_44 (by decide) (by decide) (by decide) rfl (by decide) (LC_2 g hT W (by omega) hg (by omega))
      · exact V_tblI (off := 285) (tgt := 329) dL_law_44 (by decide) (by decide) (by decide) rfl (by decide) (LC_3 g hT W (by omega) hg (by omega))
      · exact V_tblI (off := 353) (tgt := 397) dL_law_44 (by decide) (by decide) (by decide) rfl (by decide) (LC_4 g hT W (by omega) hg (by omega))
      · exact V_tblI (off := 428) (tgt := 472) dL_law_44 (by decide) (by decide) (by decide) rfl (by decide) (LC_5 g hT W (by omega) hg (by omega))
      · exact V_tblI (off := 496) (tgt := 540) dL_law_44 (by decide) (by decide) (by decide) rfl (by decide) (LC_6 g hT W (by omega) hg (by omega))
      · exact V_tblI (off := 552) (tgt := 596) dL_law_44 (by decide) (by decide) (by decide) rfl (by decide) (LC_7 g hT W (by omega) hg (by omega))
      · exact V_tblI (off := 608) (tgt := 652) dL_law_44 (by decide) (by decide) (by decide) rfl (by decide) (LC_8 g hT W (by omega) hg (by omega))
      · exact V_tblI (off := 664) (tgt := 708) dL_law_44 (by decide) (by decide) (by decide) rfl (by decide) (LC_9 g hT W (by omega) hg (by omega))
      · exact V_tblI (off := 708) (tgt := 752) dL_law_44 (by decide) (by decide) (by decide) rfl (by decide) (LC_10 g hT W (by omega) hg (by omega))
      · exact V_tblI (off := 764) (tgt := 808) dL_law_44 (by decide) (by decide) (by decide) rfl (by decide) (LC_11 g hT W (by omega) hg (by omega))
      · exact V_tblI (off := 820) (tgt := 864) dL_law_44 (by decide) (by decide) (by decide) rfl (by decide) (LC_12 g hT W (by omega) hg (by omega))
      · exact V_tblI (off := 833) (tgt := 877) dL_law_44 (by decide) (by decide) (by decide) rfl (by decide) (LC_13 g hT W (by omega) hg (by omega))
      · exact V_tblI (off := 877) (tgt := 921) dL_law_44 (by decide) (by decide) (by decide) rfl (by decide) (LC_14 g hT W (by omega) hg (by omega))
      · exact V_tblI (off := 959) (tgt := 1003) dL_law_44 (by decide) (by decide) (by decide) rfl (by decide) (LC_15 g hT W (by omega) hg (by omega))
      · exact V_tblI (off := 1015) (tgt := 1059) dL_law_44 (by decide) (by decide) (by decide) rfl (by decide) (LC_16 g hT W (by omega) hg (by omega))
      · exact V_tblI (off := 1071) (tgt := 1115) dL_law_44 (by decide) (by decide) (by decide) rfl (by decide) (LC_17 g hT W (by omega) hg (by omega))
      · exact V_tblI (off := 1139) (tgt := 1183) dL_law_44 (by decide) (by decide) (by decide) rfl (by decide) (LC_18 g hT W (by omega) hg (by omega))
      · exact V_tblI (off := 1195) (tgt := 1239) dL_law_44 (by decide) (by decide) (by decide) rfl (by decide) (LC_19 g hT W (by omega) hg (by omega))
      · exact V_tblI (off := 1258) (tgt := 1302) dL_law_44 (by decide) (by decide) (by decide) rfl (by decide) (LC_20 g hT W (by omega) hg (by omega))
      · exact V_tblI (off := 1350) (tgt := 1394) dL_law_44 (by decide) (by decide) (by decide) rfl (by decide) (LC_21 g hT W (by omega) hg (by omega))
      · exact V_tblI (off := 1406) (tgt := 1450) dL_law_44 (by decide) (by decide) (by decide) rfl (by decide) (LC_22 g hT W (by omega) hg (by omega))
      · exact V_tblI (off := 1462) (tgt := 1506) dL_law_44 (by decide) (by decide) (by decide) rfl (by decide) (LC_23 g hT W (by omega) hg (by omega))
      · exact V_tblI (off := 1530) (tgt := 1574) dL_law_44 (by decide) (by decide) (by decide) rfl (by decide) (LC_24 g hT W (by omega) hg (by omega))
      · exact V_tblI (off := 1586) (tgt := 1630) dL_law_44 (by decide) (by decide) (by decide) rfl (by decide) (LC_25 g hT W (by omega) hg (by omega))
      · exact V_tblI (off := 1599) (tgt := 1643) dL_law_44 (by decide) (by decide) (by decide) rfl (by decide) (LC_26 g hT W (by omega) hg (by omega))
      · exact V_tblI (off := 1640) (tgt := 1684) dL_law_44 (by decide) (by decide) (by decide) rfl (by decide) (LC_27 g hT W (by omega) hg (by omega))
      · exact V_tblI (off := 1684) (tgt := 1728) dL_law_44 (by decide) (by decide) (by decide) rfl (by decide) (LC_28 g hT W (by omega) hg (by omega))
      · exact V_tblI (off := 1740) (tgt := 1784) dL_law_44 (by decide) (by decide) (by decide) rfl (by decide) (LC_29 g hT W (by omega) hg (by omega))
      · exact V_tblI (off := 1836) (tgt := 1880) dL_law_44 (by decide) (by decide) (by decide) rfl (by decide) (LC_30 g hT W (by omega) hg (by omega))
      · exact V_tblI (off := 1904) (tgt := 1948) dL_law_44 (by decide) (by decide) (by decide) rfl (by decide) (LC_31 g hT W (by omega) hg (by omega))
      · exact V_tblI (off := 1917) (tgt := 1961) dL_law_44 (by decide) (by decide) (by decide) rfl (by decide) (LC_32 g hT W (by omega) hg (by omega))
      · exact V_tblI (off := 1931) (tgt := 1975) dL_law_44 (by decide) (by decide) (by decide) rfl (by decide) (LC_33 g hT W (by omega) hg (by omega))
      · exact V_tblI (off := 1997) (tgt := 2041) dL_law_44 (by decide) (by decide) (by decide) rfl (by decide) (LC_34 g hT W (by omega) hg (by omega))
      · exact V_tblI (off := 2062) (tgt := 2106) dL_law_44 (by decide) (by decide) (by decide) rfl (by decide) (LC_35 g hT W (by omega) hg (by omega))
theorem MR.fr {h h' : AH} {M : MS} (e : ∀ q, 18 ≤ q → q < 39 → h_k h' q = h_k h q ∧ h_l h' q = h_l h q ∧ (∀ j, h_i h' q j = h_i h q j) ∧ ∀ j, h_r h' q j = h_r h q j) (H : MR h M) : MR h' M := by
  obtain ⟨m1, m2, m3, m4⟩ := H
  have e8 := e 18 (by decide) (by decide)
  refine ⟨e8.1.trans m1, fun f hf hr => ?_, fun f hf hr => (e8.2.2.1 f).trans (m3 f hf hr), m4⟩
  have g := ar_ge hf hr
  have e := e (ar f) (by omega) g.2
  obtain ⟨a, b, c, d⟩ := m2 f hf hr
  exact ⟨(e8.2.2.2 f).trans a, e.1.trans b, e.2.1.trans c, fun k hk => (e.2.2.1 k).trans (d k hk)⟩
theorem mk_all {h : AH} {k n N q : Nat} (hq : q ≠ h_n h) : h_k (h_mk h k n N) q = h_k h q ∧ h_l (h_mk h k n N) q = h_l h q ∧ (∀ j, h_i (h_mk h k n N) q j = h_i h q j) ∧ ∀ j, h_r (h_mk h k n N) q j = h_r h q j := ⟨mk_k hq, mk_l hq, fun _ => mk_i hq, fun _ => mk_r hq⟩
/-- the law from its beginning -/
theorem T_law (g : GP) (hg : g_l g ≤ 2560) {h : AH} (hn : h_n h = 8) (hk : ∀ q, h_k h q = 0) (hu : h_u h ≤ 1000) : V g m_L_law 15 Q1 h 0 [xR 5, xU, xU, xU, xU, xU, xU, xU, xU] [] := by
  have hcc : z_CC = 603072 := rfl
  have hcs : z_CS = 7215210 := rfl
  refine V_new (N := 13) dL_law_0 n_RL_8 rfl (by omega) (by omega) ?_
  rw [hn]
  have k0 : h_k (h_mk h 9 0 13) 8 = 9 := by have e := mk_ks (h := h) (k := 9) (n := 0) (N := 13); rw [hn] at e; exact e
  have i0 : ∀ j, h_i (h_mk h 9 0 13) 8 j = 0 := fun j => by have e : h_i (h_mk h 9 0 13) (h_n h) j = 0 := if_pos rfl; rw [hn] at e; exact e
  have n0 : h_n (h_mk h 9 0 13) = 9 := by show h_n h + 1 = 9; omega
  have u0 : h_u (h_mk h 9 0 13) = h_u h + 13 := rfl
  have z0 : ∀ q, q ≠ 8 → h_k (h_mk h 9 0 13) q = 0 := fun q hq => (mk_k (by omega)).trans (hk q)
  refine V_dup dL_law_3 cat_R ?_
  generalize h_mk h 9 0 13 = ha at k0 i0 n0 u0 z0 ⊢
  refine V_cI (as := []) dL_law_4 c_RL_120 rfl (by decide) rfl (Nat.le_of_ble_eq_true rfl) (by decide) (T_X3_init g k0 n0 (by omega)) (fun v9 h1 p9 => ?_)
  obtain ⟨p1, X⟩ := p9
  cases p1
  refine V_astore_n (lc' := [_, _, _, _, _, _, _, _, _]) dL_law_7 (by decide) rfl ?_
  have hn1 : h_n h1 = 18 := X.1.1
  have hu1 := X.1.2
  refine V_new (N := 31) dL_law_8 n_RL_121 rfl (by omega) (by omega) ?_
  rw [hn1]
  have k2 : h_k (h_mk h1 10 0 31) 18 = 10 := by have e := mk_ks (h := h1) (k := 10) (n := 0) (N := 31); rw [hn1] at e; exact e
  have i2 : ∀ j, h_i (h_mk h1 10 0 31) 18 j = 0 := fun j => by have e : h_i (h_mk h1 10 0 31) (h_n h1) j = 0 := if_pos rfl; rw [hn1] at e; exact e
  have n2 : h_n (h_mk h1 10 0 31) = 19 := by show h_n h1 + 1 = 19; omega
  have u2 : h_u (h_mk h1 10 0 31) = h_u h1 + 31 := rfl
  have a2 : ∀ q, q ≠ 18 → _ := fun q hq => mk_all (h := h1) (k := 10) (n := 0) (N := 31) (q := q) (by omega)
  refine V_dup dL_law_11 cat_R ?_
  generalize h_mk h1 10 0 31 = h2 at k2 i2 n2 u2 a2 ⊢
  refine V_cI (as := []) dL_law_12 c_RL_123 rfl (by decide) rfl (Nat.le_of_ble_eq_true rfl) (by decide) (T_X4_init g k2 n2 (by omega)) (fun v9 h3 p9 => ?_)
  obtain ⟨p1, I3⟩ := p9
  cases p1
  refine V_astore_n (lc' := [_, _, _, _, _, _, _, _, _]) dL_law_15 (by decide) rfl ?_
  have hn3 : h_n h3 = 39 := I3.1.1
  have hu3 := I3.1.2
  refine V_iconst dL_law_16 ?_
  refine V_newa5 (n := 1) dL_law_17 w_arr5 rfl (by decide) (by omega) (by omega) ?_
  rw [hn3]
  refine V_astore_n (lc' := [_, _, _, _, _, _, _, _, _]) dL_law_19 (by decide) rfl ?_
  refine V_iconst dL_law_20 ?_
  have n4 : h_n (h_mk h3 25 1 1) = 40 := by show h_n h3 + 1 = 40; omega
  have u4 : h_u (h_mk h3 25 1 1) = h_u h3 + 1 := rfl
  refine V_newa6 (n := 1) dL_law_21 w_arr6 rfl (by decide) (by omega) (by omega) ?_
  rw [n4]
  refine V_astore (lc' := [_, _, _, _, _, _, _, _, _]) dL_law_23 (by decide) rfl ?_
  refine V_iconst dL_law_25 ?_
  refine V_istore (lc' := [_, _, _, _, _, _, _, _, _]) dL_law_26 (by decide) rfl ?_
  have o39 : h_k (h_mk h3 25 1 1) 39 = 25 ∧ h_l (h_mk h3 25 1 1) 39 = 1 := by
    have e1 := mk_ks (h := h3) (k := 25) (n := 1) (N := 1)
    have e2 := mk_ls (h := h3) (k := 25) (n := 1) (N := 1)
    rw [hn3] at e1 e2
    exact ⟨e1, e2⟩
  have o40 : h_k (h_mk (h_mk h3 25 1 1) 26 1 1) 40 = 26 ∧ h_l (h_mk (h_mk h3 25 1 1) 26 1 1) 40 = 1 := by
    have e1 := mk_ks (h := h_mk h3 25 1 1) (k := 26) (n := 1) (N := 1)
    have e2 := mk_ls (h := h_mk h3 25 1 1) (k := 26) (n := 1) (N := 1)
    rw [n4] at e1 e2
    exact ⟨e1, e2⟩
  have a4 : ∀ q, q ≠ 39 → _ := fun q hq => mk_all (h := h3) (k := 25) (n := 1) (N := 1) (q := q) (by omega)
  have a5 : ∀ q, q ≠ 40 → _ := fun q hq => mk_all (h := h_mk h3 25 1 1) (k := 26) (n := 1) (N := 1) (q := q) (by omega)
  have n5 : h_n (h_mk (h_mk h3 25 1 1) 26 1 1) = 41 := by show h_n h3 + 1 + 1 = 41; omega
  have u5 : h_u (h_mk (h_mk h3 25 1 1) 26 1 1) = h_u h3 + 1 + 1 := rfl
  generalize h_mk (h_mk h3 25 1 1) 26 1 1 = h5 at o40 a5 n5 u5 ⊢
  have a35 : ∀ q, q ≠ 39 → q ≠ 40 → h_k h5 q = h_k h3 q ∧ h_l h5 q = h_l h3 q ∧ (∀ j, h_i h5 q j = h_i h3 q j) ∧ ∀ j, h_r h5 q j = h_r h3 q j := fun q x y => ⟨(a5 q y).1.trans (a4 q x).1, (a5 q y).2.1.trans (a4 q x).2.1, fun j => ((a5 q y).2.2.1 j).trans ((a4 q x).2.2.1 j), fun j => ((a5 q y).2.2.2 j).trans ((a4 q x).2.2.2 j)⟩
  have hDR : DR h5 A0 Z0 3200 100000 := by
    refine DR.ini X i0 (fun q x y => ?_) n5 (fun q hq => ?_) (by omega) (by decide) (by omega) (by omega)
    · have b1 := a35 q (by omega) (by omega)
      have b2 := I3.2.1 q (by omega)
      have b3 := a2 q (by omega)
      exact ⟨b1.1.trans (b2.1.trans b3.1), b1.2.1.trans (b2.2.1.trans b3.2.1), fun j => (b1.2.2.1 j).trans ((b2.2.2.1 j).trans (b3.2.2.1 j)), fun j => (b1.2.2.2 j).trans ((b2.2.2.2 j (by omega)).trans (b3.2.2.2 j))⟩
    · by_cases x : 8 ≤ q ∧ q < 41
      · exact x
      · exfalso
        have b1 := (a35 q (by omega) (by omega)).1
        have b3 := (a2 q (by omega)).1
        rcases Nat.lt_or_ge q 8 with y | y
        · have b2 := (I3.2.1 q (by omega)).1
          have b4 := X.2.2.2.2.1 q y
          rw [b1, b2, b3, b4, z0 q (by omega)] at hq
          exact hq rfl
        · have b2 := I3.2.2.1 q (by omega)
          have b4 := X.2.2.2.1 q (by omega)
          rw [b1, b2, b3, b4, z0 q (by omega)] at hq
          exact hq rfl
  have hMR : MR h5 Z0 := MR.fr (fun q x y => a35 q (by omega) (by omega)) (I3.mr k2 i2)
  have hOW : OW h5 := ⟨(a5 39 (by decide)).1.trans o39.1, (a5 39 (by decide)).2.1.trans o39.2, o40.1, o40.2⟩
  exact law_loop g hg _ 0 0 h5 (Nat.le_refl _) (by decide) rfl ⟨Z0, Z0, A0, 3200, 100000, DM0, hDR, hMR, hOW, ⟨by decide, by decide⟩, by decide, by decide⟩

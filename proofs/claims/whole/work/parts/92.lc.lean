def Q1 : Res → AH → Prop := fun r _ => r = .inl (some (xI 1))
theorem sc_r (w : Int32) : -2147483648 ≤ w.toInt ∧ w.toInt ≤ 2147483647 := ⟨Int32.le_toInt w, by have := Int32.toInt_lt w; omega⟩
theorem i2c_ex (w : Int) : ∃ z : Int, (0 ≤ z ∧ z < 65536) ∧ ((Int32.ofInt w).toUInt32 % 65536).toInt32 = Int32.ofInt z := by
  have hlt : ((Int32.ofInt w).toUInt32 % 65536).toNat < 65536 := by
    rw [UInt32.toNat_mod]
    exact Nat.mod_lt _ (by decide)
  refine ⟨(((Int32.ofInt w).toUInt32 % 65536).toNat : Int), by omega, ?_⟩
  generalize (Int32.ofInt w).toUInt32 % 65536 = u
  rw [Int32.ofInt_eq_ofNat]
  apply Int32.toBitVec_inj.mp
  rw [Int32.toBitVec_ofNat']
  show u.toBitVec = BitVec.ofNat 32 u.toBitVec.toNat
  rw [BitVec.ofNat_toNat, BitVec.setWidth_eq]
theorem AG.b01 {es : List String} {x : Res × MS} {y : Int × MS} (a : AG es x y) {v : Int} (hv : x.1 = rI v) (h : y.1 = 0 ∨ y.1 = 1) : v = 0 ∨ v = 1 := by
  rcases a.2 with ⟨a1, -⟩ | ⟨n, e, -, a1, -⟩
  · rw [a1] at hv
    injection hv with hv
    injection hv with hv
    injection hv with hv
    rw [← hv]
    exact h
  · rw [a1] at hv
    cases hv
theorem LC_0 (g : GP) {h : AH} {i c : Int} (hT : ∀ h', LW h' (c + 1) → V g m_L_law 15 Q1 h' 2119 [xR 5, xR 8, xR 18, xR 39, xR 40, xI i, xU, xU, xU] []) (W : LW h c) (hi : 0 ≤ i ∧ i + 5 ≤ g_l g) (hg : g_l g ≤ 2560) (hc : 0 ≤ c ∧ c ≤ 511) : V g m_L_law 15 Q1 h 204 [xR 5, xR 8, xR 18, xR 39, xR 40, xI i, xU, xU, xU] [] := by
  obtain ⟨D, M, A, N, U, hD, hR, hM, ho, ⟨h8, h9⟩, hN, hU⟩ := W
  have hI := hD.1.2.1
  have hIM := hD.2.1
  have hN' : N + 200 ≤ z_CC := by unfold z_CC; omega
  have hU' : U + 5000 ≤ z_CS := by unfold z_CS; omega
  have hE : ∀ k, 0 ≤ k → k < D 70 0 → iQ D (D 71 (40 * 0 + k)) := fun k a b => (hR.le (l := 0) (vL0 (by decide))).2 k a b
  obtain ⟨w1, ew1, r1⟩ : ∃ w : Int, w = (g_x g (i + 1).toNat).toInt ∧ -2147483648 ≤ w ∧ w ≤ 2147483647 := ⟨_, rfl, sc_r _⟩
  have a := g_type hD w1
  refine V_aload_n dL_law_204 rfl ?_
  refine V_aload_n dL_law_205 rfl ?_
  refine V_iload dL_law_206 rfl ?_
  refine V_iconst dL_law_208 ?_
  refine V_iadd dL_law_209 ?_
  refine V_sld (j := (i + 1).toNat) dL_law_210 (by omega) (by omega) (by omega) ?_
  rw [← ew1]
  refine V_aload_n dL_law_211 rfl ?_
  refine V_cH (as := [_, _, _]) dL_law_212 c_RL_124 rfl (by decide) rfl (Nat.le_of_ble_eq_true rfl) (T_L_type g w1 ho hR.kx a.hx (T_X3_type g N U D w1 r1 hI hN' hU' A h hR)) (fun E h1 q => ?_) (fun v h1 q => ?_)
  · obtain ⟨-, -, z, hz, -⟩ := q
    cases hz
  obtain ⟨q1, q2, z, hz, q3⟩ := q
  cases hz
  obtain ⟨e1, e2, e3⟩ := cmpL (by decide) (nd2 (by decide)) a q3
  subst e1
  have ho1 := q2.ow ho
  have hM1 := q2.mr hM
  obtain ⟨A1, hR1⟩ := q1
  refine V_istore (lc' := [_, _, _, _, _, _, _, _, _]) dL_law_215 (by decide) rfl ?_
  refine V_aload_n dL_law_217 rfl ?_
  refine V_aload_n dL_law_218 rfl ?_
  refine V_iload dL_law_219 rfl ?_
  refine V_iconst dL_law_221 ?_
  refine V_iadd dL_law_222 ?_
  refine V_sld (j := (i + 1).toNat) dL_law_223 (by omega) (by omega) (by omega) ?_
  rw [← ew1]
  refine V_mC (h0 := h1) (as := [_]) dL_law_224 c_RL_129 rfl (by decide) rfl (Nat.le_of_ble_eq_true rfl) hM1 FR.rf (T_X4_type g M w1 r1 hIM) (fun h hM hF => ?_)
  refine V_istore (lc' := [_, _, _, _, _, _, _, _, _]) dL_law_227 (by decide) rfl ?_
  refine V_aload_n dL_law_229 rfl ?_
  refine V_mC (as := []) dL_law_230 c_RL_130 rfl (by decide) rfl (Nat.le_of_ble_eq_true rfl) hM hF (T_X4_thrown g (s_type M w1).2) (fun h hM hF => ?_)
  refine V_iload dL_law_233 rfl ?_
  refine V_icmp_eqS (tgt := 240) dL_law_235 (by decide) ?_
  refine V_iload dL_law_240 rfl ?_
  refine V_if_ne (tgt := 257) dL_law_242 (by decide) (by omega) (fun q => ?_) (fun q => ?_)
  · refine V_goto (tgt := 2119) dL_law_257 (by decide) ?_
    refine V_wk (lc' := [_, _, _, _, _, _, xU, xU, xU]) ⟨Or.inr rfl, Or.inr rfl, Or.inr rfl, Or.inr rfl, Or.inr rfl, Or.inr rfl, Or.inl rfl, Or.inl rfl, Or.inl rfl, trivial⟩ ?_
    have kk := k_type (M := M) w1
    have g1 := hD.g1
    have g2 := a.1.g1
    exact hT h ⟨_, _, A1, N + 4, U + 200, a.1, hF.dr hR1, hM, hF.ow ho1, ⟨by have := kk.1; have := g1.2.2.2.1; have := g2.2.2.2.1; (try dsimp only at *); omega, by have := kk.2; have := g1.2.2.2.2; have := g2.2.2.2.2; (try dsimp only at *); omega⟩, by omega, by omega⟩
  · skip
    refine V_aload_n dL_law_245 rfl ?_
    refine V_iconst dL_law_246 ?_
    refine V_lald (j := 0) dL_law_247 (hF.ow ho1).1 rfl (by rw [(hF.ow ho1).2.1]; decide) (by rw [(hF.ow ho1).2.1]; decide) ?_
    rw [show h_i h 39 0 = _ from ((hF.1 39 (Or.inr (by decide))).2.2.1 0).trans (e3 q), Int64.ofInt_toInt]
    refine V_iload dL_law_248 rfl ?_
    refine V_i2lw dL_law_250 ?_
    refine V_lcmp (z := 0) dL_law_251 lcmp_eq ?_
    refine V_if_eq (tgt := 257) dL_law_252 (by decide) (by decide) (fun _ => ?_) (fun w => absurd rfl w)
    refine V_goto (tgt := 2119) dL_law_257 (by decide) ?_
    refine V_wk (lc' := [_, _, _, _, _, _, xU, xU, xU]) ⟨Or.inr rfl, Or.inr rfl, Or.inr rfl, Or.inr rfl, Or.inr rfl, Or.inr rfl, Or.inl rfl, Or.inl rfl, Or.inl rfl, trivial⟩ ?_
    have kk := k_type (M := M) w1
    have g1 := hD.g1
    have g2 := a.1.g1
    exact hT h ⟨_, _, A1, N + 4, U + 200, a.1, hF.dr hR1, hM, hF.ow ho1, ⟨by have := kk.1; have := g1.2.2.2.1; have := g2.2.2.2.1; (try dsimp only at *); omega, by have := kk.2; have := g1.2.2.2.2; have := g2.2.2.2.2; (try dsimp only at *); omega⟩, by omega, by omega⟩
theorem LC_2 (g : GP) {h : AH} {i c : Int} (hT : ∀ h', LW h' (c + 1) → V g m_L_law 15 Q1 h' 2119 [xR 5, xR 8, xR 18, xR 39, xR 40, xI i, xU, xU, xU] []) (W : LW h c) (hi : 0 ≤ i ∧ i + 5 ≤ g_l g) (hg : g_l g ≤ 2560) (hc : 0 ≤ c ∧ c ≤ 511) : V g m_L_law 15 Q1 h 273 [xR 5, xR 8, xR 18, xR 39, xR 40, xI i, xU, xU, xU] [] := by
  obtain ⟨D, M, A, N, U, hD, hR, hM, ho, ⟨h8, h9⟩, hN, hU⟩ := W
  have hI := hD.1.2.1
  have hIM := hD.2.1
  have hN' : N + 200 ≤ z_CC := by unfold z_CC; omega
  have hU' : U + 5000 ≤ z_CS := by unfold z_CS; omega
  have hE : ∀ k, 0 ≤ k → k < D 70 0 → iQ D (D 71 (40 * 0 + k)) := fun k a b => (hR.le (l := 0) (vL0 (by decide))).2 k a b
  obtain ⟨w1, ew1, r1⟩ : ∃ w : Int, w = (g_x g (i + 1).toNat).toInt ∧ -2147483648 ≤ w ∧ w ≤ 2147483647 := ⟨_, rfl, sc_r _⟩
  have a := g_add hD hE w1
  refine V_aload_n dL_law_273 rfl ?_
  refine V_aload_n dL_law_274 rfl ?_
  refine V_iload dL_law_275 rfl ?_
  refine V_iconst dL_law_277 ?_
  refine V_iadd dL_law_278 ?_
  refine V_sld (j := (i + 1).toNat) dL_law_279 (by omega) (by omega) (by omega) ?_
  rw [← ew1]
  refine V_aload_n dL_law_280 rfl ?_
  refine V_cH (as := [_, _, _]) dL_law_281 c_RL_137 rfl (by decide) rfl (Nat.le_of_ble_eq_true rfl) (T_L_add g w1 ho hR.kx a.hx (T_X3_add g N U D w1 r1 hI hN' hU' A h hR)) (fun E h1 q => ?_) (fun v h1 q => ?_)
  · obtain ⟨-, -, z, hz, -⟩ := q
    cases hz
  obtain ⟨q1, q2, z, hz, q3⟩ := q
  cases hz
  obtain ⟨e1, e2, e3⟩ := cmpL (by decide) (nd3 (by decide) (by decide) (by decide)) a q3
  subst e1
  have ho1 := q2.ow ho
  have hM1 := q2.mr hM
  obtain ⟨A1, hR1⟩ := q1
  refine V_istore (lc' := [_, _, _, _, _, _, _, _, _]) dL_law_284 (by decide) rfl ?_
  refine V_aload_n dL_law_286 rfl ?_
  refine V_aload_n dL_law_287 rfl ?_
  refine V_iload dL_law_288 rfl ?_
  refine V_iconst dL_law_290 ?_
  refine V_iadd dL_law_291 ?_
  refine V_sld (j := (i + 1).toNat) dL_law_292 (by omega) (by omega) (by omega) ?_
  rw [← ew1]
  refine V_mC (h0 := h1) (as := [_]) dL_law_293 c_RL_139 rfl (by decide) rfl (Nat.le_of_ble_eq_true rfl) hM1 FR.rf (T_X4_add g M w1 r1 hIM) (fun h hM hF => ?_)
  refine V_istore (lc' := [_, _, _, _, _, _, _, _, _]) dL_law_296 (by decide) rfl ?_
  refine V_aload_n dL_law_298 rfl ?_
  refine V_mC (as := []) dL_law_299 c_RL_130 rfl (by decide) rfl (Nat.le_of_ble_eq_true rfl) hM hF (T_X4_thrown g (s_add M w1).2) (fun h hM hF => ?_)
  refine V_iload dL_law_302 rfl ?_
  refine V_icmp_eqS (tgt := 309) dL_law_304 (by decide) ?_
  refine V_iload dL_law_309 rfl ?_
  refine V_if_ne (tgt := 326) dL_law_311 (by decide) (by omega) (fun q => ?_) (fun q => ?_)
  · refine V_goto (tgt := 2119) dL_law_326 (by decide) ?_
    refine V_wk (lc' := [_, _, _, _, _, _, xU, xU, xU]) ⟨Or.inr rfl, Or.inr rfl, Or.inr rfl, Or.inr rfl, Or.inr rfl, Or.inr rfl, Or.inl rfl, Or.inl rfl, Or.inl rfl, trivial⟩ ?_
    have kk := k_add (M := M) w1
    have g1 := hD.g1
    have g2 := a.1.g1
    exact hT h ⟨_, _, A1, N + 4, U + 200, a.1, hF.dr hR1, hM, hF.ow ho1, ⟨by have := kk.1; have := g1.2.2.2.1; have := g2.2.2.2.1; (try dsimp only at *); omega, by have := kk.2; have := g1.2.2.2.2; have := g2.2.2.2.2; (try dsimp only at *); omega⟩, by omega, by omega⟩
  · skip
    refine V_aload_n dL_law_314 rfl ?_
    refine V_iconst dL_law_315 ?_
    refine V_lald (j := 0) dL_law_316 (hF.ow ho1).1 rfl (by rw [(hF.ow ho1).2.1]; decide) (by rw [(hF.ow ho1).2.1]; decide) ?_
    rw [show h_i h 39 0 = _ from ((hF.1 39 (Or.inr (by decide))).2.2.1 0).trans (e3 q), Int64.ofInt_toInt]
    refine V_iload dL_law_317 rfl ?_
    refine V_i2lw dL_law_319 ?_
    refine V_lcmp (z := 0) dL_law_320 lcmp_eq ?_
    refine V_if_eq (tgt := 326) dL_law_321 (by decide) (by decide) (fun _ => ?_) (fun w => absurd rfl w)
    refine V_goto (tgt := 2119) dL_law_326 (by decide) ?_
    refine V_wk (lc' := [_, _, _, _, _, _, xU, xU, xU]) ⟨Or.inr rfl, Or.inr rfl, Or.inr rfl, Or.inr rfl, Or.inr rfl, Or.inr rfl, Or.inl rfl, Or.inl rfl, Or.inl rfl, trivial⟩ ?_
    have kk := k_add (M := M) w1
    have g1 := hD.g1
    have g2 := a.1.g1
    exact hT h ⟨_, _, A1, N + 4, U + 200, a.1, hF.dr hR1, hM, hF.ow ho1, ⟨by have := kk.1; have := g1.2.2.2.1; have := g2.2.2.2.1; (try dsimp only at *); omega, by have := kk.2; have := g1.2.2.2.2; have := g2.2.2.2.2; (try dsimp only at *); omega⟩, by omega, by omega⟩
theorem LC_3 (g : GP) {h : AH} {i c : Int} (hT : ∀ h', LW h' (c + 1) → V g m_L_law 15 Q1 h' 2119 [xR 5, xR 8, xR 18, xR 39, xR 40, xI i, xU, xU, xU] []) (W : LW h c) (hi : 0 ≤ i ∧ i + 5 ≤ g_l g) (hg : g_l g ≤ 2560) (hc : 0 ≤ c ∧ c ≤ 511) : V g m_L_law 15 Q1 h 329 [xR 5, xR 8, xR 18, xR 39, xR 40, xI i, xU, xU, xU] [] := by
  obtain ⟨D, M, A, N, U, hD, hR, hM, ho, ⟨h8, h9⟩, hN, hU⟩ := W
  have hI := hD.1.2.1
  have hIM := hD.2.1
  have hN' : N + 200 ≤ z_CC := by unfold z_CC; omega
  have hU' : U + 5000 ≤ z_CS := by unfold z_CS; omega
  have hE : ∀ k, 0 ≤ k → k < D 70 0 → iQ D (D 71 (40 * 0 + k)) := fun k a b => (hR.le (l := 0) (vL0 (by decide))).2 k a b
  obtain ⟨w1, ew1, r1⟩ : ∃ w : Int, w = (g_x g (i + 1).toNat).toInt ∧ -2147483648 ≤ w ∧ w ≤ 2147483647 := ⟨_, rfl, sc_r _⟩
  obtain ⟨w2, ew2, r2⟩ : ∃ w : Int, w = (g_x g (i + 2).toNat).toInt ∧ -2147483648 ≤ w ∧ w ≤ 2147483647 := ⟨_, rfl, sc_r _⟩
  have a := g_twin hD w1 w2
  refine V_aload_n dL_law_329 rfl ?_
  refine V_aload_n dL_law_330 rfl ?_
  refine V_iload dL_law_331 rfl ?_
  refine V_iconst dL_law_333 ?_
  refine V_iadd dL_law_334 ?_
  refine V_sld (j := (i + 1).toNat) dL_law_335 (by omega) (by omega) (by omega) ?_
  rw [← ew1]
  refine V_aload_n dL_law_336 rfl ?_
  refine V_iload dL_law_337 rfl ?_
  refine V_iconst dL_law_339 ?_
  refine V_iadd dL_law_340 ?_
  refine V_sld (j := (i + 2).toNat) dL_law_341 (by omega) (by omega) (by omega) ?_
  rw [← ew2]
  refine V_aload_n dL_law_342 rfl ?_
  refine V_cH (as := [_, _, _, _]) dL_law_343 c_RL_140 rfl (by decide) rfl (Nat.le_of_ble_eq_true rfl) (T_L_twin g w1 w2 ho hR.kx a.hx (T_X3_twin g N U D w1 w2 r1 r2 hI hN' hU' A h hR)) (fun E h1 q => ?_) (fun v h1 q => ?_)
  · obtain ⟨-, -, z, hz, -⟩ := q
    cases hz
  obtain ⟨q1, q2, z, hz, q3⟩ := q
  cases hz
  obtain ⟨e1, e2, e3⟩ := cmpL (by decide) (nd2 (by decide)) a q3
  subst e1
  have ho1 := q2.ow ho
  have hM1 := q2.mr hM
  obtain ⟨A1, hR1⟩ := q1
  refine V_istore (lc' := [_, _, _, _, _, _, _, _, _]) dL_law_346 (by decide) rfl ?_
  refine V_aload_n dL_law_348 rfl ?_
  refine V_aload_n dL_law_349 rfl ?_
  refine V_iload dL_law_350 rfl ?_
  refine V_iconst dL_law_352 ?_
  refine V_iadd dL_law_353 ?_
  refine V_sld (j := (i + 1).toNat) dL_law_354 (by omega) (by omega) (by omega) ?_
  rw [← ew1]
  refine V_aload_n dL_law_355 rfl ?_
  refine V_iload dL_law_356 rfl ?_
  refine V_iconst dL_law_358 ?_
  refine V_iadd dL_law_359 ?_
  refine V_sld (j := (i + 2).toNat) dL_law_360 (by omega) (by omega) (by omega) ?_
  rw [← ew2]
  refine V_mC (h0 := h1) (as := [_, _]) dL_law_361 c_RL_143 rfl (by decide) rfl (Nat.le_of_ble_eq_true rfl) hM1 FR.rf (T_X4_twin g M w1 w2 r1 r2 hIM) (fun h hM hF => ?_)
  refine V_istore (lc' := [_, _, _, _, _, _, _, _, _]) dL_law_364 (by decide) rfl ?_
  refine V_aload_n dL_law_366 rfl ?_
  refine V_mC (as := []) dL_law_367 c_RL_130 rfl (by decide) rfl (Nat.le_of_ble_eq_true rfl) hM hF (T_X4_thrown g (s_twin M w1 w2).2) (fun h hM hF => ?_)
  refine V_iload dL_law_370 rfl ?_
  refine V_icmp_eqS (tgt := 377) dL_law_372 (by decide) ?_
  refine V_iload dL_law_377 rfl ?_
  refine V_if_ne (tgt := 394) dL_law_379 (by decide) (by omega) (fun q => ?_) (fun q => ?_)
  · refine V_goto (tgt := 2119) dL_law_394 (by decide) ?_
    refine V_wk (lc' := [_, _, _, _, _, _, xU, xU, xU]) ⟨Or.inr rfl, Or.inr rfl, Or.inr rfl, Or.inr rfl, Or.inr rfl, Or.inr rfl, Or.inl rfl, Or.inl rfl, Or.inl rfl, trivial⟩ ?_
    have kk := k_twin (M := M) w1 w2
    have g1 := hD.g1
    have g2 := a.1.g1
    exact hT h ⟨_, _, A1, N + 4, U + 200, a.1, hF.dr hR1, hM, hF.ow ho1, ⟨by have := kk.1; have := g1.2.2.2.1; have := g2.2.2.2.1; (try dsimp only at *); omega, by have := kk.2; have := g1.2.2.2.2; have := g2.2.2.2.2; (try dsimp only at *); omega⟩, by omega, by omega⟩
  · skip
    refine V_aload_n dL_law_382 rfl ?_
    refine V_iconst dL_law_383 ?_
    refine V_lald (j := 0) dL_law_384 (hF.ow ho1).1 rfl (by rw [(hF.ow ho1).2.1]; decide) (by rw [(hF.ow ho1).2.1]; decide) ?_
    rw [show h_i h 39 0 = _ from ((hF.1 39 (Or.inr (by decide))).2.2.1 0).trans (e3 q), Int64.ofInt_toInt]
    refine V_iload dL_law_385 rfl ?_
    refine V_i2lw dL_law_387 ?_
    refine V_lcmp (z := 0) dL_law_388 lcmp_eq ?_
    refine V_if_eq (tgt := 394) dL_law_389 (by decide) (by decide) (fun _ => ?_) (fun w => absurd rfl w)
    refine V_goto (tgt := 2119) dL_law_394 (by decide) ?_
    refine V_wk (lc' := [_, _, _, _, _, _, xU, xU, xU]) ⟨Or.inr rfl, Or.inr rfl, Or.inr rfl, Or.inr rfl, Or.inr rfl, Or.inr rfl, Or.inl rfl, Or.inl rfl, Or.inl rfl, trivial⟩ ?_
    have kk := k_twin (M := M) w1 w2
    have g1 := hD.g1
    have g2 := a.1.g1
    exact hT h ⟨_, _, A1, N + 4, U + 200, a.1, hF.dr hR1, hM, hF.ow ho1, ⟨by have := kk.1; have := g1.2.2.2.1; have := g2.2.2.2.1; (try dsimp only at *); omega, by have := kk.2; have := g1.2.2.2.2; have := g2.2.2.2.2; (try dsimp only at *); omega⟩, by omega, by omega⟩
theorem LC_4 (g : GP) {h : AH} {i c : Int} (hT : ∀ h', LW h' (c + 1) → V g m_L_law 15 Q1 h' 2119 [xR 5, xR 8, xR 18, xR 39, xR 40, xI i, xU, xU, xU] []) (W : LW h c) (hi : 0 ≤ i ∧ i + 5 ≤ g_l g) (hg : g_l g ≤ 2560) (hc : 0 ≤ c ∧ c ≤ 511) : V g m_L_law 15 Q1 h 397 [xR 5, xR 8, xR 18, xR 39, xR 40, xI i, xU, xU, xU] [] := by
  obtain ⟨D, M, A, N, U, hD, hR, hM, ho, ⟨h8, h9⟩, hN, hU⟩ := W
  have hI := hD.1.2.1
  have hIM := hD.2.1
  have hN' : N + 200 ≤ z_CC := by unfold z_CC; omega
  have hU' : U + 5000 ≤ z_CS := by unfold z_CS; omega
  have hE : ∀ k, 0 ≤ k → k < D 70 0 → iQ D (D 71 (40 * 0 + k)) := fun k a b => (hR.le (l := 0) (vL0 (by decide))).2 k a b
  obtain ⟨w1, ew1, r1⟩ : ∃ w : Int, w = (g_x g (i + 1).toNat).toInt ∧ -2147483648 ≤ w ∧ w ≤ 2147483647 := ⟨_, rfl, sc_r _⟩
  obtain ⟨w2, ew2, r2⟩ : ∃ w : Int, w = (g_x g (i + 2).toNat).toInt ∧ -2147483648 ≤ w ∧ w ≤ 2147483647 := ⟨_, rfl, sc_r _⟩
  have a := g_areTwins hD w1 w2
  refine V_aload_n dL_law_397 rfl ?_
  refine V_aload_n dL_law_398 rfl ?_
  refine V_iload dL_law_399 rfl ?_
  refine V_iconst dL_law_401 ?_
  refine V_iadd dL_law_402 ?_
  refine V_sld (j := (i + 1).toNat) dL_law_403 (by omega) (by omega) (by omega) ?_
  rw [← ew1]
  refine V_aload_n dL_law_404 rfl ?_
  refine V_iload dL_law_405 rfl ?_
  refine V_iconst dL_law_407 ?_
  refine V_iadd dL_law_408 ?_
  refine V_sld (j := (i + 2).toNat) dL_law_409 (by omega) (by omega) (by omega) ?_
  rw [← ew2]
  refine V_aload_n dL_law_410 rfl ?_
  refine V_cH (as := [_, _, _, _]) dL_law_411 c_RL_144 rfl (by decide) rfl (Nat.le_of_ble_eq_true rfl) (T_L_areTwins g w1 w2 ho hR.kx a.hx (fun v hv => a.b01 hv (pI_01 _)) (T_X3_areTwins g N U D w1 w2 r1 r2 hI hN' hU' A h hR)) (fun E h1 q => ?_) (fun v h1 q => ?_)
  · obtain ⟨-, -, z, hz, -⟩ := q
    cases hz
  obtain ⟨q1, q2, z, hz, q3⟩ := q
  cases hz
  obtain ⟨e1, e2, e3⟩ := cmpL (by decide) nd1 a q3
  subst e1
  have ho1 := q2.ow ho
  have hM1 := q2.mr hM
  obtain ⟨A1, hR1⟩ := q1
  refine V_istore (lc' := [_, _, _, _, _, _, _, _, _]) dL_law_414 (by decide) rfl ?_
  refine V_aload_n dL_law_416 rfl ?_
  refine V_aload_n dL_law_417 rfl ?_
  refine V_iload dL_law_418 rfl ?_
  refine V_iconst dL_law_420 ?_
  refine V_iadd dL_law_421 ?_
  refine V_sld (j := (i + 1).toNat) dL_law_422 (by omega) (by omega) (by omega) ?_
  rw [← ew1]
  refine V_aload_n dL_law_423 rfl ?_
  refine V_iload dL_law_424 rfl ?_
  refine V_iconst dL_law_426 ?_
  refine V_iadd dL_law_427 ?_
  refine V_sld (j := (i + 2).toNat) dL_law_428 (by omega) (by omega) (by omega) ?_
  rw [← ew2]
  refine V_mC (h0 := h1) (as := [_, _]) dL_law_429 c_RL_146 rfl (by decide) rfl (Nat.le_of_ble_eq_true rfl) hM1 FR.rf (T_X4_areTwins g M w1 w2 r1 r2 hIM) (fun h hM hF => ?_)
  refine V_istore (lc' := [_, _, _, _, _, _, _, _, _]) dL_law_432 (by decide) rfl ?_
  refine V_aload_n dL_law_434 rfl ?_
  refine V_mC (as := []) dL_law_435 c_RL_130 rfl (by decide) rfl (Nat.le_of_ble_eq_true rfl) hM hF (T_X4_thrown g (mset M 27 0 (tQQ M w1 w2))) (fun h hM hF => ?_)
  refine V_iload dL_law_438 rfl ?_
  refine V_icmp_eqS (tgt := 445) dL_law_440 (by decide) ?_
  refine V_iload dL_law_445 rfl ?_
  refine V_if_ne (tgt := 469) dL_law_447 (by decide) (by omega) (fun q => ?_) (fun q => ?_)
  · refine V_goto (tgt := 2119) dL_law_469 (by decide) ?_
    refine V_wk (lc' := [_, _, _, _, _, _, xU, xU, xU]) ⟨Or.inr rfl, Or.inr rfl, Or.inr rfl, Or.inr rfl, Or.inr rfl, Or.inr rfl, Or.inl rfl, Or.inl rfl, Or.inl rfl, trivial⟩ ?_
    have kk := K9.th (M := M) (z := tQQ M w1 w2)
    have g1 := hD.g1
    have g2 := a.1.g1
    exact hT h ⟨_, _, A1, N + 4, U + 200, a.1, hF.dr hR1, hM, hF.ow ho1, ⟨by have := kk.1; have := g1.2.2.2.1; have := g2.2.2.2.1; (try dsimp only at *); omega, by have := kk.2; have := g1.2.2.2.2; have := g2.2.2.2.2; (try dsimp only at *); omega⟩, by omega, by omega⟩
  · skip
    refine V_aload_n dL_law_450 rfl ?_
    refine V_iconst dL_law_451 ?_
    refine V_lald (j := 0) dL_law_452 (hF.ow ho1).1 rfl (by rw [(hF.ow ho1).2.1]; decide) (by rw [(hF.ow ho1).2.1]; decide) ?_
    rw [show h_i h 39 0 = (Int32.ofInt (pI (isQ M w1 ∧ isQ M w2 ∧ sTw M w1 w2))).toInt64.toInt from ((hF.1 39 (Or.inr (by decide))).2.2.1 0).trans (e3 q), Int64.ofInt_toInt]
    refine V_iload dL_law_453 rfl ?_
    rcases pI_01 (isQ M w1 ∧ isQ M w2 ∧ sTw M w1 w2) with eb | eb
    · rw [eb]
      refine V_if_eq (tgt := 462) dL_law_455 (by decide) (by decide) (fun _ => ?_) (fun w => absurd rfl w)
      refine V_lconst (v := (0 : Int64)) dL_law_462 (by decide) ?_
      refine V_lcmp (z := 0) dL_law_463 (by decide) ?_
      refine V_if_eq (tgt := 469) dL_law_464 (by decide) (by decide) (fun _ => ?_) (fun w => absurd rfl w)
      refine V_goto (tgt := 2119) dL_law_469 (by decide) ?_
      refine V_wk (lc' := [_, _, _, _, _, _, xU, xU, xU]) ⟨Or.inr rfl, Or.inr rfl, Or.inr rfl, Or.inr rfl, Or.inr rfl, Or.inr rfl, Or.inl rfl, Or.inl rfl, Or.inl rfl, trivial⟩ ?_
      have kk := K9.th (M := M) (z := tQQ M w1 w2)
      have g1 := hD.g1
      have g2 := a.1.g1
      exact hT h ⟨_, _, A1, N + 4, U + 200, a.1, hF.dr hR1, hM, hF.ow ho1, ⟨by have := kk.1; have := g1.2.2.2.1; have := g2.2.2.2.1; (try dsimp only at *); omega, by have := kk.2; have := g1.2.2.2.2; have := g2.2.2.2.2; (try dsimp only at *); omega⟩, by omega, by omega⟩
    · rw [eb]
      refine V_if_eq (tgt := 462) dL_law_455 (by decide) (by decide) (fun w => absurd w (by decide)) (fun _ => ?_)
      refine V_lconst (v := (1 : Int64)) dL_law_458 (by decide) ?_
      refine V_goto (tgt := 463) dL_law_459 (by decide) ?_
      refine V_lcmp (z := 0) dL_law_463 (by decide) ?_
      refine V_if_eq (tgt := 469) dL_law_464 (by decide) (by decide) (fun _ => ?_) (fun w => absurd rfl w)
      refine V_goto (tgt := 2119) dL_law_469 (by decide) ?_
      refine V_wk (lc' := [_, _, _, _, _, _, xU, xU, xU]) ⟨Or.inr rfl, Or.inr rfl, Or.inr rfl, Or.inr rfl, Or.inr rfl, Or.inr rfl, Or.inl rfl, Or.inl rfl, Or.inl rfl, trivial⟩ ?_
      have kk := K9.th (M := M) (z := tQQ M w1 w2)
      have g1 := hD.g1
      have g2 := a.1.g1
      exact hT h ⟨_, _, A1, N + 4, U + 200, a.1, hF.dr hR1, hM, hF.ow ho1, ⟨by have := kk.1; have := g1.2.2.2.1; have := g2.2.2.2.1; (try dsimp only at *); omega, by have := kk.2; have := g1.2.2.2.2; have := g2.2.2.2.2; (try dsimp only at *); omega⟩, by omega, by omega⟩
theorem LC_5 (g : GP) {h : AH} {i c : Int} (hT : ∀ h', LW h' (c + 1) → V g m_L_law 15 Q1 h' 2119 [xR 5, xR 8, xR 18, xR 39, xR 40, xI i, xU, xU, xU] []) (W : LW h c) (hi : 0 ≤ i ∧ i + 5 ≤ g_l g) (hg : g_l g ≤ 2560) (hc : 0 ≤ c ∧ c ≤ 511) : V g m_L_law 15 Q1 h 472 [xR 5, xR 8, xR 18, xR 39, xR 40, xI i, xU, xU, xU] [] := by
  obtain ⟨D, M, A, N, U, hD, hR, hM, ho, ⟨h8, h9⟩, hN, hU⟩ := W
  have hI := hD.1.2.1
  have hIM := hD.2.1
  have hN' : N + 200 ≤ z_CC := by unfold z_CC; omega
  have hU' : U + 5000 ≤ z_CS := by unfold z_CS; omega
  have hE : ∀ k, 0 ≤ k → k < D 70 0 → iQ D (D 71 (40 * 0 + k)) := fun k a b => (hR.le (l := 0) (vL0 (by decide))).2 k a b
  obtain ⟨w1, ew1, r1⟩ : ∃ w : Int, w = (g_x g (i + 1).toNat).toInt ∧ -2147483648 ≤ w ∧ w ≤ 2147483647 := ⟨_, rfl, sc_r _⟩
  obtain ⟨w2, ew2, r2⟩ : ∃ w : Int, w = (g_x g (i + 2).toNat).toInt ∧ -2147483648 ≤ w ∧ w ≤ 2147483647 := ⟨_, rfl, sc_r _⟩
  have a := g_wordAt hD w1 w2
  refine V_aload_n dL_law_472 rfl ?_
  refine V_aload_n dL_law_473 rfl ?_
  refine V_iload dL_law_474 rfl ?_
  refine V_iconst dL_law_476 ?_
  refine V_iadd dL_law_477 ?_
  refine V_sld (j := (i + 1).toNat) dL_law_478 (by omega) (by omega) (by omega) ?_
  rw [← ew1]
  refine V_aload_n dL_law_479 rfl ?_
  refine V_iload dL_law_480 rfl ?_
  refine V_iconst dL_law_482 ?_
  refine V_iadd dL_law_483 ?_
  refine V_sld (j := (i + 2).toNat) dL_law_484 (by omega) (by omega) (by omega) ?_
  rw [← ew2]
  refine V_aload_n dL_law_485 rfl ?_
  refine V_cH (as := [_, _, _, _]) dL_law_486 c_RL_147 rfl (by decide) rfl (Nat.le_of_ble_eq_true rfl) (T_L_wordAt g w1 w2 ho hR.kx a.hx (T_X3_wordAt g N U D w1 w2 r1 r2 hI hN' hU' A h hR)) (fun E h1 q => ?_) (fun v h1 q => ?_)
  · obtain ⟨-, -, z, hz, -⟩ := q
    cases hz
  obtain ⟨q1, q2, z, hz, q3⟩ := q
  cases hz
  obtain ⟨e1, e2, e3⟩ := cmpL (by decide) (nd2 (by decide)) a q3
  subst e1
  have ho1 := q2.ow ho
  have hM1 := q2.mr hM
  obtain ⟨A1, hR1⟩ := q1
  refine V_istore (lc' := [_, _, _, _, _, _, _, _, _]) dL_law_489 (by decide) rfl ?_
  refine V_aload_n dL_law_491 rfl ?_
  refine V_aload_n dL_law_492 rfl ?_
  refine V_iload dL_law_493 rfl ?_
  refine V_iconst dL_law_495 ?_
  refine V_iadd dL_law_496 ?_
  refine V_sld (j := (i + 1).toNat) dL_law_497 (by omega) (by omega) (by omega) ?_
  rw [← ew1]
  refine V_aload_n dL_law_498 rfl ?_
  refine V_iload dL_law_499 rfl ?_
  refine V_iconst dL_law_501 ?_
  refine V_iadd dL_law_502 ?_
  refine V_sld (j := (i + 2).toNat) dL_law_503 (by omega) (by omega) (by omega) ?_
  rw [← ew2]
  refine V_mC (h0 := h1) (as := [_, _]) dL_law_504 c_RL_149 rfl (by decide) rfl (Nat.le_of_ble_eq_true rfl) hM1 FR.rf (T_X4_wordAt g M w1 w2 r1 r2 hIM) (fun h hM hF => ?_)
  refine V_istore (lc' := [_, _, _, _, _, _, _, _, _]) dL_law_507 (by decide) rfl ?_
  refine V_aload_n dL_law_509 rfl ?_
  refine V_mC (as := []) dL_law_510 c_RL_130 rfl (by decide) rfl (Nat.le_of_ble_eq_true rfl) hM hF (T_X4_thrown g (s_wordAt M w1 w2).2) (fun h hM hF => ?_)
  refine V_iload dL_law_513 rfl ?_
  refine V_icmp_eqS (tgt := 520) dL_law_515 (by decide) ?_
  refine V_iload dL_law_520 rfl ?_
  refine V_if_ne (tgt := 537) dL_law_522 (by decide) (by omega) (fun q => ?_) (fun q => ?_)
  · refine V_goto (tgt := 2119) dL_law_537 (by decide) ?_
    refine V_wk (lc' := [_, _, _, _, _, _, xU, xU, xU]) ⟨Or.inr rfl, Or.inr rfl, Or.inr rfl, Or.inr rfl, Or.inr rfl, Or.inr rfl, Or.inl rfl, Or.inl rfl, Or.inl rfl, trivial⟩ ?_
    have kk := k_wordAt (M := M) w1 w2
    have g1 := hD.g1
    have g2 := a.1.g1
    exact hT h ⟨_, _, A1, N + 4, U + 200, a.1, hF.dr hR1, hM, hF.ow ho1, ⟨by have := kk.1; have := g1.2.2.2.1; have := g2.2.2.2.1; (try dsimp only at *); omega, by have := kk.2; have := g1.2.2.2.2; have := g2.2.2.2.2; (try dsimp only at *); omega⟩, by omega, by omega⟩
  · skip
    refine V_aload_n dL_law_525 rfl ?_
    refine V_iconst dL_law_526 ?_
    refine V_lald (j := 0) dL_law_527 (hF.ow ho1).1 rfl (by rw [(hF.ow ho1).2.1]; decide) (by rw [(hF.ow ho1).2.1]; decide) ?_
    rw [show h_i h 39 0 = _ from ((hF.1 39 (Or.inr (by decide))).2.2.1 0).trans (e3 q), Int64.ofInt_toInt]
    refine V_iload dL_law_528 rfl ?_
    refine V_i2lw dL_law_530 ?_
    refine V_lcmp (z := 0) dL_law_531 lcmp_eq ?_
    refine V_if_eq (tgt := 537) dL_law_532 (by decide) (by decide) (fun _ => ?_) (fun w => absurd rfl w)
    refine V_goto (tgt := 2119) dL_law_537 (by decide) ?_
    refine V_wk (lc' := [_, _, _, _, _, _, xU, xU, xU]) ⟨Or.inr rfl, Or.inr rfl, Or.inr rfl, Or.inr rfl, Or.inr rfl, Or.inr rfl, Or.inl rfl, Or.inl rfl, Or.inl rfl, trivial⟩ ?_
    have kk := k_wordAt (M := M) w1 w2
    have g1 := hD.g1
    have g2 := a.1.g1
    exact hT h ⟨_, _, A1, N + 4, U + 200, a.1, hF.dr hR1, hM, hF.ow ho1, ⟨by have := kk.1; have := g1.2.2.2.1; have := g2.2.2.2.1; (try dsimp only at *); omega, by have := kk.2; have := g1.2.2.2.2; have := g2.2.2.2.2; (try dsimp only at *); omega⟩, by omega, by omega⟩
theorem LC_6 (g : GP) {h : AH} {i c : Int} (hT : ∀ h', LW h' (c + 1) → V g m_L_law 15 Q1 h' 2119 [xR 5, xR 8, xR 18, xR 39, xR 40, xI i, xU, xU, xU] []) (W : LW h c) (hi : 0 ≤ i ∧ i + 5 ≤ g_l g) (hg : g_l g ≤ 2560) (hc : 0 ≤ c ∧ c ≤ 511) : V g m_L_law 15 Q1 h 540 [xR 5, xR 8, xR 18, xR 39, xR 40, xI i, xU, xU, xU] [] := by
  obtain ⟨D, M, A, N, U, hD, hR, hM, ho, ⟨h8, h9⟩, hN, hU⟩ := W
  have hI := hD.1.2.1
  have hIM := hD.2.1
  have hN' : N + 200 ≤ z_CC := by unfold z_CC; omega
  have hU' : U + 5000 ≤ z_CS := by unfold z_CS; omega
  have hE : ∀ k, 0 ≤ k → k < D 70 0 → iQ D (D 71 (40 * 0 + k)) := fun k a b => (hR.le (l := 0) (vL0 (by decide))).2 k a b
  obtain ⟨w1, ew1, r1⟩ : ∃ w : Int, w = (g_x g (i + 1).toNat).toInt ∧ -2147483648 ≤ w ∧ w ≤ 2147483647 := ⟨_, rfl, sc_r _⟩
  have a := g_level hD w1
  refine V_aload_n dL_law_540 rfl ?_
  refine V_aload_n dL_law_541 rfl ?_
  refine V_iload dL_law_542 rfl ?_
  refine V_iconst dL_law_544 ?_
  refine V_iadd dL_law_545 ?_
  refine V_sld (j := (i + 1).toNat) dL_law_546 (by omega) (by omega) (by omega) ?_
  rw [← ew1]
  refine V_aload_n dL_law_547 rfl ?_
  refine V_cH (as := [_, _, _]) dL_law_548 c_RL_150 rfl (by decide) rfl (Nat.le_of_ble_eq_true rfl) (T_L_level g w1 ho hR.kx a.hx (T_X3_level g N U D w1 r1 hI hN' hU' A h hR)) (fun E h1 q => ?_) (fun v h1 q => ?_)
  · obtain ⟨-, -, z, hz, -⟩ := q
    cases hz
  obtain ⟨q1, q2, z, hz, q3⟩ := q
  cases hz
  obtain ⟨e1, e2, e3⟩ := cmpL (by decide) nd1 a q3
  subst e1
  have ho1 := q2.ow ho
  have hM1 := q2.mr hM
  obtain ⟨A1, hR1⟩ := q1
  refine V_istore (lc' := [_, _, _, _, _, _, _, _, _]) dL_law_551 (by decide) rfl ?_
  refine V_aload_n dL_law_553 rfl ?_
  refine V_aload_n dL_law_554 rfl ?_
  refine V_iload dL_law_555 rfl ?_
  refine V_iconst dL_law_557 ?_
  refine V_iadd dL_law_558 ?_
  refine V_sld (j := (i + 1).toNat) dL_law_559 (by omega) (by omega) (by omega) ?_
  rw [← ew1]
  refine V_mC (h0 := h1) (as := [_]) dL_law_560 c_RL_152 rfl (by decide) rfl (Nat.le_of_ble_eq_true rfl) hM1 FR.rf (T_X4_level g M w1 r1 hIM) (fun h hM hF => ?_)
  refine V_istore (lc' := [_, _, _, _, _, _, _, _, _]) dL_law_563 (by decide) rfl ?_
  refine V_aload_n dL_law_565 rfl ?_
  refine V_mC (as := []) dL_law_566 c_RL_130 rfl (by decide) rfl (Nat.le_of_ble_eq_true rfl) hM hF (T_X4_thrown g (s_level M w1).2) (fun h hM hF => ?_)
  refine V_iload dL_law_569 rfl ?_
  refine V_icmp_eqS (tgt := 576) dL_law_571 (by decide) ?_
  refine V_iload dL_law_576 rfl ?_
  refine V_if_ne (tgt := 593) dL_law_578 (by decide) (by omega) (fun q => ?_) (fun q => ?_)
  · refine V_goto (tgt := 2119) dL_law_593 (by decide) ?_
    refine V_wk (lc' := [_, _, _, _, _, _, xU, xU, xU]) ⟨Or.inr rfl, Or.inr rfl, Or.inr rfl, Or.inr rfl, Or.inr rfl, Or.inr rfl, Or.inl rfl, Or.inl rfl, Or.inl rfl, trivial⟩ ?_
    have kk := k_level (M := M) w1
    have g1 := hD.g1
    have g2 := a.1.g1
    exact hT h ⟨_, _, A1, N + 4, U + 200, a.1, hF.dr hR1, hM, hF.ow ho1, ⟨by have := kk.1; have := g1.2.2.2.1; have := g2.2.2.2.1; (try dsimp only at *); omega, by have := kk.2; have := g1.2.2.2.2; have := g2.2.2.2.2; (try dsimp only at *); omega⟩, by omega, by omega⟩
  · skip
    refine V_aload_n dL_law_581 rfl ?_
    refine V_iconst dL_law_582 ?_
    refine V_lald (j := 0) dL_law_583 (hF.ow ho1).1 rfl (by rw [(hF.ow ho1).2.1]; decide) (by rw [(hF.ow ho1).2.1]; decide) ?_
    rw [show h_i h 39 0 = _ from ((hF.1 39 (Or.inr (by decide))).2.2.1 0).trans (e3 q), Int64.ofInt_toInt]
    refine V_iload dL_law_584 rfl ?_
    refine V_i2lw dL_law_586 ?_
    refine V_lcmp (z := 0) dL_law_587 lcmp_eq ?_
    refine V_if_eq (tgt := 593) dL_law_588 (by decide) (by decide) (fun _ => ?_) (fun w => absurd rfl w)
    refine V_goto (tgt := 2119) dL_law_593 (by decide) ?_
    refine V_wk (lc' := [_, _, _, _, _, _, xU, xU, xU]) ⟨Or.inr rfl, Or.inr rfl, Or.inr rfl, Or.inr rfl, Or.inr rfl, Or.inr rfl, Or.inl rfl, Or.inl rfl, Or.inl rfl, trivial⟩ ?_
    have kk := k_level (M := M) w1
    have g1 := hD.g1
    have g2 := a.1.g1
    exact hT h ⟨_, _, A1, N + 4, U + 200, a.1, hF.dr hR1, hM, hF.ow ho1, ⟨by have := kk.1; have := g1.2.2.2.1; have := g2.2.2.2.1; (try dsimp only at *); omega, by have := kk.2; have := g1.2.2.2.2; have := g2.2.2.2.2; (try dsimp only at *); omega⟩, by omega, by omega⟩
theorem LC_7 (g : GP) {h : AH} {i c : Int} (hT : ∀ h', LW h' (c + 1) → V g m_L_law 15 Q1 h' 2119 [xR 5, xR 8, xR 18, xR 39, xR 40, xI i, xU, xU, xU] []) (W : LW h c) (hi : 0 ≤ i ∧ i + 5 ≤ g_l g) (hg : g_l g ≤ 2560) (hc : 0 ≤ c ∧ c ≤ 511) : V g m_L_law 15 Q1 h 596 [xR 5, xR 8, xR 18, xR 39, xR 40, xI i, xU, xU, xU] [] := by
  obtain ⟨D, M, A, N, U, hD, hR, hM, ho, ⟨h8, h9⟩, hN, hU⟩ := W
  have hI := hD.1.2.1
  have hIM := hD.2.1
  have hN' : N + 200 ≤ z_CC := by unfold z_CC; omega
  have hU' : U + 5000 ≤ z_CS := by unfold z_CS; omega
  have hE : ∀ k, 0 ≤ k → k < D 70 0 → iQ D (D 71 (40 * 0 + k)) := fun k a b => (hR.le (l := 0) (vL0 (by decide))).2 k a b
  obtain ⟨w1, ew1, r1⟩ : ∃ w : Int, w = (g_x g (i + 1).toNat).toInt ∧ -2147483648 ≤ w ∧ w ≤ 2147483647 := ⟨_, rfl, sc_r _⟩
  have a := g_levelAnew hD w1
  refine V_aload_n dL_law_596 rfl ?_
  refine V_aload_n dL_law_597 rfl ?_
  refine V_iload dL_law_598 rfl ?_
  refine V_iconst dL_law_600 ?_
  refine V_iadd dL_law_601 ?_
  refine V_sld (j := (i + 1).toNat) dL_law_602 (by omega) (by omega) (by omega) ?_
  rw [← ew1]
  refine V_aload_n dL_law_603 rfl ?_
  refine V_cH (as := [_, _, _]) dL_law_604 c_RL_153 rfl (by decide) rfl (Nat.le_of_ble_eq_true rfl) (T_L_levelAnew g w1 ho hR.kx a.hx (T_X3_levelAnew g N U D w1 r1 hI hN' hU' A h hR)) (fun E h1 q => ?_) (fun v h1 q => ?_)
  · obtain ⟨-, -, z, hz, -⟩ := q
    cases hz
  obtain ⟨q1, q2, z, hz, q3⟩ := q
  cases hz
  obtain ⟨e1, e2, e3⟩ := cmpL (by decide) nd1 a q3
  subst e1
  have ho1 := q2.ow ho
  have hM1 := q2.mr hM
  obtain ⟨A1, hR1⟩ := q1
  refine V_istore (lc' := [_, _, _, _, _, _, _, _, _]) dL_law_607 (by decide) rfl ?_
  refine V_aload_n dL_law_609 rfl ?_
  refine V_aload_n dL_law_610 rfl ?_
  refine V_iload dL_law_611 rfl ?_
  refine V_iconst dL_law_613 ?_
  refine V_iadd dL_law_614 ?_
  refine V_sld (j := (i + 1).toNat) dL_law_615 (by omega) (by omega) (by omega) ?_
  rw [← ew1]
  refine V_mC (h0 := h1) (as := [_]) dL_law_616 c_RL_155 rfl (by decide) rfl (Nat.le_of_ble_eq_true rfl) hM1 FR.rf (T_X4_levelAnew g M w1 r1 hIM) (fun h hM hF => ?_)
  refine V_istore (lc' := [_, _, _, _, _, _, _, _, _]) dL_law_619 (by decide) rfl ?_
  refine V_aload_n dL_law_621 rfl ?_
  refine V_mC (as := []) dL_law_622 c_RL_130 rfl (by decide) rfl (Nat.le_of_ble_eq_true rfl) hM hF (T_X4_thrown g (s_level M w1).2) (fun h hM hF => ?_)
  refine V_iload dL_law_625 rfl ?_
  refine V_icmp_eqS (tgt := 632) dL_law_627 (by decide) ?_
  refine V_iload dL_law_632 rfl ?_
  refine V_if_ne (tgt := 649) dL_law_634 (by decide) (by omega) (fun q => ?_) (fun q => ?_)
  · refine V_goto (tgt := 2119) dL_law_649 (by decide) ?_
    refine V_wk (lc' := [_, _, _, _, _, _, xU, xU, xU]) ⟨Or.inr rfl, Or.inr rfl, Or.inr rfl, Or.inr rfl, Or.inr rfl, Or.inr rfl, Or.inl rfl, Or.inl rfl, Or.inl rfl, trivial⟩ ?_
    have kk := k_level (M := M) w1
    have g1 := hD.g1
    have g2 := a.1.g1
    exact hT h ⟨_, _, A1, N + 4, U + 200, a.1, hF.dr hR1, hM, hF.ow ho1, ⟨by have := kk.1; have := g1.2.2.2.1; have := g2.2.2.2.1; (try dsimp only at *); omega, by have := kk.2; have := g1.2.2.2.2; have := g2.2.2.2.2; (try dsimp only at *); omega⟩, by omega, by omega⟩
  · skip
    refine V_aload_n dL_law_637 rfl ?_
    refine V_iconst dL_law_638 ?_
    refine V_lald (j := 0) dL_law_639 (hF.ow ho1).1 rfl (by rw [(hF.ow ho1).2.1]; decide) (by rw [(hF.ow ho1).2.1]; decide) ?_
    rw [show h_i h 39 0 = _ from ((hF.1 39 (Or.inr (by decide))).2.2.1 0).trans (e3 q), Int64.ofInt_toInt]
    refine V_iload dL_law_640 rfl ?_
    refine V_i2lw dL_law_642 ?_
    refine V_lcmp (z := 0) dL_law_643 lcmp_eq ?_
    refine V_if_eq (tgt := 649) dL_law_644 (by decide) (by decide) (fun _ => ?_) (fun w => absurd rfl w)
    refine V_goto (tgt := 2119) dL_law_649 (by decide) ?_
    refine V_wk (lc' := [_, _, _, _, _, _, xU, xU, xU]) ⟨Or.inr rfl, Or.inr rfl, Or.inr rfl, Or.inr rfl, Or.inr rfl, Or.inr rfl, Or.inl rfl, Or.inl rfl, Or.inl rfl, trivial⟩ ?_
    have kk := k_level (M := M) w1
    have g1 := hD.g1
    have g2 := a.1.g1
    exact hT h ⟨_, _, A1, N + 4, U + 200, a.1, hF.dr hR1, hM, hF.ow ho1, ⟨by have := kk.1; have := g1.2.2.2.1; have := g2.2.2.2.1; (try dsimp only at *); omega, by have := kk.2; have := g1.2.2.2.2; have := g2.2.2.2.2; (try dsimp only at *); omega⟩, by omega, by omega⟩
theorem LC_8 (g : GP) {h : AH} {i c : Int} (hT : ∀ h', LW h' (c + 1) → V g m_L_law 15 Q1 h' 2119 [xR 5, xR 8, xR 18, xR 39, xR 40, xI i, xU, xU, xU] []) (W : LW h c) (hi : 0 ≤ i ∧ i + 5 ≤ g_l g) (hg : g_l g ≤ 2560) (hc : 0 ≤ c ∧ c ≤ 511) : V g m_L_law 15 Q1 h 652 [xR 5, xR 8, xR 18, xR 39, xR 40, xI i, xU, xU, xU] [] := by
  obtain ⟨D, M, A, N, U, hD, hR, hM, ho, ⟨h8, h9⟩, hN, hU⟩ := W
  have hI := hD.1.2.1
  have hIM := hD.2.1
  have hN' : N + 200 ≤ z_CC := by unfold z_CC; omega
  have hU' : U + 5000 ≤ z_CS := by unfold z_CS; omega
  have hE : ∀ k, 0 ≤ k → k < D 70 0 → iQ D (D 71 (40 * 0 + k)) := fun k a b => (hR.le (l := 0) (vL0 (by decide))).2 k a b
  obtain ⟨w1, ew1, r1⟩ : ∃ w : Int, w = (g_x g (i + 1).toNat).toInt ∧ -2147483648 ≤ w ∧ w ≤ 2147483647 := ⟨_, rfl, sc_r _⟩
  have a := g_kind hD w1
  refine V_aload_n dL_law_652 rfl ?_
  refine V_aload_n dL_law_653 rfl ?_
  refine V_iload dL_law_654 rfl ?_
  refine V_iconst dL_law_656 ?_
  refine V_iadd dL_law_657 ?_
  refine V_sld (j := (i + 1).toNat) dL_law_658 (by omega) (by omega) (by omega) ?_
  rw [← ew1]
  refine V_aload_n dL_law_659 rfl ?_
  refine V_cH (as := [_, _, _]) dL_law_660 c_RL_156 rfl (by decide) rfl (Nat.le_of_ble_eq_true rfl) (T_L_kind g w1 ho hR.kx a.hx (T_X3_kind g N U D w1 r1 hI hN' hU' A h hR)) (fun E h1 q => ?_) (fun v h1 q => ?_)
  · obtain ⟨-, -, z, hz, -⟩ := q
    cases hz
  obtain ⟨q1, q2, z, hz, q3⟩ := q
  cases hz
  obtain ⟨e1, e2, e3⟩ := cmpL (by decide) nd1 a q3
  subst e1
  have ho1 := q2.ow ho
  have hM1 := q2.mr hM
  obtain ⟨A1, hR1⟩ := q1
  refine V_istore (lc' := [_, _, _, _, _, _, _, _, _]) dL_law_663 (by decide) rfl ?_
  refine V_aload_n dL_law_665 rfl ?_
  refine V_aload_n dL_law_666 rfl ?_
  refine V_iload dL_law_667 rfl ?_
  refine V_iconst dL_law_669 ?_
  refine V_iadd dL_law_670 ?_
  refine V_sld (j := (i + 1).toNat) dL_law_671 (by omega) (by omega) (by omega) ?_
  rw [← ew1]
  refine V_mC (h0 := h1) (as := [_]) dL_law_672 c_RL_158 rfl (by decide) rfl (Nat.le_of_ble_eq_true rfl) hM1 FR.rf (T_X4_kind g M w1 r1 hIM) (fun h hM hF => ?_)
  refine V_istore (lc' := [_, _, _, _, _, _, _, _, _]) dL_law_675 (by decide) rfl ?_
  refine V_aload_n dL_law_677 rfl ?_
  refine V_mC (as := []) dL_law_678 c_RL_130 rfl (by decide) rfl (Nat.le_of_ble_eq_true rfl) hM hF (T_X4_thrown g (s_kind M w1).2) (fun h hM hF => ?_)
  refine V_iload dL_law_681 rfl ?_
  refine V_icmp_eqS (tgt := 688) dL_law_683 (by decide) ?_
  refine V_iload dL_law_688 rfl ?_
  refine V_if_ne (tgt := 705) dL_law_690 (by decide) (by omega) (fun q => ?_) (fun q => ?_)
  · refine V_goto (tgt := 2119) dL_law_705 (by decide) ?_
    refine V_wk (lc' := [_, _, _, _, _, _, xU, xU, xU]) ⟨Or.inr rfl, Or.inr rfl, Or.inr rfl, Or.inr rfl, Or.inr rfl, Or.inr rfl, Or.inl rfl, Or.inl rfl, Or.inl rfl, trivial⟩ ?_
    have kk := k_kind (M := M) w1
    have g1 := hD.g1
    have g2 := a.1.g1
    exact hT h ⟨_, _, A1, N + 4, U + 200, a.1, hF.dr hR1, hM, hF.ow ho1, ⟨by have := kk.1; have := g1.2.2.2.1; have := g2.2.2.2.1; (try dsimp only at *); omega, by have := kk.2; have := g1.2.2.2.2; have := g2.2.2.2.2; (try dsimp only at *); omega⟩, by omega, by omega⟩
  · skip
    refine V_aload_n dL_law_693 rfl ?_
    refine V_iconst dL_law_694 ?_
    refine V_lald (j := 0) dL_law_695 (hF.ow ho1).1 rfl (by rw [(hF.ow ho1).2.1]; decide) (by rw [(hF.ow ho1).2.1]; decide) ?_
    rw [show h_i h 39 0 = _ from ((hF.1 39 (Or.inr (by decide))).2.2.1 0).trans (e3 q), Int64.ofInt_toInt]
    refine V_iload dL_law_696 rfl ?_
    refine V_i2lw dL_law_698 ?_
    refine V_lcmp (z := 0) dL_law_699 lcmp_eq ?_
    refine V_if_eq (tgt := 705) dL_law_700 (by decide) (by decide) (fun _ => ?_) (fun w => absurd rfl w)
    refine V_goto (tgt := 2119) dL_law_705 (by decide) ?_
    refine V_wk (lc' := [_, _, _, _, _, _, xU, xU, xU]) ⟨Or.inr rfl, Or.inr rfl, Or.inr rfl, Or.inr rfl, Or.inr rfl, Or.inr rfl, Or.inl rfl, Or.inl rfl, Or.inl rfl, trivial⟩ ?_
    have kk := k_kind (M := M) w1
    have g1 := hD.g1
    have g2 := a.1.g1
    exact hT h ⟨_, _, A1, N + 4, U + 200, a.1, hF.dr hR1, hM, hF.ow ho1, ⟨by have := kk.1; have := g1.2.2.2.1; have := g2.2.2.2.1; (try dsimp only at *); omega, by have := kk.2; have := g1.2.2.2.2; have := g2.2.2.2.2; (try dsimp only at *); omega⟩, by omega, by omega⟩
theorem LC_9 (g : GP) {h : AH} {i c : Int} (hT : ∀ h', LW h' (c + 1) → V g m_L_law 15 Q1 h' 2119 [xR 5, xR 8, xR 18, xR 39, xR 40, xI i, xU, xU, xU] []) (W : LW h c) (hi : 0 ≤ i ∧ i + 5 ≤ g_l g) (hg : g_l g ≤ 2560) (hc : 0 ≤ c ∧ c ≤ 511) : V g m_L_law 15 Q1 h 708 [xR 5, xR 8, xR 18, xR 39, xR 40, xI i, xU, xU, xU] [] := by
  obtain ⟨D, M, A, N, U, hD, hR, hM, ho, ⟨h8, h9⟩, hN, hU⟩ := W
  have hI := hD.1.2.1
  have hIM := hD.2.1
  have hN' : N + 200 ≤ z_CC := by unfold z_CC; omega
  have hU' : U + 5000 ≤ z_CS := by unfold z_CS; omega
  have hE : ∀ k, 0 ≤ k → k < D 70 0 → iQ D (D 71 (40 * 0 + k)) := fun k a b => (hR.le (l := 0) (vL0 (by decide))).2 k a b
  have a := g_search hD
  refine V_aload_n dL_law_708 rfl ?_
  refine V_aload_n dL_law_709 rfl ?_
  refine V_cH (as := [_, _]) dL_law_710 c_RL_159 rfl (by decide) rfl (Nat.le_of_ble_eq_true rfl) (T_L_search g  ho hR.kx a.hx (T_X3_search g N U D hI hN' hU' A h hR)) (fun E h1 q => ?_) (fun v h1 q => ?_)
  · obtain ⟨-, -, z, hz, -⟩ := q
    cases hz
  obtain ⟨q1, q2, z, hz, q3⟩ := q
  cases hz
  obtain ⟨e1, e2, e3⟩ := cmpL (by decide) nd1 a q3
  subst e1
  have ho1 := q2.ow ho
  have hM1 := q2.mr hM
  obtain ⟨A1, hR1⟩ := q1
  refine V_istore (lc' := [_, _, _, _, _, _, _, _, _]) dL_law_713 (by decide) rfl ?_
  refine V_aload_n dL_law_715 rfl ?_
  refine V_mC (h0 := h1) (as := []) dL_law_716 c_RL_162 rfl (by decide) rfl (Nat.le_of_ble_eq_true rfl) hM1 FR.rf (T_X4_search g M hIM) (fun h hM hF => ?_)
  refine V_istore (lc' := [_, _, _, _, _, _, _, _, _]) dL_law_719 (by decide) rfl ?_
  refine V_aload_n dL_law_721 rfl ?_
  refine V_mC (as := []) dL_law_722 c_RL_130 rfl (by decide) rfl (Nat.le_of_ble_eq_true rfl) hM hF (T_X4_thrown g (s_search M).2) (fun h hM hF => ?_)
  refine V_iload dL_law_725 rfl ?_
  refine V_icmp_eqS (tgt := 732) dL_law_727 (by decide) ?_
  refine V_iload dL_law_732 rfl ?_
  refine V_if_ne (tgt := 749) dL_law_734 (by decide) (by omega) (fun q => ?_) (fun q => ?_)
  · refine V_goto (tgt := 2119) dL_law_749 (by decide) ?_
    refine V_wk (lc' := [_, _, _, _, _, _, xU, xU, xU]) ⟨Or.inr rfl, Or.inr rfl, Or.inr rfl, Or.inr rfl, Or.inr rfl, Or.inr rfl, Or.inl rfl, Or.inl rfl, Or.inl rfl, trivial⟩ ?_
    have kk := k_search (M := M)
    have g1 := hD.g1
    have g2 := a.1.g1
    exact hT h ⟨_, _, A1, N + 4, U + 200, a.1, hF.dr hR1, hM, hF.ow ho1, ⟨by have := kk.1; have := g1.2.2.2.1; have := g2.2.2.2.1; (try dsimp only at *); omega, by have := kk.2; have := g1.2.2.2.2; have := g2.2.2.2.2; (try dsimp only at *); omega⟩, by omega, by omega⟩
  · skip
    refine V_aload_n dL_law_737 rfl ?_
    refine V_iconst dL_law_738 ?_
    refine V_lald (j := 0) dL_law_739 (hF.ow ho1).1 rfl (by rw [(hF.ow ho1).2.1]; decide) (by rw [(hF.ow ho1).2.1]; decide) ?_
    rw [show h_i h 39 0 = _ from ((hF.1 39 (Or.inr (by decide))).2.2.1 0).trans (e3 q), Int64.ofInt_toInt]
    refine V_iload dL_law_740 rfl ?_
    refine V_i2lw dL_law_742 ?_
    refine V_lcmp (z := 0) dL_law_743 lcmp_eq ?_
    refine V_if_eq (tgt := 749) dL_law_744 (by decide) (by decide) (fun _ => ?_) (fun w => absurd rfl w)
    refine V_goto (tgt := 2119) dL_law_749 (by decide) ?_
    refine V_wk (lc' := [_, _, _, _, _, _, xU, xU, xU]) ⟨Or.inr rfl, Or.inr rfl, Or.inr rfl, Or.inr rfl, Or.inr rfl, Or.inr rfl, Or.inl rfl, Or.inl rfl, Or.inl rfl, trivial⟩ ?_
    have kk := k_search (M := M)
    have g1 := hD.g1
    have g2 := a.1.g1
    exact hT h ⟨_, _, A1, N + 4, U + 200, a.1, hF.dr hR1, hM, hF.ow ho1, ⟨by have := kk.1; have := g1.2.2.2.1; have := g2.2.2.2.1; (try dsimp only at *); omega, by have := kk.2; have := g1.2.2.2.2; have := g2.2.2.2.2; (try dsimp only at *); omega⟩, by omega, by omega⟩
theorem LC_10 (g : GP) {h : AH} {i c : Int} (hT : ∀ h', LW h' (c + 1) → V g m_L_law 15 Q1 h' 2119 [xR 5, xR 8, xR 18, xR 39, xR 40, xI i, xU, xU, xU] []) (W : LW h c) (hi : 0 ≤ i ∧ i + 5 ≤ g_l g) (hg : g_l g ≤ 2560) (hc : 0 ≤ c ∧ c ≤ 511) : V g m_L_law 15 Q1 h 752 [xR 5, xR 8, xR 18, xR 39, xR 40, xI i, xU, xU, xU] [] := by
  obtain ⟨D, M, A, N, U, hD, hR, hM, ho, ⟨h8, h9⟩, hN, hU⟩ := W
  have hI := hD.1.2.1
  have hIM := hD.2.1
  have hN' : N + 200 ≤ z_CC := by unfold z_CC; omega
  have hU' : U + 5000 ≤ z_CS := by unfold z_CS; omega
  have hE : ∀ k, 0 ≤ k → k < D 70 0 → iQ D (D 71 (40 * 0 + k)) := fun k a b => (hR.le (l := 0) (vL0 (by decide))).2 k a b
  obtain ⟨w1, ew1, r1⟩ : ∃ w : Int, w = (g_x g (i + 1).toNat).toInt ∧ -2147483648 ≤ w ∧ w ≤ 2147483647 := ⟨_, rfl, sc_r _⟩
  have a := g_hitAt hD w1 hE
  refine V_aload_n dL_law_752 rfl ?_
  refine V_aload_n dL_law_753 rfl ?_
  refine V_iload dL_law_754 rfl ?_
  refine V_iconst dL_law_756 ?_
  refine V_iadd dL_law_757 ?_
  refine V_sld (j := (i + 1).toNat) dL_law_758 (by omega) (by omega) (by omega) ?_
  rw [← ew1]
  refine V_aload_n dL_law_759 rfl ?_
  refine V_cH (as := [_, _, _]) dL_law_760 c_RL_163 rfl (by decide) rfl (Nat.le_of_ble_eq_true rfl) (T_L_hitAt g w1 ho hR.kx a.hx (T_X3_hitAt g N U D w1 r1 hI hN' hU' A h hR)) (fun E h1 q => ?_) (fun v h1 q => ?_)
  · obtain ⟨-, -, z, hz, -⟩ := q
    cases hz
  obtain ⟨q1, q2, z, hz, q3⟩ := q
  cases hz
  obtain ⟨e1, e2, e3⟩ := cmpL (by decide) nd1 a q3
  subst e1
  have ho1 := q2.ow ho
  have hM1 := q2.mr hM
  obtain ⟨A1, hR1⟩ := q1
  refine V_istore (lc' := [_, _, _, _, _, _, _, _, _]) dL_law_763 (by decide) rfl ?_
  refine V_aload_n dL_law_765 rfl ?_
  refine V_aload_n dL_law_766 rfl ?_
  refine V_iload dL_law_767 rfl ?_
  refine V_iconst dL_law_769 ?_
  refine V_iadd dL_law_770 ?_
  refine V_sld (j := (i + 1).toNat) dL_law_771 (by omega) (by omega) (by omega) ?_
  rw [← ew1]
  refine V_mC (h0 := h1) (as := [_]) dL_law_772 c_RL_165 rfl (by decide) rfl (Nat.le_of_ble_eq_true rfl) hM1 FR.rf (T_X4_hitAt g M w1 r1 hIM) (fun h hM hF => ?_)
  refine V_istore (lc' := [_, _, _, _, _, _, _, _, _]) dL_law_775 (by decide) rfl ?_
  refine V_aload_n dL_law_777 rfl ?_
  refine V_mC (as := []) dL_law_778 c_RL_130 rfl (by decide) rfl (Nat.le_of_ble_eq_true rfl) hM hF (T_X4_thrown g (s_hitAt M 6 w1).2) (fun h hM hF => ?_)
  refine V_iload dL_law_781 rfl ?_
  refine V_icmp_eqS (tgt := 788) dL_law_783 (by decide) ?_
  refine V_iload dL_law_788 rfl ?_
  refine V_if_ne (tgt := 805) dL_law_790 (by decide) (by omega) (fun q => ?_) (fun q => ?_)
  · refine V_goto (tgt := 2119) dL_law_805 (by decide) ?_
    refine V_wk (lc' := [_, _, _, _, _, _, xU, xU, xU]) ⟨Or.inr rfl, Or.inr rfl, Or.inr rfl, Or.inr rfl, Or.inr rfl, Or.inr rfl, Or.inl rfl, Or.inl rfl, Or.inl rfl, trivial⟩ ?_
    have kk := k_hitAt (M := M) 6 w1
    have g1 := hD.g1
    have g2 := a.1.g1
    exact hT h ⟨_, _, A1, N + 4, U + 200, a.1, hF.dr hR1, hM, hF.ow ho1, ⟨by have := kk.1; have := g1.2.2.2.1; have := g2.2.2.2.1; (try dsimp only at *); omega, by have := kk.2; have := g1.2.2.2.2; have := g2.2.2.2.2; (try dsimp only at *); omega⟩, by omega, by omega⟩
  · skip
    refine V_aload_n dL_law_793 rfl ?_
    refine V_iconst dL_law_794 ?_
    refine V_lald (j := 0) dL_law_795 (hF.ow ho1).1 rfl (by rw [(hF.ow ho1).2.1]; decide) (by rw [(hF.ow ho1).2.1]; decide) ?_
    rw [show h_i h 39 0 = _ from ((hF.1 39 (Or.inr (by decide))).2.2.1 0).trans (e3 q), Int64.ofInt_toInt]
    refine V_iload dL_law_796 rfl ?_
    refine V_i2lw dL_law_798 ?_
    refine V_lcmp (z := 0) dL_law_799 lcmp_eq ?_
    refine V_if_eq (tgt := 805) dL_law_800 (by decide) (by decide) (fun _ => ?_) (fun w => absurd rfl w)
    refine V_goto (tgt := 2119) dL_law_805 (by decide) ?_
    refine V_wk (lc' := [_, _, _, _, _, _, xU, xU, xU]) ⟨Or.inr rfl, Or.inr rfl, Or.inr rfl, Or.inr rfl, Or.inr rfl, Or.inr rfl, Or.inl rfl, Or.inl rfl, Or.inl rfl, trivial⟩ ?_
    have kk := k_hitAt (M := M) 6 w1
    have g1 := hD.g1
    have g2 := a.1.g1
    exact hT h ⟨_, _, A1, N + 4, U + 200, a.1, hF.dr hR1, hM, hF.ow ho1, ⟨by have := kk.1; have := g1.2.2.2.1; have := g2.2.2.2.1; (try dsimp only at *); omega, by have := kk.2; have := g1.2.2.2.2; have := g2.2.2.2.2; (try dsimp only at *); omega⟩, by omega, by omega⟩
theorem LC_11 (g : GP) {h : AH} {i c : Int} (hT : ∀ h', LW h' (c + 1) → V g m_L_law 15 Q1 h' 2119 [xR 5, xR 8, xR 18, xR 39, xR 40, xI i, xU, xU, xU] []) (W : LW h c) (hi : 0 ≤ i ∧ i + 5 ≤ g_l g) (hg : g_l g ≤ 2560) (hc : 0 ≤ c ∧ c ≤ 511) : V g m_L_law 15 Q1 h 808 [xR 5, xR 8, xR 18, xR 39, xR 40, xI i, xU, xU, xU] [] := by
  obtain ⟨D, M, A, N, U, hD, hR, hM, ho, ⟨h8, h9⟩, hN, hU⟩ := W
  have hI := hD.1.2.1
  have hIM := hD.2.1
  have hN' : N + 200 ≤ z_CC := by unfold z_CC; omega
  have hU' : U + 5000 ≤ z_CS := by unfold z_CS; omega
  have hE : ∀ k, 0 ≤ k → k < D 70 0 → iQ D (D 71 (40 * 0 + k)) := fun k a b => (hR.le (l := 0) (vL0 (by decide))).2 k a b
  obtain ⟨w1, ew1, r1⟩ : ∃ w : Int, w = (g_x g (i + 1).toNat).toInt ∧ -2147483648 ≤ w ∧ w ≤ 2147483647 := ⟨_, rfl, sc_r _⟩
  have a := g_rankAt hD w1
  refine V_aload_n dL_law_808 rfl ?_
  refine V_aload_n dL_law_809 rfl ?_
  refine V_iload dL_law_810 rfl ?_
  refine V_iconst dL_law_812 ?_
  refine V_iadd dL_law_813 ?_
  refine V_sld (j := (i + 1).toNat) dL_law_814 (by omega) (by omega) (by omega) ?_
  rw [← ew1]
  refine V_aload_n dL_law_815 rfl ?_
  refine V_cH (as := [_, _, _]) dL_law_816 c_RL_166 rfl (by decide) rfl (Nat.le_of_ble_eq_true rfl) (T_L_rankAt g w1 ho hR.kx a.hx (T_X3_rankAt g N U D w1 r1 hI hN' hU' A h hR)) (fun E h1 q => ?_) (fun v h1 q => ?_)
  · obtain ⟨-, -, z, hz, -⟩ := q
    cases hz
  obtain ⟨q1, q2, z, hz, q3⟩ := q
  cases hz
  obtain ⟨e1, e2, e3⟩ := cmpL (by decide) nd1 a q3
  subst e1
  have ho1 := q2.ow ho
  have hM1 := q2.mr hM
  obtain ⟨A1, hR1⟩ := q1
  refine V_istore (lc' := [_, _, _, _, _, _, _, _, _]) dL_law_819 (by decide) rfl ?_
  refine V_aload_n dL_law_821 rfl ?_
  refine V_aload_n dL_law_822 rfl ?_
  refine V_iload dL_law_823 rfl ?_
  refine V_iconst dL_law_825 ?_
  refine V_iadd dL_law_826 ?_
  refine V_sld (j := (i + 1).toNat) dL_law_827 (by omega) (by omega) (by omega) ?_
  rw [← ew1]
  refine V_mC (h0 := h1) (as := [_]) dL_law_828 c_RL_168 rfl (by decide) rfl (Nat.le_of_ble_eq_true rfl) hM1 FR.rf (T_X4_rankAt g M w1 r1 hIM) (fun h hM hF => ?_)
  refine V_istore (lc' := [_, _, _, _, _, _, _, _, _]) dL_law_831 (by decide) rfl ?_
  refine V_aload_n dL_law_833 rfl ?_
  refine V_mC (as := []) dL_law_834 c_RL_130 rfl (by decide) rfl (Nat.le_of_ble_eq_true rfl) hM hF (T_X4_thrown g (s_hitAt M 7 w1).2) (fun h hM hF => ?_)
  refine V_iload dL_law_837 rfl ?_
  refine V_icmp_eqS (tgt := 844) dL_law_839 (by decide) ?_
  refine V_iload dL_law_844 rfl ?_
  refine V_if_ne (tgt := 861) dL_law_846 (by decide) (by omega) (fun q => ?_) (fun q => ?_)
  · refine V_goto (tgt := 2119) dL_law_861 (by decide) ?_
    refine V_wk (lc' := [_, _, _, _, _, _, xU, xU, xU]) ⟨Or.inr rfl, Or.inr rfl, Or.inr rfl, Or.inr rfl, Or.inr rfl, Or.inr rfl, Or.inl rfl, Or.inl rfl, Or.inl rfl, trivial⟩ ?_
    have kk := k_hitAt (M := M) 7 w1
    have g1 := hD.g1
    have g2 := a.1.g1
    exact hT h ⟨_, _, A1, N + 4, U + 200, a.1, hF.dr hR1, hM, hF.ow ho1, ⟨by have := kk.1; have := g1.2.2.2.1; have := g2.2.2.2.1; (try dsimp only at *); omega, by have := kk.2; have := g1.2.2.2.2; have := g2.2.2.2.2; (try dsimp only at *); omega⟩, by omega, by omega⟩
  · skip
    refine V_aload_n dL_law_849 rfl ?_
    refine V_iconst dL_law_850 ?_
    refine V_lald (j := 0) dL_law_851 (hF.ow ho1).1 rfl (by rw [(hF.ow ho1).2.1]; decide) (by rw [(hF.ow ho1).2.1]; decide) ?_
    rw [show h_i h 39 0 = _ from ((hF.1 39 (Or.inr (by decide))).2.2.1 0).trans (e3 q), Int64.ofInt_toInt]
    refine V_iload dL_law_852 rfl ?_
    refine V_i2lw dL_law_854 ?_
    refine V_lcmp (z := 0) dL_law_855 lcmp_eq ?_
    refine V_if_eq (tgt := 861) dL_law_856 (by decide) (by decide) (fun _ => ?_) (fun w => absurd rfl w)
    refine V_goto (tgt := 2119) dL_law_861 (by decide) ?_
    refine V_wk (lc' := [_, _, _, _, _, _, xU, xU, xU]) ⟨Or.inr rfl, Or.inr rfl, Or.inr rfl, Or.inr rfl, Or.inr rfl, Or.inr rfl, Or.inl rfl, Or.inl rfl, Or.inl rfl, trivial⟩ ?_
    have kk := k_hitAt (M := M) 7 w1
    have g1 := hD.g1
    have g2 := a.1.g1
    exact hT h ⟨_, _, A1, N + 4, U + 200, a.1, hF.dr hR1, hM, hF.ow ho1, ⟨by have := kk.1; have := g1.2.2.2.1; have := g2.2.2.2.1; (try dsimp only at *); omega, by have := kk.2; have := g1.2.2.2.2; have := g2.2.2.2.2; (try dsimp only at *); omega⟩, by omega, by omega⟩
theorem LC_13 (g : GP) {h : AH} {i c : Int} (hT : ∀ h', LW h' (c + 1) → V g m_L_law 15 Q1 h' 2119 [xR 5, xR 8, xR 18, xR 39, xR 40, xI i, xU, xU, xU] []) (W : LW h c) (hi : 0 ≤ i ∧ i + 5 ≤ g_l g) (hg : g_l g ≤ 2560) (hc : 0 ≤ c ∧ c ≤ 511) : V g m_L_law 15 Q1 h 877 [xR 5, xR 8, xR 18, xR 39, xR 40, xI i, xU, xU, xU] [] := by
  obtain ⟨D, M, A, N, U, hD, hR, hM, ho, ⟨h8, h9⟩, hN, hU⟩ := W
  have hI := hD.1.2.1
  have hIM := hD.2.1
  have hN' : N + 200 ≤ z_CC := by unfold z_CC; omega
  have hU' : U + 5000 ≤ z_CS := by unfold z_CS; omega
  have hE : ∀ k, 0 ≤ k → k < D 70 0 → iQ D (D 71 (40 * 0 + k)) := fun k a b => (hR.le (l := 0) (vL0 (by decide))).2 k a b
  have a := g_nextWeek hD
  refine V_aload_n dL_law_877 rfl ?_
  refine V_aload_n dL_law_878 rfl ?_
  refine V_cH (as := [_, _]) dL_law_879 c_RL_173 rfl (by decide) rfl (Nat.le_of_ble_eq_true rfl) (T_L_nextWeek g  ho hR.kx a.hx (T_X3_nextWeek g N U D hI hN' hU' A h hR)) (fun E h1 q => ?_) (fun v h1 q => ?_)
  · obtain ⟨-, -, z, hz, -⟩ := q
    cases hz
  obtain ⟨q1, q2, z, hz, q3⟩ := q
  cases hz
  obtain ⟨e1, e2, e3⟩ := cmpL (by decide) nd1 a q3
  subst e1
  have ho1 := q2.ow ho
  have hM1 := q2.mr hM
  obtain ⟨A1, hR1⟩ := q1
  refine V_istore (lc' := [_, _, _, _, _, _, _, _, _]) dL_law_882 (by decide) rfl ?_
  refine V_aload_n dL_law_884 rfl ?_
  refine V_mC (h0 := h1) (as := []) dL_law_885 c_RL_175 rfl (by decide) rfl (Nat.le_of_ble_eq_true rfl) hM1 FR.rf (T_X4_nextWeek g M hIM) (fun h hM hF => ?_)
  refine V_istore (lc' := [_, _, _, _, _, _, _, _, _]) dL_law_888 (by decide) rfl ?_
  refine V_aload_n dL_law_890 rfl ?_
  refine V_mC (as := []) dL_law_891 c_RL_130 rfl (by decide) rfl (Nat.le_of_ble_eq_true rfl) hM hF (T_X4_thrown g (s_nextWeek M).2) (fun h hM hF => ?_)
  refine V_iload dL_law_894 rfl ?_
  refine V_icmp_eqS (tgt := 901) dL_law_896 (by decide) ?_
  refine V_iload dL_law_901 rfl ?_
  refine V_if_ne (tgt := 918) dL_law_903 (by decide) (by omega) (fun q => ?_) (fun q => ?_)
  · refine V_goto (tgt := 2119) dL_law_918 (by decide) ?_
    refine V_wk (lc' := [_, _, _, _, _, _, xU, xU, xU]) ⟨Or.inr rfl, Or.inr rfl, Or.inr rfl, Or.inr rfl, Or.inr rfl, Or.inr rfl, Or.inl rfl, Or.inl rfl, Or.inl rfl, trivial⟩ ?_
    have kk := k_nextWeek (M := M)
    have g1 := hD.g1
    have g2 := a.1.g1
    exact hT h ⟨_, _, A1, N + 4, U + 200, a.1, hF.dr hR1, hM, hF.ow ho1, ⟨by have := kk.1; have := g1.2.2.2.1; have := g2.2.2.2.1; (try dsimp only at *); omega, by have := kk.2; have := g1.2.2.2.2; have := g2.2.2.2.2; (try dsimp only at *); omega⟩, by omega, by omega⟩
  · skip
    refine V_aload_n dL_law_906 rfl ?_
    refine V_iconst dL_law_907 ?_
    refine V_lald (j := 0) dL_law_908 (hF.ow ho1).1 rfl (by rw [(hF.ow ho1).2.1]; decide) (by rw [(hF.ow ho1).2.1]; decide) ?_
    rw [show h_i h 39 0 = _ from ((hF.1 39 (Or.inr (by decide))).2.2.1 0).trans (e3 q), Int64.ofInt_toInt]
    refine V_iload dL_law_909 rfl ?_
    refine V_i2lw dL_law_911 ?_
    refine V_lcmp (z := 0) dL_law_912 lcmp_eq ?_
    refine V_if_eq (tgt := 918) dL_law_913 (by decide) (by decide) (fun _ => ?_) (fun w => absurd rfl w)
    refine V_goto (tgt := 2119) dL_law_918 (by decide) ?_
    refine V_wk (lc' := [_, _, _, _, _, _, xU, xU, xU]) ⟨Or.inr rfl, Or.inr rfl, Or.inr rfl, Or.inr rfl, Or.inr rfl, Or.inr rfl, Or.inl rfl, Or.inl rfl, Or.inl rfl, trivial⟩ ?_
    have kk := k_nextWeek (M := M)
    have g1 := hD.g1
    have g2 := a.1.g1
    exact hT h ⟨_, _, A1, N + 4, U + 200, a.1, hF.dr hR1, hM, hF.ow ho1, ⟨by have := kk.1; have := g1.2.2.2.1; have := g2.2.2.2.1; (try dsimp only at *); omega, by have := kk.2; have := g1.2.2.2.2; have := g2.2.2.2.2; (try dsimp only at *); omega⟩, by omega, by omega⟩
theorem LC_14 (g : GP) {h : AH} {i c : Int} (hT : ∀ h', LW h' (c + 1) → V g m_L_law 15 Q1 h' 2119 [xR 5, xR 8, xR 18, xR 39, xR 40, xI i, xU, xU, xU] []) (W : LW h c) (hi : 0 ≤ i ∧ i + 5 ≤ g_l g) (hg : g_l g ≤ 2560) (hc : 0 ≤ c ∧ c ≤ 511) : V g m_L_law 15 Q1 h 921 [xR 5, xR 8, xR 18, xR 39, xR 40, xI i, xU, xU, xU] [] := by
  obtain ⟨D, M, A, N, U, hD, hR, hM, ho, ⟨h8, h9⟩, hN, hU⟩ := W
  have hI := hD.1.2.1
  have hIM := hD.2.1
  have hN' : N + 200 ≤ z_CC := by unfold z_CC; omega
  have hU' : U + 5000 ≤ z_CS := by unfold z_CS; omega
  have hE : ∀ k, 0 ≤ k → k < D 70 0 → iQ D (D 71 (40 * 0 + k)) := fun k a b => (hR.le (l := 0) (vL0 (by decide))).2 k a b
  obtain ⟨w1, ew1, r1⟩ : ∃ w : Int, w = (g_x g (i + 1).toNat).toInt ∧ -2147483648 ≤ w ∧ w ≤ 2147483647 := ⟨_, rfl, sc_r _⟩
  obtain ⟨w2, ew2, r2⟩ : ∃ w : Int, w = (g_x g (i + 2).toNat).toInt ∧ -2147483648 ≤ w ∧ w ≤ 2147483647 := ⟨_, rfl, sc_r _⟩
  obtain ⟨w3, ew3, r3⟩ : ∃ w : Int, w = (g_x g (i + 3).toNat).toInt ∧ -2147483648 ≤ w ∧ w ≤ 2147483647 := ⟨_, rfl, sc_r _⟩
  obtain ⟨kd, hkd, ekd⟩ := i2c_ex w2
  have rkd : -2147483648 ≤ kd ∧ kd ≤ 2147483647 := by omega
  have a := g_plan hD w1 kd w3 hkd
  refine V_aload_n dL_law_921 rfl ?_
  refine V_aload_n dL_law_922 rfl ?_
  refine V_iload dL_law_923 rfl ?_
  refine V_iconst dL_law_925 ?_
  refine V_iadd dL_law_926 ?_
  refine V_sld (j := (i + 1).toNat) dL_law_927 (by omega) (by omega) (by omega) ?_
  rw [← ew1]
  refine V_aload_n dL_law_928 rfl ?_
  refine V_iload dL_law_929 rfl ?_
  refine V_iconst dL_law_931 ?_
  refine V_iadd dL_law_932 ?_
  refine V_sld (j := (i + 2).toNat) dL_law_933 (by omega) (by omega) (by omega) ?_
  rw [← ew2]
  refine V_i2c (z := kd) dL_law_934 ekd ?_
  refine V_aload_n dL_law_935 rfl ?_
  refine V_iload dL_law_936 rfl ?_
  refine V_iconst dL_law_938 ?_
  refine V_iadd dL_law_939 ?_
  refine V_sld (j := (i + 3).toNat) dL_law_940 (by omega) (by omega) (by omega) ?_
  rw [← ew3]
  refine V_aload_n dL_law_941 rfl ?_
  refine V_cH (as := [_, _, _, _, _]) dL_law_942 c_RL_176 rfl (by decide) rfl (Nat.le_of_ble_eq_true rfl) (T_L_plan g w1 kd w3 ho hR.kx a.hx (T_X3_plan g N U D w1 kd w3 r1 rkd r3 hI hkd hN' hU' A h hR)) (fun E h1 q => ?_) (fun v h1 q => ?_)
  · obtain ⟨-, -, z, hz, -⟩ := q
    cases hz
  obtain ⟨q1, q2, z, hz, q3⟩ := q
  cases hz
  obtain ⟨e1, e2, e3⟩ := cmpL (by decide) (nd2 (by decide)) a q3
  subst e1
  have ho1 := q2.ow ho
  have hM1 := q2.mr hM
  obtain ⟨A1, hR1⟩ := q1
  refine V_istore (lc' := [_, _, _, _, _, _, _, _, _]) dL_law_945 (by decide) rfl ?_
  refine V_aload_n dL_law_947 rfl ?_
  refine V_aload_n dL_law_948 rfl ?_
  refine V_iload dL_law_949 rfl ?_
  refine V_iconst dL_law_951 ?_
  refine V_iadd dL_law_952 ?_
  refine V_sld (j := (i + 1).toNat) dL_law_953 (by omega) (by omega) (by omega) ?_
  rw [← ew1]
  refine V_aload_n dL_law_954 rfl ?_
  refine V_iload dL_law_955 rfl ?_
  refine V_iconst dL_law_957 ?_
  refine V_iadd dL_law_958 ?_
  refine V_sld (j := (i + 2).toNat) dL_law_959 (by omega) (by omega) (by omega) ?_
  rw [← ew2]
  refine V_i2c (z := kd) dL_law_960 ekd ?_
  refine V_aload_n dL_law_961 rfl ?_
  refine V_iload dL_law_962 rfl ?_
  refine V_iconst dL_law_964 ?_
  refine V_iadd dL_law_965 ?_
  refine V_sld (j := (i + 3).toNat) dL_law_966 (by omega) (by omega) (by omega) ?_
  rw [← ew3]
  refine V_mC (h0 := h1) (as := [_, _, _]) dL_law_967 c_RL_179 rfl (by decide) rfl (Nat.le_of_ble_eq_true rfl) hM1 FR.rf (T_X4_plan g M w1 kd w3 r1 rkd r3 hIM hkd) (fun h hM hF => ?_)
  refine V_istore (lc' := [_, _, _, _, _, _, _, _, _]) dL_law_970 (by decide) rfl ?_
  refine V_aload_n dL_law_972 rfl ?_
  refine V_mC (as := []) dL_law_973 c_RL_130 rfl (by decide) rfl (Nat.le_of_ble_eq_true rfl) hM hF (T_X4_thrown g (s_plan M w1 kd w3).2) (fun h hM hF => ?_)
  refine V_iload dL_law_976 rfl ?_
  refine V_icmp_eqS (tgt := 983) dL_law_978 (by decide) ?_
  refine V_iload dL_law_983 rfl ?_
  refine V_if_ne (tgt := 1000) dL_law_985 (by decide) (by omega) (fun q => ?_) (fun q => ?_)
  · refine V_goto (tgt := 2119) dL_law_1000 (by decide) ?_
    refine V_wk (lc' := [_, _, _, _, _, _, xU, xU, xU]) ⟨Or.inr rfl, Or.inr rfl, Or.inr rfl, Or.inr rfl, Or.inr rfl, Or.inr rfl, Or.inl rfl, Or.inl rfl, Or.inl rfl, trivial⟩ ?_
    have kk := k_plan (M := M) w1 kd w3
    have g1 := hD.g1
    have g2 := a.1.g1
    exact hT h ⟨_, _, A1, N + 4, U + 200, a.1, hF.dr hR1, hM, hF.ow ho1, ⟨by have := kk.1; have := g1.2.2.2.1; have := g2.2.2.2.1; (try dsimp only at *); omega, by have := kk.2; have := g1.2.2.2.2; have := g2.2.2.2.2; (try dsimp only at *); omega⟩, by omega, by omega⟩
  · skip
    refine V_aload_n dL_law_988 rfl ?_
    refine V_iconst dL_law_989 ?_
    refine V_lald (j := 0) dL_law_990 (hF.ow ho1).1 rfl (by rw [(hF.ow ho1).2.1]; decide) (by rw [(hF.ow ho1).2.1]; decide) ?_
    rw [show h_i h 39 0 = _ from ((hF.1 39 (Or.inr (by decide))).2.2.1 0).trans (e3 q), Int64.ofInt_toInt]
    refine V_iload dL_law_991 rfl ?_
    refine V_i2lw dL_law_993 ?_
    refine V_lcmp (z := 0) dL_law_994 lcmp_eq ?_
    refine V_if_eq (tgt := 1000) dL_law_995 (by decide) (by decide) (fun _ => ?_) (fun w => absurd rfl w)
    refine V_goto (tgt := 2119) dL_law_1000 (by decide) ?_
    refine V_wk (lc' := [_, _, _, _, _, _, xU, xU, xU]) ⟨Or.inr rfl, Or.inr rfl, Or.inr rfl, Or.inr rfl, Or.inr rfl, Or.inr rfl, Or.inl rfl, Or.inl rfl, Or.inl rfl, trivial⟩ ?_
    have kk := k_plan (M := M) w1 kd w3
    have g1 := hD.g1
    have g2 := a.1.g1
    exact hT h ⟨_, _, A1, N + 4, U + 200, a.1, hF.dr hR1, hM, hF.ow ho1, ⟨by have := kk.1; have := g1.2.2.2.1; have := g2.2.2.2.1; (try dsimp only at *); omega, by have := kk.2; have := g1.2.2.2.2; have := g2.2.2.2.2; (try dsimp only at *); omega⟩, by omega, by omega⟩
theorem LC_15 (g : GP) {h : AH} {i c : Int} (hT : ∀ h', LW h' (c + 1) → V g m_L_law 15 Q1 h' 2119 [xR 5, xR 8, xR 18, xR 39, xR 40, xI i, xU, xU, xU] []) (W : LW h c) (hi : 0 ≤ i ∧ i + 5 ≤ g_l g) (hg : g_l g ≤ 2560) (hc : 0 ≤ c ∧ c ≤ 511) : V g m_L_law 15 Q1 h 1003 [xR 5, xR 8, xR 18, xR 39, xR 40, xI i, xU, xU, xU] [] := by
  obtain ⟨D, M, A, N, U, hD, hR, hM, ho, ⟨h8, h9⟩, hN, hU⟩ := W
  have hI := hD.1.2.1
  have hIM := hD.2.1
  have hN' : N + 200 ≤ z_CC := by unfold z_CC; omega
  have hU' : U + 5000 ≤ z_CS := by unfold z_CS; omega
  have hE : ∀ k, 0 ≤ k → k < D 70 0 → iQ D (D 71 (40 * 0 + k)) := fun k a b => (hR.le (l := 0) (vL0 (by decide))).2 k a b
  obtain ⟨w1, ew1, r1⟩ : ∃ w : Int, w = (g_x g (i + 1).toNat).toInt ∧ -2147483648 ≤ w ∧ w ≤ 2147483647 := ⟨_, rfl, sc_r _⟩
  have a := g_drop hD w1
  refine V_aload_n dL_law_1003 rfl ?_
  refine V_aload_n dL_law_1004 rfl ?_
  refine V_iload dL_law_1005 rfl ?_
  refine V_iconst dL_law_1007 ?_
  refine V_iadd dL_law_1008 ?_
  refine V_sld (j := (i + 1).toNat) dL_law_1009 (by omega) (by omega) (by omega) ?_
  rw [← ew1]
  refine V_aload_n dL_law_1010 rfl ?_
  refine V_cH (as := [_, _, _]) dL_law_1011 c_RL_180 rfl (by decide) rfl (Nat.le_of_ble_eq_true rfl) (T_L_drop g w1 ho hR.kx a.hx (T_X3_drop g N U D w1 r1 hI hN' hU' A h hR)) (fun E h1 q => ?_) (fun v h1 q => ?_)
  · obtain ⟨-, -, z, hz, -⟩ := q
    cases hz
  obtain ⟨q1, q2, z, hz, q3⟩ := q
  cases hz
  obtain ⟨e1, e2, e3⟩ := cmpL (by decide) (nd2 (by decide)) a q3
  subst e1
  have ho1 := q2.ow ho
  have hM1 := q2.mr hM
  obtain ⟨A1, hR1⟩ := q1
  refine V_istore (lc' := [_, _, _, _, _, _, _, _, _]) dL_law_1014 (by decide) rfl ?_
  refine V_aload_n dL_law_1016 rfl ?_
  refine V_aload_n dL_law_1017 rfl ?_
  refine V_iload dL_law_1018 rfl ?_
  refine V_iconst dL_law_1020 ?_
  refine V_iadd dL_law_1021 ?_
  refine V_sld (j := (i + 1).toNat) dL_law_1022 (by omega) (by omega) (by omega) ?_
  rw [← ew1]
  refine V_mC (h0 := h1) (as := [_]) dL_law_1023 c_RL_182 rfl (by decide) rfl (Nat.le_of_ble_eq_true rfl) hM1 FR.rf (T_X4_drop g M w1 r1 hIM) (fun h hM hF => ?_)
  refine V_istore (lc' := [_, _, _, _, _, _, _, _, _]) dL_law_1026 (by decide) rfl ?_
  refine V_aload_n dL_law_1028 rfl ?_
  refine V_mC (as := []) dL_law_1029 c_RL_130 rfl (by decide) rfl (Nat.le_of_ble_eq_true rfl) hM hF (T_X4_thrown g (s_drop M w1).2) (fun h hM hF => ?_)
  refine V_iload dL_law_1032 rfl ?_
  refine V_icmp_eqS (tgt := 1039) dL_law_1034 (by decide) ?_
  refine V_iload dL_law_1039 rfl ?_
  refine V_if_ne (tgt := 1056) dL_law_1041 (by decide) (by omega) (fun q => ?_) (fun q => ?_)
  · refine V_goto (tgt := 2119) dL_law_1056 (by decide) ?_
    refine V_wk (lc' := [_, _, _, _, _, _, xU, xU, xU]) ⟨Or.inr rfl, Or.inr rfl, Or.inr rfl, Or.inr rfl, Or.inr rfl, Or.inr rfl, Or.inl rfl, Or.inl rfl, Or.inl rfl, trivial⟩ ?_
    have kk := k_drop (M := M) w1
    have g1 := hD.g1
    have g2 := a.1.g1
    exact hT h ⟨_, _, A1, N + 4, U + 200, a.1, hF.dr hR1, hM, hF.ow ho1, ⟨by have := kk.1; have := g1.2.2.2.1; have := g2.2.2.2.1; (try dsimp only at *); omega, by have := kk.2; have := g1.2.2.2.2; have := g2.2.2.2.2; (try dsimp only at *); omega⟩, by omega, by omega⟩
  · skip
    refine V_aload_n dL_law_1044 rfl ?_
    refine V_iconst dL_law_1045 ?_
    refine V_lald (j := 0) dL_law_1046 (hF.ow ho1).1 rfl (by rw [(hF.ow ho1).2.1]; decide) (by rw [(hF.ow ho1).2.1]; decide) ?_
    rw [show h_i h 39 0 = _ from ((hF.1 39 (Or.inr (by decide))).2.2.1 0).trans (e3 q), Int64.ofInt_toInt]
    refine V_iload dL_law_1047 rfl ?_
    refine V_i2lw dL_law_1049 ?_
    refine V_lcmp (z := 0) dL_law_1050 lcmp_eq ?_
    refine V_if_eq (tgt := 1056) dL_law_1051 (by decide) (by decide) (fun _ => ?_) (fun w => absurd rfl w)
    refine V_goto (tgt := 2119) dL_law_1056 (by decide) ?_
    refine V_wk (lc' := [_, _, _, _, _, _, xU, xU, xU]) ⟨Or.inr rfl, Or.inr rfl, Or.inr rfl, Or.inr rfl, Or.inr rfl, Or.inr rfl, Or.inl rfl, Or.inl rfl, Or.inl rfl, trivial⟩ ?_
    have kk := k_drop (M := M) w1
    have g1 := hD.g1
    have g2 := a.1.g1
    exact hT h ⟨_, _, A1, N + 4, U + 200, a.1, hF.dr hR1, hM, hF.ow ho1, ⟨by have := kk.1; have := g1.2.2.2.1; have := g2.2.2.2.1; (try dsimp only at *); omega, by have := kk.2; have := g1.2.2.2.2; have := g2.2.2.2.2; (try dsimp only at *); omega⟩, by omega, by omega⟩
theorem LC_16 (g : GP) {h : AH} {i c : Int} (hT : ∀ h', LW h' (c + 1) → V g m_L_law 15 Q1 h' 2119 [xR 5, xR 8, xR 18, xR 39, xR 40, xI i, xU, xU, xU] []) (W : LW h c) (hi : 0 ≤ i ∧ i + 5 ≤ g_l g) (hg : g_l g ≤ 2560) (hc : 0 ≤ c ∧ c ≤ 511) : V g m_L_law 15 Q1 h 1059 [xR 5, xR 8, xR 18, xR 39, xR 40, xI i, xU, xU, xU] [] := by
  obtain ⟨D, M, A, N, U, hD, hR, hM, ho, ⟨h8, h9⟩, hN, hU⟩ := W
  have hI := hD.1.2.1
  have hIM := hD.2.1
  have hN' : N + 200 ≤ z_CC := by unfold z_CC; omega
  have hU' : U + 5000 ≤ z_CS := by unfold z_CS; omega
  have hE : ∀ k, 0 ≤ k → k < D 70 0 → iQ D (D 71 (40 * 0 + k)) := fun k a b => (hR.le (l := 0) (vL0 (by decide))).2 k a b
  obtain ⟨w1, ew1, r1⟩ : ∃ w : Int, w = (g_x g (i + 1).toNat).toInt ∧ -2147483648 ≤ w ∧ w ≤ 2147483647 := ⟨_, rfl, sc_r _⟩
  have a := g_held hD w1
  refine V_aload_n dL_law_1059 rfl ?_
  refine V_aload_n dL_law_1060 rfl ?_
  refine V_iload dL_law_1061 rfl ?_
  refine V_iconst dL_law_1063 ?_
  refine V_iadd dL_law_1064 ?_
  refine V_sld (j := (i + 1).toNat) dL_law_1065 (by omega) (by omega) (by omega) ?_
  rw [← ew1]
  refine V_aload_n dL_law_1066 rfl ?_
  refine V_cH (as := [_, _, _]) dL_law_1067 c_RL_183 rfl (by decide) rfl (Nat.le_of_ble_eq_true rfl) (T_L_held g w1 ho hR.kx a.hx (T_X3_held g N U D w1 r1 hI hN' hU' A h hR)) (fun E h1 q => ?_) (fun v h1 q => ?_)
  · obtain ⟨-, -, z, hz, -⟩ := q
    cases hz
  obtain ⟨q1, q2, z, hz, q3⟩ := q
  cases hz
  obtain ⟨e1, e2, e3⟩ := cmpL (by decide) nd1 a q3
  subst e1
  have ho1 := q2.ow ho
  have hM1 := q2.mr hM
  obtain ⟨A1, hR1⟩ := q1
  refine V_istore (lc' := [_, _, _, _, _, _, _, _, _]) dL_law_1070 (by decide) rfl ?_
  refine V_aload_n dL_law_1072 rfl ?_
  refine V_aload_n dL_law_1073 rfl ?_
  refine V_iload dL_law_1074 rfl ?_
  refine V_iconst dL_law_1076 ?_
  refine V_iadd dL_law_1077 ?_
  refine V_sld (j := (i + 1).toNat) dL_law_1078 (by omega) (by omega) (by omega) ?_
  rw [← ew1]
  refine V_mC (h0 := h1) (as := [_]) dL_law_1079 c_RL_185 rfl (by decide) rfl (Nat.le_of_ble_eq_true rfl) hM1 FR.rf (T_X4_held g M w1 r1 hIM) (fun h hM hF => ?_)
  refine V_istore (lc' := [_, _, _, _, _, _, _, _, _]) dL_law_1082 (by decide) rfl ?_
  refine V_aload_n dL_law_1084 rfl ?_
  refine V_mC (as := []) dL_law_1085 c_RL_130 rfl (by decide) rfl (Nat.le_of_ble_eq_true rfl) hM hF (T_X4_thrown g (s_held M w1).2) (fun h hM hF => ?_)
  refine V_iload dL_law_1088 rfl ?_
  refine V_icmp_eqS (tgt := 1095) dL_law_1090 (by decide) ?_
  refine V_iload dL_law_1095 rfl ?_
  refine V_if_ne (tgt := 1112) dL_law_1097 (by decide) (by omega) (fun q => ?_) (fun q => ?_)
  · refine V_goto (tgt := 2119) dL_law_1112 (by decide) ?_
    refine V_wk (lc' := [_, _, _, _, _, _, xU, xU, xU]) ⟨Or.inr rfl, Or.inr rfl, Or.inr rfl, Or.inr rfl, Or.inr rfl, Or.inr rfl, Or.inl rfl, Or.inl rfl, Or.inl rfl, trivial⟩ ?_
    have kk := k_held (M := M) w1
    have g1 := hD.g1
    have g2 := a.1.g1
    exact hT h ⟨_, _, A1, N + 4, U + 200, a.1, hF.dr hR1, hM, hF.ow ho1, ⟨by have := kk.1; have := g1.2.2.2.1; have := g2.2.2.2.1; (try dsimp only at *); omega, by have := kk.2; have := g1.2.2.2.2; have := g2.2.2.2.2; (try dsimp only at *); omega⟩, by omega, by omega⟩
  · skip
    refine V_aload_n dL_law_1100 rfl ?_
    refine V_iconst dL_law_1101 ?_
    refine V_lald (j := 0) dL_law_1102 (hF.ow ho1).1 rfl (by rw [(hF.ow ho1).2.1]; decide) (by rw [(hF.ow ho1).2.1]; decide) ?_
    rw [show h_i h 39 0 = _ from ((hF.1 39 (Or.inr (by decide))).2.2.1 0).trans (e3 q), Int64.ofInt_toInt]
    refine V_iload dL_law_1103 rfl ?_
    refine V_i2lw dL_law_1105 ?_
    refine V_lcmp (z := 0) dL_law_1106 lcmp_eq ?_
    refine V_if_eq (tgt := 1112) dL_law_1107 (by decide) (by decide) (fun _ => ?_) (fun w => absurd rfl w)
    refine V_goto (tgt := 2119) dL_law_1112 (by decide) ?_
    refine V_wk (lc' := [_, _, _, _, _, _, xU, xU, xU]) ⟨Or.inr rfl, Or.inr rfl, Or.inr rfl, Or.inr rfl, Or.inr rfl, Or.inr rfl, Or.inl rfl, Or.inl rfl, Or.inl rfl, trivial⟩ ?_
    have kk := k_held (M := M) w1
    have g1 := hD.g1
    have g2 := a.1.g1
    exact hT h ⟨_, _, A1, N + 4, U + 200, a.1, hF.dr hR1, hM, hF.ow ho1, ⟨by have := kk.1; have := g1.2.2.2.1; have := g2.2.2.2.1; (try dsimp only at *); omega, by have := kk.2; have := g1.2.2.2.2; have := g2.2.2.2.2; (try dsimp only at *); omega⟩, by omega, by omega⟩
theorem LC_17 (g : GP) {h : AH} {i c : Int} (hT : ∀ h', LW h' (c + 1) → V g m_L_law 15 Q1 h' 2119 [xR 5, xR 8, xR 18, xR 39, xR 40, xI i, xU, xU, xU] []) (W : LW h c) (hi : 0 ≤ i ∧ i + 5 ≤ g_l g) (hg : g_l g ≤ 2560) (hc : 0 ≤ c ∧ c ≤ 511) : V g m_L_law 15 Q1 h 1115 [xR 5, xR 8, xR 18, xR 39, xR 40, xI i, xU, xU, xU] [] := by
  obtain ⟨D, M, A, N, U, hD, hR, hM, ho, ⟨h8, h9⟩, hN, hU⟩ := W
  have hI := hD.1.2.1
  have hIM := hD.2.1
  have hN' : N + 200 ≤ z_CC := by unfold z_CC; omega
  have hU' : U + 5000 ≤ z_CS := by unfold z_CS; omega
  have hE : ∀ k, 0 ≤ k → k < D 70 0 → iQ D (D 71 (40 * 0 + k)) := fun k a b => (hR.le (l := 0) (vL0 (by decide))).2 k a b
  obtain ⟨w1, ew1, r1⟩ : ∃ w : Int, w = (g_x g (i + 1).toNat).toInt ∧ -2147483648 ≤ w ∧ w ≤ 2147483647 := ⟨_, rfl, sc_r _⟩
  obtain ⟨w2, ew2, r2⟩ : ∃ w : Int, w = (g_x g (i + 2).toNat).toInt ∧ -2147483648 ≤ w ∧ w ≤ 2147483647 := ⟨_, rfl, sc_r _⟩
  have a := g_heldAt hD w1 w2
  refine V_aload_n dL_law_1115 rfl ?_
  refine V_aload_n dL_law_1116 rfl ?_
  refine V_iload dL_law_1117 rfl ?_
  refine V_iconst dL_law_1119 ?_
  refine V_iadd dL_law_1120 ?_
  refine V_sld (j := (i + 1).toNat) dL_law_1121 (by omega) (by omega) (by omega) ?_
  rw [← ew1]
  refine V_aload_n dL_law_1122 rfl ?_
  refine V_iload dL_law_1123 rfl ?_
  refine V_iconst dL_law_1125 ?_
  refine V_iadd dL_law_1126 ?_
  refine V_sld (j := (i + 2).toNat) dL_law_1127 (by omega) (by omega) (by omega) ?_
  rw [← ew2]
  refine V_aload_n dL_law_1128 rfl ?_
  refine V_cH (as := [_, _, _, _]) dL_law_1129 c_RL_186 rfl (by decide) rfl (Nat.le_of_ble_eq_true rfl) (T_L_heldAt g w1 w2 ho hR.kx a.hx (T_X3_heldAt g N U D w1 w2 r1 r2 hI hN' hU' A h hR)) (fun E h1 q => ?_) (fun v h1 q => ?_)
  · obtain ⟨-, -, z, hz, -⟩ := q
    cases hz
  obtain ⟨q1, q2, z, hz, q3⟩ := q
  cases hz
  obtain ⟨e1, e2, e3⟩ := cmpL (by decide) (nd2 (by decide)) a q3
  subst e1
  have ho1 := q2.ow ho
  have hM1 := q2.mr hM
  obtain ⟨A1, hR1⟩ := q1
  refine V_istore (lc' := [_, _, _, _, _, _, _, _, _]) dL_law_1132 (by decide) rfl ?_
  refine V_aload_n dL_law_1134 rfl ?_
  refine V_aload_n dL_law_1135 rfl ?_
  refine V_iload dL_law_1136 rfl ?_
  refine V_iconst dL_law_1138 ?_
  refine V_iadd dL_law_1139 ?_
  refine V_sld (j := (i + 1).toNat) dL_law_1140 (by omega) (by omega) (by omega) ?_
  rw [← ew1]
  refine V_aload_n dL_law_1141 rfl ?_
  refine V_iload dL_law_1142 rfl ?_
  refine V_iconst dL_law_1144 ?_
  refine V_iadd dL_law_1145 ?_
  refine V_sld (j := (i + 2).toNat) dL_law_1146 (by omega) (by omega) (by omega) ?_
  rw [← ew2]
  refine V_mC (h0 := h1) (as := [_, _]) dL_law_1147 c_RL_188 rfl (by decide) rfl (Nat.le_of_ble_eq_true rfl) hM1 FR.rf (T_X4_heldAt g M w1 w2 r1 r2 hIM) (fun h hM hF => ?_)
  refine V_istore (lc' := [_, _, _, _, _, _, _, _, _]) dL_law_1150 (by decide) rfl ?_
  refine V_aload_n dL_law_1152 rfl ?_
  refine V_mC (as := []) dL_law_1153 c_RL_130 rfl (by decide) rfl (Nat.le_of_ble_eq_true rfl) hM hF (T_X4_thrown g (s_heldAt M w1 w2).2) (fun h hM hF => ?_)
  refine V_iload dL_law_1156 rfl ?_
  refine V_icmp_eqS (tgt := 1163) dL_law_1158 (by decide) ?_
  refine V_iload dL_law_1163 rfl ?_
  refine V_if_ne (tgt := 1180) dL_law_1165 (by decide) (by omega) (fun q => ?_) (fun q => ?_)
  · refine V_goto (tgt := 2119) dL_law_1180 (by decide) ?_
    refine V_wk (lc' := [_, _, _, _, _, _, xU, xU, xU]) ⟨Or.inr rfl, Or.inr rfl, Or.inr rfl, Or.inr rfl, Or.inr rfl, Or.inr rfl, Or.inl rfl, Or.inl rfl, Or.inl rfl, trivial⟩ ?_
    have kk := k_heldAt (M := M) w1 w2
    have g1 := hD.g1
    have g2 := a.1.g1
    exact hT h ⟨_, _, A1, N + 4, U + 200, a.1, hF.dr hR1, hM, hF.ow ho1, ⟨by have := kk.1; have := g1.2.2.2.1; have := g2.2.2.2.1; (try dsimp only at *); omega, by have := kk.2; have := g1.2.2.2.2; have := g2.2.2.2.2; (try dsimp only at *); omega⟩, by omega, by omega⟩
  · skip
    refine V_aload_n dL_law_1168 rfl ?_
    refine V_iconst dL_law_1169 ?_
    refine V_lald (j := 0) dL_law_1170 (hF.ow ho1).1 rfl (by rw [(hF.ow ho1).2.1]; decide) (by rw [(hF.ow ho1).2.1]; decide) ?_
    rw [show h_i h 39 0 = _ from ((hF.1 39 (Or.inr (by decide))).2.2.1 0).trans (e3 q), Int64.ofInt_toInt]
    refine V_iload dL_law_1171 rfl ?_
    refine V_i2lw dL_law_1173 ?_
    refine V_lcmp (z := 0) dL_law_1174 lcmp_eq ?_
    refine V_if_eq (tgt := 1180) dL_law_1175 (by decide) (by decide) (fun _ => ?_) (fun w => absurd rfl w)
    refine V_goto (tgt := 2119) dL_law_1180 (by decide) ?_
    refine V_wk (lc' := [_, _, _, _, _, _, xU, xU, xU]) ⟨Or.inr rfl, Or.inr rfl, Or.inr rfl, Or.inr rfl, Or.inr rfl, Or.inr rfl, Or.inl rfl, Or.inl rfl, Or.inl rfl, trivial⟩ ?_
    have kk := k_heldAt (M := M) w1 w2
    have g1 := hD.g1
    have g2 := a.1.g1
    exact hT h ⟨_, _, A1, N + 4, U + 200, a.1, hF.dr hR1, hM, hF.ow ho1, ⟨by have := kk.1; have := g1.2.2.2.1; have := g2.2.2.2.1; (try dsimp only at *); omega, by have := kk.2; have := g1.2.2.2.2; have := g2.2.2.2.2; (try dsimp only at *); omega⟩, by omega, by omega⟩
theorem LC_18 (g : GP) {h : AH} {i c : Int} (hT : ∀ h', LW h' (c + 1) → V g m_L_law 15 Q1 h' 2119 [xR 5, xR 8, xR 18, xR 39, xR 40, xI i, xU, xU, xU] []) (W : LW h c) (hi : 0 ≤ i ∧ i + 5 ≤ g_l g) (hg : g_l g ≤ 2560) (hc : 0 ≤ c ∧ c ≤ 511) : V g m_L_law 15 Q1 h 1183 [xR 5, xR 8, xR 18, xR 39, xR 40, xI i, xU, xU, xU] [] := by
  obtain ⟨D, M, A, N, U, hD, hR, hM, ho, ⟨h8, h9⟩, hN, hU⟩ := W
  have hI := hD.1.2.1
  have hIM := hD.2.1
  have hN' : N + 200 ≤ z_CC := by unfold z_CC; omega
  have hU' : U + 5000 ≤ z_CS := by unfold z_CS; omega
  have hE : ∀ k, 0 ≤ k → k < D 70 0 → iQ D (D 71 (40 * 0 + k)) := fun k a b => (hR.le (l := 0) (vL0 (by decide))).2 k a b
  obtain ⟨w1, ew1, r1⟩ : ∃ w : Int, w = (g_x g (i + 1).toNat).toInt ∧ -2147483648 ≤ w ∧ w ≤ 2147483647 := ⟨_, rfl, sc_r _⟩
  have a := g_lacks hD w1
  refine V_aload_n dL_law_1183 rfl ?_
  refine V_aload_n dL_law_1184 rfl ?_
  refine V_iload dL_law_1185 rfl ?_
  refine V_iconst dL_law_1187 ?_
  refine V_iadd dL_law_1188 ?_
  refine V_sld (j := (i + 1).toNat) dL_law_1189 (by omega) (by omega) (by omega) ?_
  rw [← ew1]
  refine V_aload_n dL_law_1190 rfl ?_
  refine V_cH (as := [_, _, _]) dL_law_1191 c_RL_189 rfl (by decide) rfl (Nat.le_of_ble_eq_true rfl) (T_L_lacks g w1 ho hR.kx a.hx (T_X3_lacks g N U D w1 r1 hI hN' hU' A h hR)) (fun E h1 q => ?_) (fun v h1 q => ?_)
  · obtain ⟨-, -, z, hz, -⟩ := q
    cases hz
  obtain ⟨q1, q2, z, hz, q3⟩ := q
  cases hz
  obtain ⟨e1, e2, e3⟩ := cmpL (by decide) nd1 a q3
  subst e1
  have ho1 := q2.ow ho
  have hM1 := q2.mr hM
  obtain ⟨A1, hR1⟩ := q1
  refine V_istore (lc' := [_, _, _, _, _, _, _, _, _]) dL_law_1194 (by decide) rfl ?_
  refine V_aload_n dL_law_1196 rfl ?_
  refine V_aload_n dL_law_1197 rfl ?_
  refine V_iload dL_law_1198 rfl ?_
  refine V_iconst dL_law_1200 ?_
  refine V_iadd dL_law_1201 ?_
  refine V_sld (j := (i + 1).toNat) dL_law_1202 (by omega) (by omega) (by omega) ?_
  rw [← ew1]
  refine V_mC (h0 := h1) (as := [_]) dL_law_1203 c_RL_191 rfl (by decide) rfl (Nat.le_of_ble_eq_true rfl) hM1 FR.rf (T_X4_lacks g M w1 r1 hIM) (fun h hM hF => ?_)
  refine V_istore (lc' := [_, _, _, _, _, _, _, _, _]) dL_law_1206 (by decide) rfl ?_
  refine V_aload_n dL_law_1208 rfl ?_
  refine V_mC (as := []) dL_law_1209 c_RL_130 rfl (by decide) rfl (Nat.le_of_ble_eq_true rfl) hM hF (T_X4_thrown g (s_lacks M w1).2) (fun h hM hF => ?_)
  refine V_iload dL_law_1212 rfl ?_
  refine V_icmp_eqS (tgt := 1219) dL_law_1214 (by decide) ?_
  refine V_iload dL_law_1219 rfl ?_
  refine V_if_ne (tgt := 1236) dL_law_1221 (by decide) (by omega) (fun q => ?_) (fun q => ?_)
  · refine V_goto (tgt := 2119) dL_law_1236 (by decide) ?_
    refine V_wk (lc' := [_, _, _, _, _, _, xU, xU, xU]) ⟨Or.inr rfl, Or.inr rfl, Or.inr rfl, Or.inr rfl, Or.inr rfl, Or.inr rfl, Or.inl rfl, Or.inl rfl, Or.inl rfl, trivial⟩ ?_
    have kk := k_lacks (M := M) w1
    have g1 := hD.g1
    have g2 := a.1.g1
    exact hT h ⟨_, _, A1, N + 4, U + 200, a.1, hF.dr hR1, hM, hF.ow ho1, ⟨by have := kk.1; have := g1.2.2.2.1; have := g2.2.2.2.1; (try dsimp only at *); omega, by have := kk.2; have := g1.2.2.2.2; have := g2.2.2.2.2; (try dsimp only at *); omega⟩, by omega, by omega⟩
  · skip
    refine V_aload_n dL_law_1224 rfl ?_
    refine V_iconst dL_law_1225 ?_
    refine V_lald (j := 0) dL_law_1226 (hF.ow ho1).1 rfl (by rw [(hF.ow ho1).2.1]; decide) (by rw [(hF.ow ho1).2.1]; decide) ?_
    rw [show h_i h 39 0 = _ from ((hF.1 39 (Or.inr (by decide))).2.2.1 0).trans (e3 q), Int64.ofInt_toInt]
    refine V_iload dL_law_1227 rfl ?_
    refine V_i2lw dL_law_1229 ?_
    refine V_lcmp (z := 0) dL_law_1230 lcmp_eq ?_
    refine V_if_eq (tgt := 1236) dL_law_1231 (by decide) (by decide) (fun _ => ?_) (fun w => absurd rfl w)
    refine V_goto (tgt := 2119) dL_law_1236 (by decide) ?_
    refine V_wk (lc' := [_, _, _, _, _, _, xU, xU, xU]) ⟨Or.inr rfl, Or.inr rfl, Or.inr rfl, Or.inr rfl, Or.inr rfl, Or.inr rfl, Or.inl rfl, Or.inl rfl, Or.inl rfl, trivial⟩ ?_
    have kk := k_lacks (M := M) w1
    have g1 := hD.g1
    have g2 := a.1.g1
    exact hT h ⟨_, _, A1, N + 4, U + 200, a.1, hF.dr hR1, hM, hF.ow ho1, ⟨by have := kk.1; have := g1.2.2.2.1; have := g2.2.2.2.1; (try dsimp only at *); omega, by have := kk.2; have := g1.2.2.2.2; have := g2.2.2.2.2; (try dsimp only at *); omega⟩, by omega, by omega⟩
theorem LC_19 (g : GP) {h : AH} {i c : Int} (hT : ∀ h', LW h' (c + 1) → V g m_L_law 15 Q1 h' 2119 [xR 5, xR 8, xR 18, xR 39, xR 40, xI i, xU, xU, xU] []) (W : LW h c) (hi : 0 ≤ i ∧ i + 5 ≤ g_l g) (hg : g_l g ≤ 2560) (hc : 0 ≤ c ∧ c ≤ 511) : V g m_L_law 15 Q1 h 1239 [xR 5, xR 8, xR 18, xR 39, xR 40, xI i, xU, xU, xU] [] := by
  obtain ⟨D, M, A, N, U, hD, hR, hM, ho, ⟨h8, h9⟩, hN, hU⟩ := W
  have hI := hD.1.2.1
  have hIM := hD.2.1
  have hN' : N + 200 ≤ z_CC := by unfold z_CC; omega
  have hU' : U + 5000 ≤ z_CS := by unfold z_CS; omega
  have hE : ∀ k, 0 ≤ k → k < D 70 0 → iQ D (D 71 (40 * 0 + k)) := fun k a b => (hR.le (l := 0) (vL0 (by decide))).2 k a b
  obtain ⟨w1, ew1, r1⟩ : ∃ w : Int, w = (g_x g (i + 1).toNat).toInt ∧ -2147483648 ≤ w ∧ w ≤ 2147483647 := ⟨_, rfl, sc_r _⟩
  have a := g_isFree hD w1
  refine V_aload_n dL_law_1239 rfl ?_
  refine V_aload_n dL_law_1240 rfl ?_
  refine V_iload dL_law_1241 rfl ?_
  refine V_iconst dL_law_1243 ?_
  refine V_iadd dL_law_1244 ?_
  refine V_sld (j := (i + 1).toNat) dL_law_1245 (by omega) (by omega) (by omega) ?_
  rw [← ew1]
  refine V_aload_n dL_law_1246 rfl ?_
  refine V_cH (as := [_, _, _]) dL_law_1247 c_RL_192 rfl (by decide) rfl (Nat.le_of_ble_eq_true rfl) (T_L_isFree g w1 ho hR.kx a.hx (fun v hv => a.b01 hv (pI_01 _)) (T_X3_isFree g N U D w1 r1 hI hN' hU' A h hR)) (fun E h1 q => ?_) (fun v h1 q => ?_)
  · obtain ⟨-, -, z, hz, -⟩ := q
    cases hz
  obtain ⟨q1, q2, z, hz, q3⟩ := q
  cases hz
  obtain ⟨e1, e2, e3⟩ := cmpL (by decide) nd1 a q3
  subst e1
  have ho1 := q2.ow ho
  have hM1 := q2.mr hM
  obtain ⟨A1, hR1⟩ := q1
  refine V_istore (lc' := [_, _, _, _, _, _, _, _, _]) dL_law_1250 (by decide) rfl ?_
  refine V_aload_n dL_law_1252 rfl ?_
  refine V_aload_n dL_law_1253 rfl ?_
  refine V_iload dL_law_1254 rfl ?_
  refine V_iconst dL_law_1256 ?_
  refine V_iadd dL_law_1257 ?_
  refine V_sld (j := (i + 1).toNat) dL_law_1258 (by omega) (by omega) (by omega) ?_
  rw [← ew1]
  refine V_mC (h0 := h1) (as := [_]) dL_law_1259 c_RL_194 rfl (by decide) rfl (Nat.le_of_ble_eq_true rfl) hM1 FR.rf (T_X4_isFree g M w1 r1 hIM) (fun h hM hF => ?_)
  refine V_istore (lc' := [_, _, _, _, _, _, _, _, _]) dL_law_1262 (by decide) rfl ?_
  refine V_aload_n dL_law_1264 rfl ?_
  refine V_mC (as := []) dL_law_1265 c_RL_130 rfl (by decide) rfl (Nat.le_of_ble_eq_true rfl) hM hF (T_X4_thrown g (mset M 27 0 (tQ M w1))) (fun h hM hF => ?_)
  refine V_iload dL_law_1268 rfl ?_
  refine V_icmp_eqS (tgt := 1275) dL_law_1270 (by decide) ?_
  refine V_iload dL_law_1275 rfl ?_
  refine V_if_ne (tgt := 1299) dL_law_1277 (by decide) (by omega) (fun q => ?_) (fun q => ?_)
  · refine V_goto (tgt := 2119) dL_law_1299 (by decide) ?_
    refine V_wk (lc' := [_, _, _, _, _, _, xU, xU, xU]) ⟨Or.inr rfl, Or.inr rfl, Or.inr rfl, Or.inr rfl, Or.inr rfl, Or.inr rfl, Or.inl rfl, Or.inl rfl, Or.inl rfl, trivial⟩ ?_
    have kk := K9.th (M := M) (z := tQ M w1)
    have g1 := hD.g1
    have g2 := a.1.g1
    exact hT h ⟨_, _, A1, N + 4, U + 200, a.1, hF.dr hR1, hM, hF.ow ho1, ⟨by have := kk.1; have := g1.2.2.2.1; have := g2.2.2.2.1; (try dsimp only at *); omega, by have := kk.2; have := g1.2.2.2.2; have := g2.2.2.2.2; (try dsimp only at *); omega⟩, by omega, by omega⟩
  · skip
    refine V_aload_n dL_law_1280 rfl ?_
    refine V_iconst dL_law_1281 ?_
    refine V_lald (j := 0) dL_law_1282 (hF.ow ho1).1 rfl (by rw [(hF.ow ho1).2.1]; decide) (by rw [(hF.ow ho1).2.1]; decide) ?_
    rw [show h_i h 39 0 = (Int32.ofInt (pI (isQ M w1 ∧ sFree M w1))).toInt64.toInt from ((hF.1 39 (Or.inr (by decide))).2.2.1 0).trans (e3 q), Int64.ofInt_toInt]
    refine V_iload dL_law_1283 rfl ?_
    rcases pI_01 (isQ M w1 ∧ sFree M w1) with eb | eb
    · rw [eb]
      refine V_if_eq (tgt := 1292) dL_law_1285 (by decide) (by decide) (fun _ => ?_) (fun w => absurd rfl w)
      refine V_lconst (v := (0 : Int64)) dL_law_1292 (by decide) ?_
      refine V_lcmp (z := 0) dL_law_1293 (by decide) ?_
      refine V_if_eq (tgt := 1299) dL_law_1294 (by decide) (by decide) (fun _ => ?_) (fun w => absurd rfl w)
      refine V_goto (tgt := 2119) dL_law_1299 (by decide) ?_
      refine V_wk (lc' := [_, _, _, _, _, _, xU, xU, xU]) ⟨Or.inr rfl, Or.inr rfl, Or.inr rfl, Or.inr rfl, Or.inr rfl, Or.inr rfl, Or.inl rfl, Or.inl rfl, Or.inl rfl, trivial⟩ ?_
      have kk := K9.th (M := M) (z := tQ M w1)
      have g1 := hD.g1
      have g2 := a.1.g1
      exact hT h ⟨_, _, A1, N + 4, U + 200, a.1, hF.dr hR1, hM, hF.ow ho1, ⟨by have := kk.1; have := g1.2.2.2.1; have := g2.2.2.2.1; (try dsimp only at *); omega, by have := kk.2; have := g1.2.2.2.2; have := g2.2.2.2.2; (try dsimp only at *); omega⟩, by omega, by omega⟩
    · rw [eb]
      refine V_if_eq (tgt := 1292) dL_law_1285 (by decide) (by decide) (fun w => absurd w (by decide)) (fun _ => ?_)
      refine V_lconst (v := (1 : Int64)) dL_law_1288 (by decide) ?_
      refine V_goto (tgt := 1293) dL_law_1289 (by decide) ?_
      refine V_lcmp (z := 0) dL_law_1293 (by decide) ?_
      refine V_if_eq (tgt := 1299) dL_law_1294 (by decide) (by decide) (fun _ => ?_) (fun w => absurd rfl w)
      refine V_goto (tgt := 2119) dL_law_1299 (by decide) ?_
      refine V_wk (lc' := [_, _, _, _, _, _, xU, xU, xU]) ⟨Or.inr rfl, Or.inr rfl, Or.inr rfl, Or.inr rfl, Or.inr rfl, Or.inr rfl, Or.inl rfl, Or.inl rfl, Or.inl rfl, trivial⟩ ?_
      have kk := K9.th (M := M) (z := tQ M w1)
      have g1 := hD.g1
      have g2 := a.1.g1
      exact hT h ⟨_, _, A1, N + 4, U + 200, a.1, hF.dr hR1, hM, hF.ow ho1, ⟨by have := kk.1; have := g1.2.2.2.1; have := g2.2.2.2.1; (try dsimp only at *); omega, by have := kk.2; have := g1.2.2.2.2; have := g2.2.2.2.2; (try dsimp only at *); omega⟩, by omega, by omega⟩
theorem LC_20 (g : GP) {h : AH} {i c : Int} (hT : ∀ h', LW h' (c + 1) → V g m_L_law 15 Q1 h' 2119 [xR 5, xR 8, xR 18, xR 39, xR 40, xI i, xU, xU, xU] []) (W : LW h c) (hi : 0 ≤ i ∧ i + 5 ≤ g_l g) (hg : g_l g ≤ 2560) (hc : 0 ≤ c ∧ c ≤ 511) : V g m_L_law 15 Q1 h 1302 [xR 5, xR 8, xR 18, xR 39, xR 40, xI i, xU, xU, xU] [] := by
  obtain ⟨D, M, A, N, U, hD, hR, hM, ho, ⟨h8, h9⟩, hN, hU⟩ := W
  have hI := hD.1.2.1
  have hIM := hD.2.1
  have hN' : N + 200 ≤ z_CC := by unfold z_CC; omega
  have hU' : U + 5000 ≤ z_CS := by unfold z_CS; omega
  have hE : ∀ k, 0 ≤ k → k < D 70 0 → iQ D (D 71 (40 * 0 + k)) := fun k a b => (hR.le (l := 0) (vL0 (by decide))).2 k a b
  obtain ⟨w1, ew1, r1⟩ : ∃ w : Int, w = (g_x g (i + 1).toNat).toInt ∧ -2147483648 ≤ w ∧ w ≤ 2147483647 := ⟨_, rfl, sc_r _⟩
  obtain ⟨w2, ew2, r2⟩ : ∃ w : Int, w = (g_x g (i + 2).toNat).toInt ∧ -2147483648 ≤ w ∧ w ≤ 2147483647 := ⟨_, rfl, sc_r _⟩
  obtain ⟨w3, ew3, r3⟩ : ∃ w : Int, w = (g_x g (i + 3).toNat).toInt ∧ -2147483648 ≤ w ∧ w ≤ 2147483647 := ⟨_, rfl, sc_r _⟩
  obtain ⟨w4, ew4, r4⟩ : ∃ w : Int, w = (g_x g (i + 4).toNat).toInt ∧ -2147483648 ≤ w ∧ w ≤ 2147483647 := ⟨_, rfl, sc_r _⟩
  have a := g_quiz hD w1 w2 w3 w4
  refine V_aload_n dL_law_1302 rfl ?_
  refine V_aload_n dL_law_1303 rfl ?_
  refine V_iload dL_law_1304 rfl ?_
  refine V_iconst dL_law_1306 ?_
  refine V_iadd dL_law_1307 ?_
  refine V_sld (j := (i + 1).toNat) dL_law_1308 (by omega) (by omega) (by omega) ?_
  rw [← ew1]
  refine V_aload_n dL_law_1309 rfl ?_
  refine V_iload dL_law_1310 rfl ?_
  refine V_iconst dL_law_1312 ?_
  refine V_iadd dL_law_1313 ?_
  refine V_sld (j := (i + 2).toNat) dL_law_1314 (by omega) (by omega) (by omega) ?_
  rw [← ew2]
  refine V_aload_n dL_law_1315 rfl ?_
  refine V_iload dL_law_1316 rfl ?_
  refine V_iconst dL_law_1318 ?_
  refine V_iadd dL_law_1319 ?_
  refine V_sld (j := (i + 3).toNat) dL_law_1320 (by omega) (by omega) (by omega) ?_
  rw [← ew3]
  refine V_aload_n dL_law_1321 rfl ?_
  refine V_iload dL_law_1322 rfl ?_
  refine V_iconst dL_law_1324 ?_
  refine V_iadd dL_law_1325 ?_
  refine V_sld (j := (i + 4).toNat) dL_law_1326 (by omega) (by omega) (by omega) ?_
  rw [← ew4]
  refine V_aload_n dL_law_1327 rfl ?_
  refine V_cH (as := [_, _, _, _, _, _]) dL_law_1328 c_RL_195 rfl (by decide) rfl (Nat.le_of_ble_eq_true rfl) (T_L_quiz g w1 w2 w3 w4 ho hR.kx a.hx (T_X3_quiz g N U D w1 w2 w3 w4 r1 r2 r3 r4 hI hN' hU' A h hR)) (fun E h1 q => ?_) (fun v h1 q => ?_)
  · obtain ⟨-, -, z, hz, -⟩ := q
    cases hz
  obtain ⟨q1, q2, z, hz, q3⟩ := q
  cases hz
  obtain ⟨e1, e2, e3⟩ := cmpL (by decide) (nd3 (by decide) (by decide) (by decide)) a q3
  subst e1
  have ho1 := q2.ow ho
  have hM1 := q2.mr hM
  obtain ⟨A1, hR1⟩ := q1
  refine V_istore (lc' := [_, _, _, _, _, _, _, _, _]) dL_law_1331 (by decide) rfl ?_
  refine V_aload_n dL_law_1333 rfl ?_
  refine V_aload_n dL_law_1334 rfl ?_
  refine V_iload dL_law_1335 rfl ?_
  refine V_iconst dL_law_1337 ?_
  refine V_iadd dL_law_1338 ?_
  refine V_sld (j := (i + 1).toNat) dL_law_1339 (by omega) (by omega) (by omega) ?_
  rw [← ew1]
  refine V_aload_n dL_law_1340 rfl ?_
  refine V_iload dL_law_1341 rfl ?_
  refine V_iconst dL_law_1343 ?_
  refine V_iadd dL_law_1344 ?_
  refine V_sld (j := (i + 2).toNat) dL_law_1345 (by omega) (by omega) (by omega) ?_
  rw [← ew2]
  refine V_aload_n dL_law_1346 rfl ?_
  refine V_iload dL_law_1347 rfl ?_
  refine V_iconst dL_law_1349 ?_
  refine V_iadd dL_law_1350 ?_
  refine V_sld (j := (i + 3).toNat) dL_law_1351 (by omega) (by omega) (by omega) ?_
  rw [← ew3]
  refine V_aload_n dL_law_1352 rfl ?_
  refine V_iload dL_law_1353 rfl ?_
  refine V_iconst dL_law_1355 ?_
  refine V_iadd dL_law_1356 ?_
  refine V_sld (j := (i + 4).toNat) dL_law_1357 (by omega) (by omega) (by omega) ?_
  rw [← ew4]
  refine V_mC (h0 := h1) (as := [_, _, _, _]) dL_law_1358 c_RL_198 rfl (by decide) rfl (Nat.le_of_ble_eq_true rfl) hM1 FR.rf (T_X4_quiz g M w1 w2 w3 w4 r1 r2 r3 r4 hIM) (fun h hM hF => ?_)
  refine V_istore (lc' := [_, _, _, _, _, _, _, _, _]) dL_law_1361 (by decide) rfl ?_
  refine V_aload_n dL_law_1363 rfl ?_
  refine V_mC (as := []) dL_law_1364 c_RL_130 rfl (by decide) rfl (Nat.le_of_ble_eq_true rfl) hM hF (T_X4_thrown g (s_quiz M w1 w2 w3 w4).2) (fun h hM hF => ?_)
  refine V_iload dL_law_1367 rfl ?_
  refine V_icmp_eqS (tgt := 1374) dL_law_1369 (by decide) ?_
  refine V_iload dL_law_1374 rfl ?_
  refine V_if_ne (tgt := 1391) dL_law_1376 (by decide) (by omega) (fun q => ?_) (fun q => ?_)
  · refine V_goto (tgt := 2119) dL_law_1391 (by decide) ?_
    refine V_wk (lc' := [_, _, _, _, _, _, xU, xU, xU]) ⟨Or.inr rfl, Or.inr rfl, Or.inr rfl, Or.inr rfl, Or.inr rfl, Or.inr rfl, Or.inl rfl, Or.inl rfl, Or.inl rfl, trivial⟩ ?_
    have kk := k_quiz (M := M) w1 w2 w3 w4
    have g1 := hD.g1
    have g2 := a.1.g1
    exact hT h ⟨_, _, A1, N + 4, U + 200, a.1, hF.dr hR1, hM, hF.ow ho1, ⟨by have := kk.1; have := g1.2.2.2.1; have := g2.2.2.2.1; (try dsimp only at *); omega, by have := kk.2; have := g1.2.2.2.2; have := g2.2.2.2.2; (try dsimp only at *); omega⟩, by omega, by omega⟩
  · skip
    refine V_aload_n dL_law_1379 rfl ?_
    refine V_iconst dL_law_1380 ?_
    refine V_lald (j := 0) dL_law_1381 (hF.ow ho1).1 rfl (by rw [(hF.ow ho1).2.1]; decide) (by rw [(hF.ow ho1).2.1]; decide) ?_
    rw [show h_i h 39 0 = _ from ((hF.1 39 (Or.inr (by decide))).2.2.1 0).trans (e3 q), Int64.ofInt_toInt]
    refine V_iload dL_law_1382 rfl ?_
    refine V_i2lw dL_law_1384 ?_
    refine V_lcmp (z := 0) dL_law_1385 lcmp_eq ?_
    refine V_if_eq (tgt := 1391) dL_law_1386 (by decide) (by decide) (fun _ => ?_) (fun w => absurd rfl w)
    refine V_goto (tgt := 2119) dL_law_1391 (by decide) ?_
    refine V_wk (lc' := [_, _, _, _, _, _, xU, xU, xU]) ⟨Or.inr rfl, Or.inr rfl, Or.inr rfl, Or.inr rfl, Or.inr rfl, Or.inr rfl, Or.inl rfl, Or.inl rfl, Or.inl rfl, trivial⟩ ?_
    have kk := k_quiz (M := M) w1 w2 w3 w4
    have g1 := hD.g1
    have g2 := a.1.g1
    exact hT h ⟨_, _, A1, N + 4, U + 200, a.1, hF.dr hR1, hM, hF.ow ho1, ⟨by have := kk.1; have := g1.2.2.2.1; have := g2.2.2.2.1; (try dsimp only at *); omega, by have := kk.2; have := g1.2.2.2.2; have := g2.2.2.2.2; (try dsimp only at *); omega⟩, by omega, by omega⟩
theorem LC_21 (g : GP) {h : AH} {i c : Int} (hT : ∀ h', LW h' (c + 1) → V g m_L_law 15 Q1 h' 2119 [xR 5, xR 8, xR 18, xR 39, xR 40, xI i, xU, xU, xU] []) (W : LW h c) (hi : 0 ≤ i ∧ i + 5 ≤ g_l g) (hg : g_l g ≤ 2560) (hc : 0 ≤ c ∧ c ≤ 511) : V g m_L_law 15 Q1 h 1394 [xR 5, xR 8, xR 18, xR 39, xR 40, xI i, xU, xU, xU] [] := by
  obtain ⟨D, M, A, N, U, hD, hR, hM, ho, ⟨h8, h9⟩, hN, hU⟩ := W
  have hI := hD.1.2.1
  have hIM := hD.2.1
  have hN' : N + 200 ≤ z_CC := by unfold z_CC; omega
  have hU' : U + 5000 ≤ z_CS := by unfold z_CS; omega
  have hE : ∀ k, 0 ≤ k → k < D 70 0 → iQ D (D 71 (40 * 0 + k)) := fun k a b => (hR.le (l := 0) (vL0 (by decide))).2 k a b
  obtain ⟨w1, ew1, r1⟩ : ∃ w : Int, w = (g_x g (i + 1).toNat).toInt ∧ -2147483648 ≤ w ∧ w ≤ 2147483647 := ⟨_, rfl, sc_r _⟩
  have a := g_quizOf hD w1
  refine V_aload_n dL_law_1394 rfl ?_
  refine V_aload_n dL_law_1395 rfl ?_
  refine V_iload dL_law_1396 rfl ?_
  refine V_iconst dL_law_1398 ?_
  refine V_iadd dL_law_1399 ?_
  refine V_sld (j := (i + 1).toNat) dL_law_1400 (by omega) (by omega) (by omega) ?_
  rw [← ew1]
  refine V_aload_n dL_law_1401 rfl ?_
  refine V_cH (as := [_, _, _]) dL_law_1402 c_RL_199 rfl (by decide) rfl (Nat.le_of_ble_eq_true rfl) (T_L_quizOf g w1 ho hR.kx a.hx (T_X3_quizOf g N U D w1 r1 hI hN' hU' A h hR)) (fun E h1 q => ?_) (fun v h1 q => ?_)
  · obtain ⟨-, -, z, hz, -⟩ := q
    cases hz
  obtain ⟨q1, q2, z, hz, q3⟩ := q
  cases hz
  obtain ⟨e1, e2, e3⟩ := cmpL (by decide) (nd3 (by decide) (by decide) (by decide)) a q3
  subst e1
  have ho1 := q2.ow ho
  have hM1 := q2.mr hM
  obtain ⟨A1, hR1⟩ := q1
  refine V_istore (lc' := [_, _, _, _, _, _, _, _, _]) dL_law_1405 (by decide) rfl ?_
  refine V_aload_n dL_law_1407 rfl ?_
  refine V_aload_n dL_law_1408 rfl ?_
  refine V_iload dL_law_1409 rfl ?_
  refine V_iconst dL_law_1411 ?_
  refine V_iadd dL_law_1412 ?_
  refine V_sld (j := (i + 1).toNat) dL_law_1413 (by omega) (by omega) (by omega) ?_
  rw [← ew1]
  refine V_mC (h0 := h1) (as := [_]) dL_law_1414 c_RL_201 rfl (by decide) rfl (Nat.le_of_ble_eq_true rfl) hM1 FR.rf (T_X4_quizOf g M w1 r1 hIM) (fun h hM hF => ?_)
  refine V_istore (lc' := [_, _, _, _, _, _, _, _, _]) dL_law_1417 (by decide) rfl ?_
  refine V_aload_n dL_law_1419 rfl ?_
  refine V_mC (as := []) dL_law_1420 c_RL_130 rfl (by decide) rfl (Nat.le_of_ble_eq_true rfl) hM hF (T_X4_thrown g (s_quizOf M w1).2) (fun h hM hF => ?_)
  refine V_iload dL_law_1423 rfl ?_
  refine V_icmp_eqS (tgt := 1430) dL_law_1425 (by decide) ?_
  refine V_iload dL_law_1430 rfl ?_
  refine V_if_ne (tgt := 1447) dL_law_1432 (by decide) (by omega) (fun q => ?_) (fun q => ?_)
  · refine V_goto (tgt := 2119) dL_law_1447 (by decide) ?_
    refine V_wk (lc' := [_, _, _, _, _, _, xU, xU, xU]) ⟨Or.inr rfl, Or.inr rfl, Or.inr rfl, Or.inr rfl, Or.inr rfl, Or.inr rfl, Or.inl rfl, Or.inl rfl, Or.inl rfl, trivial⟩ ?_
    have kk := k_quizOf (M := M) w1
    have g1 := hD.g1
    have g2 := a.1.g1
    exact hT h ⟨_, _, A1, N + 4, U + 200, a.1, hF.dr hR1, hM, hF.ow ho1, ⟨by have := kk.1; have := g1.2.2.2.1; have := g2.2.2.2.1; (try dsimp only at *); omega, by have := kk.2; have := g1.2.2.2.2; have := g2.2.2.2.2; (try dsimp only at *); omega⟩, by omega, by omega⟩
  · skip
    refine V_aload_n dL_law_1435 rfl ?_
    refine V_iconst dL_law_1436 ?_
    refine V_lald (j := 0) dL_law_1437 (hF.ow ho1).1 rfl (by rw [(hF.ow ho1).2.1]; decide) (by rw [(hF.ow ho1).2.1]; decide) ?_
    rw [show h_i h 39 0 = _ from ((hF.1 39 (Or.inr (by decide))).2.2.1 0).trans (e3 q), Int64.ofInt_toInt]
    refine V_iload dL_law_1438 rfl ?_
    refine V_i2lw dL_law_1440 ?_
    refine V_lcmp (z := 0) dL_law_1441 lcmp_eq ?_
    refine V_if_eq (tgt := 1447) dL_law_1442 (by decide) (by decide) (fun _ => ?_) (fun w => absurd rfl w)
    refine V_goto (tgt := 2119) dL_law_1447 (by decide) ?_
    refine V_wk (lc' := [_, _, _, _, _, _, xU, xU, xU]) ⟨Or.inr rfl, Or.inr rfl, Or.inr rfl, Or.inr rfl, Or.inr rfl, Or.inr rfl, Or.inl rfl, Or.inl rfl, Or.inl rfl, trivial⟩ ?_
    have kk := k_quizOf (M := M) w1
    have g1 := hD.g1
    have g2 := a.1.g1
    exact hT h ⟨_, _, A1, N + 4, U + 200, a.1, hF.dr hR1, hM, hF.ow ho1, ⟨by have := kk.1; have := g1.2.2.2.1; have := g2.2.2.2.1; (try dsimp only at *); omega, by have := kk.2; have := g1.2.2.2.2; have := g2.2.2.2.2; (try dsimp only at *); omega⟩, by omega, by omega⟩
theorem LC_22 (g : GP) {h : AH} {i c : Int} (hT : ∀ h', LW h' (c + 1) → V g m_L_law 15 Q1 h' 2119 [xR 5, xR 8, xR 18, xR 39, xR 40, xI i, xU, xU, xU] []) (W : LW h c) (hi : 0 ≤ i ∧ i + 5 ≤ g_l g) (hg : g_l g ≤ 2560) (hc : 0 ≤ c ∧ c ≤ 511) : V g m_L_law 15 Q1 h 1450 [xR 5, xR 8, xR 18, xR 39, xR 40, xI i, xU, xU, xU] [] := by
  obtain ⟨D, M, A, N, U, hD, hR, hM, ho, ⟨h8, h9⟩, hN, hU⟩ := W
  have hI := hD.1.2.1
  have hIM := hD.2.1
  have hN' : N + 200 ≤ z_CC := by unfold z_CC; omega
  have hU' : U + 5000 ≤ z_CS := by unfold z_CS; omega
  have hE : ∀ k, 0 ≤ k → k < D 70 0 → iQ D (D 71 (40 * 0 + k)) := fun k a b => (hR.le (l := 0) (vL0 (by decide))).2 k a b
  obtain ⟨w1, ew1, r1⟩ : ∃ w : Int, w = (g_x g (i + 1).toNat).toInt ∧ -2147483648 ≤ w ∧ w ≤ 2147483647 := ⟨_, rfl, sc_r _⟩
  have a := g_size hD w1
  refine V_aload_n dL_law_1450 rfl ?_
  refine V_aload_n dL_law_1451 rfl ?_
  refine V_iload dL_law_1452 rfl ?_
  refine V_iconst dL_law_1454 ?_
  refine V_iadd dL_law_1455 ?_
  refine V_sld (j := (i + 1).toNat) dL_law_1456 (by omega) (by omega) (by omega) ?_
  rw [← ew1]
  refine V_aload_n dL_law_1457 rfl ?_
  refine V_cH (as := [_, _, _]) dL_law_1458 c_RL_202 rfl (by decide) rfl (Nat.le_of_ble_eq_true rfl) (T_L_size g w1 ho hR.kx a.hx (T_X3_size g N U D w1 r1 hI hN' hU' A h hR)) (fun E h1 q => ?_) (fun v h1 q => ?_)
  · obtain ⟨-, -, z, hz, -⟩ := q
    cases hz
  obtain ⟨q1, q2, z, hz, q3⟩ := q
  cases hz
  obtain ⟨e1, e2, e3⟩ := cmpL (by decide) nd1 a q3
  subst e1
  have ho1 := q2.ow ho
  have hM1 := q2.mr hM
  obtain ⟨A1, hR1⟩ := q1
  refine V_istore (lc' := [_, _, _, _, _, _, _, _, _]) dL_law_1461 (by decide) rfl ?_
  refine V_aload_n dL_law_1463 rfl ?_
  refine V_aload_n dL_law_1464 rfl ?_
  refine V_iload dL_law_1465 rfl ?_
  refine V_iconst dL_law_1467 ?_
  refine V_iadd dL_law_1468 ?_
  refine V_sld (j := (i + 1).toNat) dL_law_1469 (by omega) (by omega) (by omega) ?_
  rw [← ew1]
  refine V_mC (h0 := h1) (as := [_]) dL_law_1470 c_RL_204 rfl (by decide) rfl (Nat.le_of_ble_eq_true rfl) hM1 FR.rf (T_X4_size g M w1 r1 hIM) (fun h hM hF => ?_)
  refine V_istore (lc' := [_, _, _, _, _, _, _, _, _]) dL_law_1473 (by decide) rfl ?_
  refine V_aload_n dL_law_1475 rfl ?_
  refine V_mC (as := []) dL_law_1476 c_RL_130 rfl (by decide) rfl (Nat.le_of_ble_eq_true rfl) hM hF (T_X4_thrown g (s_size M w1).2) (fun h hM hF => ?_)
  refine V_iload dL_law_1479 rfl ?_
  refine V_icmp_eqS (tgt := 1486) dL_law_1481 (by decide) ?_
  refine V_iload dL_law_1486 rfl ?_
  refine V_if_ne (tgt := 1503) dL_law_1488 (by decide) (by omega) (fun q => ?_) (fun q => ?_)
  · refine V_goto (tgt := 2119) dL_law_1503 (by decide) ?_
    refine V_wk (lc' := [_, _, _, _, _, _, xU, xU, xU]) ⟨Or.inr rfl, Or.inr rfl, Or.inr rfl, Or.inr rfl, Or.inr rfl, Or.inr rfl, Or.inl rfl, Or.inl rfl, Or.inl rfl, trivial⟩ ?_
    have kk := k_size (M := M) w1
    have g1 := hD.g1
    have g2 := a.1.g1
    exact hT h ⟨_, _, A1, N + 4, U + 200, a.1, hF.dr hR1, hM, hF.ow ho1, ⟨by have := kk.1; have := g1.2.2.2.1; have := g2.2.2.2.1; (try dsimp only at *); omega, by have := kk.2; have := g1.2.2.2.2; have := g2.2.2.2.2; (try dsimp only at *); omega⟩, by omega, by omega⟩
  · skip
    refine V_aload_n dL_law_1491 rfl ?_
    refine V_iconst dL_law_1492 ?_
    refine V_lald (j := 0) dL_law_1493 (hF.ow ho1).1 rfl (by rw [(hF.ow ho1).2.1]; decide) (by rw [(hF.ow ho1).2.1]; decide) ?_
    rw [show h_i h 39 0 = _ from ((hF.1 39 (Or.inr (by decide))).2.2.1 0).trans (e3 q), Int64.ofInt_toInt]
    refine V_iload dL_law_1494 rfl ?_
    refine V_i2lw dL_law_1496 ?_
    refine V_lcmp (z := 0) dL_law_1497 lcmp_eq ?_
    refine V_if_eq (tgt := 1503) dL_law_1498 (by decide) (by decide) (fun _ => ?_) (fun w => absurd rfl w)
    refine V_goto (tgt := 2119) dL_law_1503 (by decide) ?_
    refine V_wk (lc' := [_, _, _, _, _, _, xU, xU, xU]) ⟨Or.inr rfl, Or.inr rfl, Or.inr rfl, Or.inr rfl, Or.inr rfl, Or.inr rfl, Or.inl rfl, Or.inl rfl, Or.inl rfl, trivial⟩ ?_
    have kk := k_size (M := M) w1
    have g1 := hD.g1
    have g2 := a.1.g1
    exact hT h ⟨_, _, A1, N + 4, U + 200, a.1, hF.dr hR1, hM, hF.ow ho1, ⟨by have := kk.1; have := g1.2.2.2.1; have := g2.2.2.2.1; (try dsimp only at *); omega, by have := kk.2; have := g1.2.2.2.2; have := g2.2.2.2.2; (try dsimp only at *); omega⟩, by omega, by omega⟩
theorem LC_23 (g : GP) {h : AH} {i c : Int} (hT : ∀ h', LW h' (c + 1) → V g m_L_law 15 Q1 h' 2119 [xR 5, xR 8, xR 18, xR 39, xR 40, xI i, xU, xU, xU] []) (W : LW h c) (hi : 0 ≤ i ∧ i + 5 ≤ g_l g) (hg : g_l g ≤ 2560) (hc : 0 ≤ c ∧ c ≤ 511) : V g m_L_law 15 Q1 h 1506 [xR 5, xR 8, xR 18, xR 39, xR 40, xI i, xU, xU, xU] [] := by
  obtain ⟨D, M, A, N, U, hD, hR, hM, ho, ⟨h8, h9⟩, hN, hU⟩ := W
  have hI := hD.1.2.1
  have hIM := hD.2.1
  have hN' : N + 200 ≤ z_CC := by unfold z_CC; omega
  have hU' : U + 5000 ≤ z_CS := by unfold z_CS; omega
  have hE : ∀ k, 0 ≤ k → k < D 70 0 → iQ D (D 71 (40 * 0 + k)) := fun k a b => (hR.le (l := 0) (vL0 (by decide))).2 k a b
  obtain ⟨w1, ew1, r1⟩ : ∃ w : Int, w = (g_x g (i + 1).toNat).toInt ∧ -2147483648 ≤ w ∧ w ≤ 2147483647 := ⟨_, rfl, sc_r _⟩
  obtain ⟨w2, ew2, r2⟩ : ∃ w : Int, w = (g_x g (i + 2).toNat).toInt ∧ -2147483648 ≤ w ∧ w ≤ 2147483647 := ⟨_, rfl, sc_r _⟩
  have a := g_questionAt hD w1 w2
  refine V_aload_n dL_law_1506 rfl ?_
  refine V_aload_n dL_law_1507 rfl ?_
  refine V_iload dL_law_1508 rfl ?_
  refine V_iconst dL_law_1510 ?_
  refine V_iadd dL_law_1511 ?_
  refine V_sld (j := (i + 1).toNat) dL_law_1512 (by omega) (by omega) (by omega) ?_
  rw [← ew1]
  refine V_aload_n dL_law_1513 rfl ?_
  refine V_iload dL_law_1514 rfl ?_
  refine V_iconst dL_law_1516 ?_
  refine V_iadd dL_law_1517 ?_
  refine V_sld (j := (i + 2).toNat) dL_law_1518 (by omega) (by omega) (by omega) ?_
  rw [← ew2]
  refine V_aload_n dL_law_1519 rfl ?_
  refine V_cH (as := [_, _, _, _]) dL_law_1520 c_RL_205 rfl (by decide) rfl (Nat.le_of_ble_eq_true rfl) (T_L_questionAt g w1 w2 ho hR.kx a.hx (T_X3_questionAt g N U D w1 w2 r1 r2 hI hN' hU' A h hR)) (fun E h1 q => ?_) (fun v h1 q => ?_)
  · obtain ⟨-, -, z, hz, -⟩ := q
    cases hz
  obtain ⟨q1, q2, z, hz, q3⟩ := q
  cases hz
  obtain ⟨e1, e2, e3⟩ := cmpL (by decide) (nd2 (by decide)) a q3
  subst e1
  have ho1 := q2.ow ho
  have hM1 := q2.mr hM
  obtain ⟨A1, hR1⟩ := q1
  refine V_istore (lc' := [_, _, _, _, _, _, _, _, _]) dL_law_1523 (by decide) rfl ?_
  refine V_aload_n dL_law_1525 rfl ?_
  refine V_aload_n dL_law_1526 rfl ?_
  refine V_iload dL_law_1527 rfl ?_
  refine V_iconst dL_law_1529 ?_
  refine V_iadd dL_law_1530 ?_
  refine V_sld (j := (i + 1).toNat) dL_law_1531 (by omega) (by omega) (by omega) ?_
  rw [← ew1]
  refine V_aload_n dL_law_1532 rfl ?_
  refine V_iload dL_law_1533 rfl ?_
  refine V_iconst dL_law_1535 ?_
  refine V_iadd dL_law_1536 ?_
  refine V_sld (j := (i + 2).toNat) dL_law_1537 (by omega) (by omega) (by omega) ?_
  rw [← ew2]
  refine V_mC (h0 := h1) (as := [_, _]) dL_law_1538 c_RL_207 rfl (by decide) rfl (Nat.le_of_ble_eq_true rfl) hM1 FR.rf (T_X4_questionAt g M w1 w2 r1 r2 hIM) (fun h hM hF => ?_)
  refine V_istore (lc' := [_, _, _, _, _, _, _, _, _]) dL_law_1541 (by decide) rfl ?_
  refine V_aload_n dL_law_1543 rfl ?_
  refine V_mC (as := []) dL_law_1544 c_RL_130 rfl (by decide) rfl (Nat.le_of_ble_eq_true rfl) hM hF (T_X4_thrown g (s_questionAt M w1 w2).2) (fun h hM hF => ?_)
  refine V_iload dL_law_1547 rfl ?_
  refine V_icmp_eqS (tgt := 1554) dL_law_1549 (by decide) ?_
  refine V_iload dL_law_1554 rfl ?_
  refine V_if_ne (tgt := 1571) dL_law_1556 (by decide) (by omega) (fun q => ?_) (fun q => ?_)
  · refine V_goto (tgt := 2119) dL_law_1571 (by decide) ?_
    refine V_wk (lc' := [_, _, _, _, _, _, xU, xU, xU]) ⟨Or.inr rfl, Or.inr rfl, Or.inr rfl, Or.inr rfl, Or.inr rfl, Or.inr rfl, Or.inl rfl, Or.inl rfl, Or.inl rfl, trivial⟩ ?_
    have kk := k_questionAt (M := M) w1 w2
    have g1 := hD.g1
    have g2 := a.1.g1
    exact hT h ⟨_, _, A1, N + 4, U + 200, a.1, hF.dr hR1, hM, hF.ow ho1, ⟨by have := kk.1; have := g1.2.2.2.1; have := g2.2.2.2.1; (try dsimp only at *); omega, by have := kk.2; have := g1.2.2.2.2; have := g2.2.2.2.2; (try dsimp only at *); omega⟩, by omega, by omega⟩
  · skip
    refine V_aload_n dL_law_1559 rfl ?_
    refine V_iconst dL_law_1560 ?_
    refine V_lald (j := 0) dL_law_1561 (hF.ow ho1).1 rfl (by rw [(hF.ow ho1).2.1]; decide) (by rw [(hF.ow ho1).2.1]; decide) ?_
    rw [show h_i h 39 0 = _ from ((hF.1 39 (Or.inr (by decide))).2.2.1 0).trans (e3 q), Int64.ofInt_toInt]
    refine V_iload dL_law_1562 rfl ?_
    refine V_i2lw dL_law_1564 ?_
    refine V_lcmp (z := 0) dL_law_1565 lcmp_eq ?_
    refine V_if_eq (tgt := 1571) dL_law_1566 (by decide) (by decide) (fun _ => ?_) (fun w => absurd rfl w)
    refine V_goto (tgt := 2119) dL_law_1571 (by decide) ?_
    refine V_wk (lc' := [_, _, _, _, _, _, xU, xU, xU]) ⟨Or.inr rfl, Or.inr rfl, Or.inr rfl, Or.inr rfl, Or.inr rfl, Or.inr rfl, Or.inl rfl, Or.inl rfl, Or.inl rfl, trivial⟩ ?_
    have kk := k_questionAt (M := M) w1 w2
    have g1 := hD.g1
    have g2 := a.1.g1
    exact hT h ⟨_, _, A1, N + 4, U + 200, a.1, hF.dr hR1, hM, hF.ow ho1, ⟨by have := kk.1; have := g1.2.2.2.1; have := g2.2.2.2.1; (try dsimp only at *); omega, by have := kk.2; have := g1.2.2.2.2; have := g2.2.2.2.2; (try dsimp only at *); omega⟩, by omega, by omega⟩
theorem LC_24 (g : GP) {h : AH} {i c : Int} (hT : ∀ h', LW h' (c + 1) → V g m_L_law 15 Q1 h' 2119 [xR 5, xR 8, xR 18, xR 39, xR 40, xI i, xU, xU, xU] []) (W : LW h c) (hi : 0 ≤ i ∧ i + 5 ≤ g_l g) (hg : g_l g ≤ 2560) (hc : 0 ≤ c ∧ c ≤ 511) : V g m_L_law 15 Q1 h 1574 [xR 5, xR 8, xR 18, xR 39, xR 40, xI i, xU, xU, xU] [] := by
  obtain ⟨D, M, A, N, U, hD, hR, hM, ho, ⟨h8, h9⟩, hN, hU⟩ := W
  have hI := hD.1.2.1
  have hIM := hD.2.1
  have hN' : N + 200 ≤ z_CC := by unfold z_CC; omega
  have hU' : U + 5000 ≤ z_CS := by unfold z_CS; omega
  have hE : ∀ k, 0 ≤ k → k < D 70 0 → iQ D (D 71 (40 * 0 + k)) := fun k a b => (hR.le (l := 0) (vL0 (by decide))).2 k a b
  obtain ⟨w1, ew1, r1⟩ : ∃ w : Int, w = (g_x g (i + 1).toNat).toInt ∧ -2147483648 ≤ w ∧ w ≤ 2147483647 := ⟨_, rfl, sc_r _⟩
  have a := g_stateOf hD w1
  refine V_aload_n dL_law_1574 rfl ?_
  refine V_aload_n dL_law_1575 rfl ?_
  refine V_iload dL_law_1576 rfl ?_
  refine V_iconst dL_law_1578 ?_
  refine V_iadd dL_law_1579 ?_
  refine V_sld (j := (i + 1).toNat) dL_law_1580 (by omega) (by omega) (by omega) ?_
  rw [← ew1]
  refine V_aload_n dL_law_1581 rfl ?_
  refine V_cH (as := [_, _, _]) dL_law_1582 c_RL_208 rfl (by decide) rfl (Nat.le_of_ble_eq_true rfl) (T_L_stateOf g w1 ho hR.kx a.hx (T_X3_stateOf g N U D w1 r1 hI hN' hU' A h hR)) (fun E h1 q => ?_) (fun v h1 q => ?_)
  · obtain ⟨-, -, z, hz, -⟩ := q
    cases hz
  obtain ⟨q1, q2, z, hz, q3⟩ := q
  cases hz
  obtain ⟨e1, e2, e3⟩ := cmpL (by decide) nd1 a q3
  subst e1
  have ho1 := q2.ow ho
  have hM1 := q2.mr hM
  obtain ⟨A1, hR1⟩ := q1
  refine V_istore (lc' := [_, _, _, _, _, _, _, _, _]) dL_law_1585 (by decide) rfl ?_
  refine V_aload_n dL_law_1587 rfl ?_
  refine V_aload_n dL_law_1588 rfl ?_
  refine V_iload dL_law_1589 rfl ?_
  refine V_iconst dL_law_1591 ?_
  refine V_iadd dL_law_1592 ?_
  refine V_sld (j := (i + 1).toNat) dL_law_1593 (by omega) (by omega) (by omega) ?_
  rw [← ew1]
  refine V_mC (h0 := h1) (as := [_]) dL_law_1594 c_RL_210 rfl (by decide) rfl (Nat.le_of_ble_eq_true rfl) hM1 FR.rf (T_X4_stateOf g M w1 r1 hIM) (fun h hM hF => ?_)
  refine V_istore (lc' := [_, _, _, _, _, _, _, _, _]) dL_law_1597 (by decide) rfl ?_
  refine V_aload_n dL_law_1599 rfl ?_
  refine V_mC (as := []) dL_law_1600 c_RL_130 rfl (by decide) rfl (Nat.le_of_ble_eq_true rfl) hM hF (T_X4_thrown g (s_stateOf M w1).2) (fun h hM hF => ?_)
  refine V_iload dL_law_1603 rfl ?_
  refine V_icmp_eqS (tgt := 1610) dL_law_1605 (by decide) ?_
  refine V_iload dL_law_1610 rfl ?_
  refine V_if_ne (tgt := 1627) dL_law_1612 (by decide) (by omega) (fun q => ?_) (fun q => ?_)
  · refine V_goto (tgt := 2119) dL_law_1627 (by decide) ?_
    refine V_wk (lc' := [_, _, _, _, _, _, xU, xU, xU]) ⟨Or.inr rfl, Or.inr rfl, Or.inr rfl, Or.inr rfl, Or.inr rfl, Or.inr rfl, Or.inl rfl, Or.inl rfl, Or.inl rfl, trivial⟩ ?_
    have kk := k_stateOf (M := M) w1
    have g1 := hD.g1
    have g2 := a.1.g1
    exact hT h ⟨_, _, A1, N + 4, U + 200, a.1, hF.dr hR1, hM, hF.ow ho1, ⟨by have := kk.1; have := g1.2.2.2.1; have := g2.2.2.2.1; (try dsimp only at *); omega, by have := kk.2; have := g1.2.2.2.2; have := g2.2.2.2.2; (try dsimp only at *); omega⟩, by omega, by omega⟩
  · skip
    refine V_aload_n dL_law_1615 rfl ?_
    refine V_iconst dL_law_1616 ?_
    refine V_lald (j := 0) dL_law_1617 (hF.ow ho1).1 rfl (by rw [(hF.ow ho1).2.1]; decide) (by rw [(hF.ow ho1).2.1]; decide) ?_
    rw [show h_i h 39 0 = _ from ((hF.1 39 (Or.inr (by decide))).2.2.1 0).trans (e3 q), Int64.ofInt_toInt]
    refine V_iload dL_law_1618 rfl ?_
    refine V_i2lw dL_law_1620 ?_
    refine V_lcmp (z := 0) dL_law_1621 lcmp_eq ?_
    refine V_if_eq (tgt := 1627) dL_law_1622 (by decide) (by decide) (fun _ => ?_) (fun w => absurd rfl w)
    refine V_goto (tgt := 2119) dL_law_1627 (by decide) ?_
    refine V_wk (lc' := [_, _, _, _, _, _, xU, xU, xU]) ⟨Or.inr rfl, Or.inr rfl, Or.inr rfl, Or.inr rfl, Or.inr rfl, Or.inr rfl, Or.inl rfl, Or.inl rfl, Or.inl rfl, trivial⟩ ?_
    have kk := k_stateOf (M := M) w1
    have g1 := hD.g1
    have g2 := a.1.g1
    exact hT h ⟨_, _, A1, N + 4, U + 200, a.1, hF.dr hR1, hM, hF.ow ho1, ⟨by have := kk.1; have := g1.2.2.2.1; have := g2.2.2.2.1; (try dsimp only at *); omega, by have := kk.2; have := g1.2.2.2.2; have := g2.2.2.2.2; (try dsimp only at *); omega⟩, by omega, by omega⟩
theorem LC_27 (g : GP) {h : AH} {i c : Int} (hT : ∀ h', LW h' (c + 1) → V g m_L_law 15 Q1 h' 2119 [xR 5, xR 8, xR 18, xR 39, xR 40, xI i, xU, xU, xU] []) (W : LW h c) (hi : 0 ≤ i ∧ i + 5 ≤ g_l g) (hg : g_l g ≤ 2560) (hc : 0 ≤ c ∧ c ≤ 511) : V g m_L_law 15 Q1 h 1684 [xR 5, xR 8, xR 18, xR 39, xR 40, xI i, xU, xU, xU] [] := by
  obtain ⟨D, M, A, N, U, hD, hR, hM, ho, ⟨h8, h9⟩, hN, hU⟩ := W
  have hI := hD.1.2.1
  have hIM := hD.2.1
  have hN' : N + 200 ≤ z_CC := by unfold z_CC; omega
  have hU' : U + 5000 ≤ z_CS := by unfold z_CS; omega
  have hE : ∀ k, 0 ≤ k → k < D 70 0 → iQ D (D 71 (40 * 0 + k)) := fun k a b => (hR.le (l := 0) (vL0 (by decide))).2 k a b
  have a := g_print hD
  refine V_aload_n dL_law_1684 rfl ?_
  refine V_aload_n dL_law_1685 rfl ?_
  refine V_cH (as := [_, _]) dL_law_1686 c_RL_220 rfl (by decide) rfl (Nat.le_of_ble_eq_true rfl) (T_L_print g  ho hR.kx a.hx (T_X3_print g N U D hI hN' hU' A h hR)) (fun E h1 q => ?_) (fun v h1 q => ?_)
  · obtain ⟨-, -, z, hz, -⟩ := q
    cases hz
  obtain ⟨q1, q2, z, hz, q3⟩ := q
  cases hz
  obtain ⟨e1, e2, e3⟩ := cmpL (by decide) (nd2 (by decide)) a q3
  subst e1
  have ho1 := q2.ow ho
  have hM1 := q2.mr hM
  obtain ⟨A1, hR1⟩ := q1
  refine V_istore (lc' := [_, _, _, _, _, _, _, _, _]) dL_law_1689 (by decide) rfl ?_
  refine V_aload_n dL_law_1691 rfl ?_
  refine V_mC (h0 := h1) (as := []) dL_law_1692 c_RL_222 rfl (by decide) rfl (Nat.le_of_ble_eq_true rfl) hM1 FR.rf (T_X4_print g M hIM) (fun h hM hF => ?_)
  refine V_istore (lc' := [_, _, _, _, _, _, _, _, _]) dL_law_1695 (by decide) rfl ?_
  refine V_aload_n dL_law_1697 rfl ?_
  refine V_mC (as := []) dL_law_1698 c_RL_130 rfl (by decide) rfl (Nat.le_of_ble_eq_true rfl) hM hF (T_X4_thrown g (s_print M).2) (fun h hM hF => ?_)
  refine V_iload dL_law_1701 rfl ?_
  refine V_icmp_eqS (tgt := 1708) dL_law_1703 (by decide) ?_
  refine V_iload dL_law_1708 rfl ?_
  refine V_if_ne (tgt := 1725) dL_law_1710 (by decide) (by omega) (fun q => ?_) (fun q => ?_)
  · refine V_goto (tgt := 2119) dL_law_1725 (by decide) ?_
    refine V_wk (lc' := [_, _, _, _, _, _, xU, xU, xU]) ⟨Or.inr rfl, Or.inr rfl, Or.inr rfl, Or.inr rfl, Or.inr rfl, Or.inr rfl, Or.inl rfl, Or.inl rfl, Or.inl rfl, trivial⟩ ?_
    have kk := k_print (M := M)
    have g1 := hD.g1
    have g2 := a.1.g1
    exact hT h ⟨_, _, A1, N + 4, U + 200, a.1, hF.dr hR1, hM, hF.ow ho1, ⟨by have := kk.1; have := g1.2.2.2.1; have := g2.2.2.2.1; (try dsimp only at *); omega, by have := kk.2; have := g1.2.2.2.2; have := g2.2.2.2.2; (try dsimp only at *); omega⟩, by omega, by omega⟩
  · skip
    refine V_aload_n dL_law_1713 rfl ?_
    refine V_iconst dL_law_1714 ?_
    refine V_lald (j := 0) dL_law_1715 (hF.ow ho1).1 rfl (by rw [(hF.ow ho1).2.1]; decide) (by rw [(hF.ow ho1).2.1]; decide) ?_
    rw [show h_i h 39 0 = _ from ((hF.1 39 (Or.inr (by decide))).2.2.1 0).trans (e3 q), Int64.ofInt_toInt]
    refine V_iload dL_law_1716 rfl ?_
    refine V_i2lw dL_law_1718 ?_
    refine V_lcmp (z := 0) dL_law_1719 lcmp_eq ?_
    refine V_if_eq (tgt := 1725) dL_law_1720 (by decide) (by decide) (fun _ => ?_) (fun w => absurd rfl w)
    refine V_goto (tgt := 2119) dL_law_1725 (by decide) ?_
    refine V_wk (lc' := [_, _, _, _, _, _, xU, xU, xU]) ⟨Or.inr rfl, Or.inr rfl, Or.inr rfl, Or.inr rfl, Or.inr rfl, Or.inr rfl, Or.inl rfl, Or.inl rfl, Or.inl rfl, trivial⟩ ?_
    have kk := k_print (M := M)
    have g1 := hD.g1
    have g2 := a.1.g1
    exact hT h ⟨_, _, A1, N + 4, U + 200, a.1, hF.dr hR1, hM, hF.ow ho1, ⟨by have := kk.1; have := g1.2.2.2.1; have := g2.2.2.2.1; (try dsimp only at *); omega, by have := kk.2; have := g1.2.2.2.2; have := g2.2.2.2.2; (try dsimp only at *); omega⟩, by omega, by omega⟩
theorem LC_28 (g : GP) {h : AH} {i c : Int} (hT : ∀ h', LW h' (c + 1) → V g m_L_law 15 Q1 h' 2119 [xR 5, xR 8, xR 18, xR 39, xR 40, xI i, xU, xU, xU] []) (W : LW h c) (hi : 0 ≤ i ∧ i + 5 ≤ g_l g) (hg : g_l g ≤ 2560) (hc : 0 ≤ c ∧ c ≤ 511) : V g m_L_law 15 Q1 h 1728 [xR 5, xR 8, xR 18, xR 39, xR 40, xI i, xU, xU, xU] [] := by
  obtain ⟨D, M, A, N, U, hD, hR, hM, ho, ⟨h8, h9⟩, hN, hU⟩ := W
  have hI := hD.1.2.1
  have hIM := hD.2.1
  have hN' : N + 200 ≤ z_CC := by unfold z_CC; omega
  have hU' : U + 5000 ≤ z_CS := by unfold z_CS; omega
  have hE : ∀ k, 0 ≤ k → k < D 70 0 → iQ D (D 71 (40 * 0 + k)) := fun k a b => (hR.le (l := 0) (vL0 (by decide))).2 k a b
  obtain ⟨w1, ew1, r1⟩ : ∃ w : Int, w = (g_x g (i + 1).toNat).toInt ∧ -2147483648 ≤ w ∧ w ≤ 2147483647 := ⟨_, rfl, sc_r _⟩
  have a := g_cancel hD w1
  refine V_aload_n dL_law_1728 rfl ?_
  refine V_aload_n dL_law_1729 rfl ?_
  refine V_iload dL_law_1730 rfl ?_
  refine V_iconst dL_law_1732 ?_
  refine V_iadd dL_law_1733 ?_
  refine V_sld (j := (i + 1).toNat) dL_law_1734 (by omega) (by omega) (by omega) ?_
  rw [← ew1]
  refine V_aload_n dL_law_1735 rfl ?_
  refine V_cH (as := [_, _, _]) dL_law_1736 c_RL_223 rfl (by decide) rfl (Nat.le_of_ble_eq_true rfl) (T_L_cancel g w1 ho hR.kx a.hx (T_X3_cancel g N U D w1 r1 hI hN' hU' A h hR)) (fun E h1 q => ?_) (fun v h1 q => ?_)
  · obtain ⟨-, -, z, hz, -⟩ := q
    cases hz
  obtain ⟨q1, q2, z, hz, q3⟩ := q
  cases hz
  obtain ⟨e1, e2, e3⟩ := cmpL (by decide) (nd2 (by decide)) a q3
  subst e1
  have ho1 := q2.ow ho
  have hM1 := q2.mr hM
  obtain ⟨A1, hR1⟩ := q1
  refine V_istore (lc' := [_, _, _, _, _, _, _, _, _]) dL_law_1739 (by decide) rfl ?_
  refine V_aload_n dL_law_1741 rfl ?_
  refine V_aload_n dL_law_1742 rfl ?_
  refine V_iload dL_law_1743 rfl ?_
  refine V_iconst dL_law_1745 ?_
  refine V_iadd dL_law_1746 ?_
  refine V_sld (j := (i + 1).toNat) dL_law_1747 (by omega) (by omega) (by omega) ?_
  rw [← ew1]
  refine V_mC (h0 := h1) (as := [_]) dL_law_1748 c_RL_225 rfl (by decide) rfl (Nat.le_of_ble_eq_true rfl) hM1 FR.rf (T_X4_cancel g M w1 r1 hIM) (fun h hM hF => ?_)
  refine V_istore (lc' := [_, _, _, _, _, _, _, _, _]) dL_law_1751 (by decide) rfl ?_
  refine V_aload_n dL_law_1753 rfl ?_
  refine V_mC (as := []) dL_law_1754 c_RL_130 rfl (by decide) rfl (Nat.le_of_ble_eq_true rfl) hM hF (T_X4_thrown g (s_cancel M w1).2) (fun h hM hF => ?_)
  refine V_iload dL_law_1757 rfl ?_
  refine V_icmp_eqS (tgt := 1764) dL_law_1759 (by decide) ?_
  refine V_iload dL_law_1764 rfl ?_
  refine V_if_ne (tgt := 1781) dL_law_1766 (by decide) (by omega) (fun q => ?_) (fun q => ?_)
  · refine V_goto (tgt := 2119) dL_law_1781 (by decide) ?_
    refine V_wk (lc' := [_, _, _, _, _, _, xU, xU, xU]) ⟨Or.inr rfl, Or.inr rfl, Or.inr rfl, Or.inr rfl, Or.inr rfl, Or.inr rfl, Or.inl rfl, Or.inl rfl, Or.inl rfl, trivial⟩ ?_
    have kk := k_cancel (M := M) w1
    have g1 := hD.g1
    have g2 := a.1.g1
    exact hT h ⟨_, _, A1, N + 4, U + 200, a.1, hF.dr hR1, hM, hF.ow ho1, ⟨by have := kk.1; have := g1.2.2.2.1; have := g2.2.2.2.1; (try dsimp only at *); omega, by have := kk.2; have := g1.2.2.2.2; have := g2.2.2.2.2; (try dsimp only at *); omega⟩, by omega, by omega⟩
  · skip
    refine V_aload_n dL_law_1769 rfl ?_
    refine V_iconst dL_law_1770 ?_
    refine V_lald (j := 0) dL_law_1771 (hF.ow ho1).1 rfl (by rw [(hF.ow ho1).2.1]; decide) (by rw [(hF.ow ho1).2.1]; decide) ?_
    rw [show h_i h 39 0 = _ from ((hF.1 39 (Or.inr (by decide))).2.2.1 0).trans (e3 q), Int64.ofInt_toInt]
    refine V_iload dL_law_1772 rfl ?_
    refine V_i2lw dL_law_1774 ?_
    refine V_lcmp (z := 0) dL_law_1775 lcmp_eq ?_
    refine V_if_eq (tgt := 1781) dL_law_1776 (by decide) (by decide) (fun _ => ?_) (fun w => absurd rfl w)
    refine V_goto (tgt := 2119) dL_law_1781 (by decide) ?_
    refine V_wk (lc' := [_, _, _, _, _, _, xU, xU, xU]) ⟨Or.inr rfl, Or.inr rfl, Or.inr rfl, Or.inr rfl, Or.inr rfl, Or.inr rfl, Or.inl rfl, Or.inl rfl, Or.inl rfl, trivial⟩ ?_
    have kk := k_cancel (M := M) w1
    have g1 := hD.g1
    have g2 := a.1.g1
    exact hT h ⟨_, _, A1, N + 4, U + 200, a.1, hF.dr hR1, hM, hF.ow ho1, ⟨by have := kk.1; have := g1.2.2.2.1; have := g2.2.2.2.1; (try dsimp only at *); omega, by have := kk.2; have := g1.2.2.2.2; have := g2.2.2.2.2; (try dsimp only at *); omega⟩, by omega, by omega⟩
theorem LC_30 (g : GP) {h : AH} {i c : Int} (hT : ∀ h', LW h' (c + 1) → V g m_L_law 15 Q1 h' 2119 [xR 5, xR 8, xR 18, xR 39, xR 40, xI i, xU, xU, xU] []) (W : LW h c) (hi : 0 ≤ i ∧ i + 5 ≤ g_l g) (hg : g_l g ≤ 2560) (hc : 0 ≤ c ∧ c ≤ 511) : V g m_L_law 15 Q1 h 1880 [xR 5, xR 8, xR 18, xR 39, xR 40, xI i, xU, xU, xU] [] := by
  obtain ⟨D, M, A, N, U, hD, hR, hM, ho, ⟨h8, h9⟩, hN, hU⟩ := W
  have hI := hD.1.2.1
  have hIM := hD.2.1
  have hN' : N + 200 ≤ z_CC := by unfold z_CC; omega
  have hU' : U + 5000 ≤ z_CS := by unfold z_CS; omega
  have hE : ∀ k, 0 ≤ k → k < D 70 0 → iQ D (D 71 (40 * 0 + k)) := fun k a b => (hR.le (l := 0) (vL0 (by decide))).2 k a b
  obtain ⟨w1, ew1, r1⟩ : ∃ w : Int, w = (g_x g (i + 1).toNat).toInt ∧ -2147483648 ≤ w ∧ w ≤ 2147483647 := ⟨_, rfl, sc_r _⟩
  obtain ⟨w2, ew2, r2⟩ : ∃ w : Int, w = (g_x g (i + 2).toNat).toInt ∧ -2147483648 ≤ w ∧ w ≤ 2147483647 := ⟨_, rfl, sc_r _⟩
  have a := g_textOf hD w1 w2
  refine V_aload_n dL_law_1880 rfl ?_
  refine V_aload_n dL_law_1881 rfl ?_
  refine V_iload dL_law_1882 rfl ?_
  refine V_iconst dL_law_1884 ?_
  refine V_iadd dL_law_1885 ?_
  refine V_sld (j := (i + 1).toNat) dL_law_1886 (by omega) (by omega) (by omega) ?_
  rw [← ew1]
  refine V_aload_n dL_law_1887 rfl ?_
  refine V_iload dL_law_1888 rfl ?_
  refine V_iconst dL_law_1890 ?_
  refine V_iadd dL_law_1891 ?_
  refine V_sld (j := (i + 2).toNat) dL_law_1892 (by omega) (by omega) (by omega) ?_
  rw [← ew2]
  refine V_aload_n dL_law_1893 rfl ?_
  refine V_cH (as := [_, _, _, _]) dL_law_1894 c_RL_230 rfl (by decide) rfl (Nat.le_of_ble_eq_true rfl) (T_L_textOf g w1 w2 ho hR.kx a.hx (T_X3_textOf g N U D w1 w2 r1 r2 hI hN' hU' A h hR)) (fun E h1 q => ?_) (fun v h1 q => ?_)
  · obtain ⟨-, -, z, hz, -⟩ := q
    cases hz
  obtain ⟨q1, q2, z, hz, q3⟩ := q
  cases hz
  obtain ⟨e1, e2, e3⟩ := cmpL (by decide) (nd2 (by decide)) a q3
  subst e1
  have ho1 := q2.ow ho
  have hM1 := q2.mr hM
  obtain ⟨A1, hR1⟩ := q1
  refine V_istore (lc' := [_, _, _, _, _, _, _, _, _]) dL_law_1897 (by decide) rfl ?_
  refine V_aload_n dL_law_1899 rfl ?_
  refine V_aload_n dL_law_1900 rfl ?_
  refine V_iload dL_law_1901 rfl ?_
  refine V_iconst dL_law_1903 ?_
  refine V_iadd dL_law_1904 ?_
  refine V_sld (j := (i + 1).toNat) dL_law_1905 (by omega) (by omega) (by omega) ?_
  rw [← ew1]
  refine V_aload_n dL_law_1906 rfl ?_
  refine V_iload dL_law_1907 rfl ?_
  refine V_iconst dL_law_1909 ?_
  refine V_iadd dL_law_1910 ?_
  refine V_sld (j := (i + 2).toNat) dL_law_1911 (by omega) (by omega) (by omega) ?_
  rw [← ew2]
  refine V_mC (h0 := h1) (as := [_, _]) dL_law_1912 c_RL_232 rfl (by decide) rfl (Nat.le_of_ble_eq_true rfl) hM1 FR.rf (T_X4_textOf g M w1 w2 r1 r2 hIM) (fun h hM hF => ?_)
  refine V_istore (lc' := [_, _, _, _, _, _, _, _, _]) dL_law_1915 (by decide) rfl ?_
  refine V_aload_n dL_law_1917 rfl ?_
  refine V_mC (as := []) dL_law_1918 c_RL_130 rfl (by decide) rfl (Nat.le_of_ble_eq_true rfl) hM hF (T_X4_thrown g (s_textOf M w1 w2).2) (fun h hM hF => ?_)
  refine V_iload dL_law_1921 rfl ?_
  refine V_icmp_eqS (tgt := 1928) dL_law_1923 (by decide) ?_
  refine V_iload dL_law_1928 rfl ?_
  refine V_if_ne (tgt := 1945) dL_law_1930 (by decide) (by omega) (fun q => ?_) (fun q => ?_)
  · refine V_goto (tgt := 2119) dL_law_1945 (by decide) ?_
    refine V_wk (lc' := [_, _, _, _, _, _, xU, xU, xU]) ⟨Or.inr rfl, Or.inr rfl, Or.inr rfl, Or.inr rfl, Or.inr rfl, Or.inr rfl, Or.inl rfl, Or.inl rfl, Or.inl rfl, trivial⟩ ?_
    have kk := k_textOf (M := M) w1 w2
    have g1 := hD.g1
    have g2 := a.1.g1
    exact hT h ⟨_, _, A1, N + 4, U + 200, a.1, hF.dr hR1, hM, hF.ow ho1, ⟨by have := kk.1; have := g1.2.2.2.1; have := g2.2.2.2.1; (try dsimp only at *); omega, by have := kk.2; have := g1.2.2.2.2; have := g2.2.2.2.2; (try dsimp only at *); omega⟩, by omega, by omega⟩
  · skip
    refine V_aload_n dL_law_1933 rfl ?_
    refine V_iconst dL_law_1934 ?_
    refine V_lald (j := 0) dL_law_1935 (hF.ow ho1).1 rfl (by rw [(hF.ow ho1).2.1]; decide) (by rw [(hF.ow ho1).2.1]; decide) ?_
    rw [show h_i h 39 0 = _ from ((hF.1 39 (Or.inr (by decide))).2.2.1 0).trans (e3 q), Int64.ofInt_toInt]
    refine V_iload dL_law_1936 rfl ?_
    refine V_i2lw dL_law_1938 ?_
    refine V_lcmp (z := 0) dL_law_1939 lcmp_eq ?_
    refine V_if_eq (tgt := 1945) dL_law_1940 (by decide) (by decide) (fun _ => ?_) (fun w => absurd rfl w)
    refine V_goto (tgt := 2119) dL_law_1945 (by decide) ?_
    refine V_wk (lc' := [_, _, _, _, _, _, xU, xU, xU]) ⟨Or.inr rfl, Or.inr rfl, Or.inr rfl, Or.inr rfl, Or.inr rfl, Or.inr rfl, Or.inl rfl, Or.inl rfl, Or.inl rfl, trivial⟩ ?_
    have kk := k_textOf (M := M) w1 w2
    have g1 := hD.g1
    have g2 := a.1.g1
    exact hT h ⟨_, _, A1, N + 4, U + 200, a.1, hF.dr hR1, hM, hF.ow ho1, ⟨by have := kk.1; have := g1.2.2.2.1; have := g2.2.2.2.1; (try dsimp only at *); omega, by have := kk.2; have := g1.2.2.2.2; have := g2.2.2.2.2; (try dsimp only at *); omega⟩, by omega, by omega⟩

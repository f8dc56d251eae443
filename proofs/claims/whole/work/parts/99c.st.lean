/-- what the Statement gives of the start, a list -/
def fl_1 : List Cond := flatC (Jvm.Cond.and given_1 narrow_1)
theorem fl_at {w : Cond} (i : Nat) (h : fl_1[i]? = some w) : w ∈ fl_1 := List.mem_of_getElem? h
theorem ao_start {args : Array Value} {s : State} (h : (Cond.arrayOver (.object "java/lang/Object")).before args s = true) : ∃ cA, ArrOfT s cA (.object "java/lang/Object") ∧ va_RA s cA (.object "java/lang/Object") := by
  obtain ⟨comp, c, k, h1, h2, h3, h4, h5⟩ := Cond.arrayOver_spec h
  exact ⟨c, fun n z => ⟨(fun k h => by cases h), k, h3, comp, h4⟩, k, comp, h3, h4, h1, h5⟩
theorem sr_of {args : Array Value} {s : State} {own tx : String} {k : Nat} {C : String} (h1 : (Cond.stringRef own k tx).before args s = true) (h2 : (Cond.exactly (.string own k) C).before args s = true) : ∃ a, vk_R own k tx a s := by
  obtain ⟨a, c, cA, kA, q1, -⟩ := Cond.exactly_spec h2
  exact ⟨a, vk_R.of h1 q1⟩
theorem ka_start {args : Array Value} {s : State} (hts : ∀ w ∈ lw_tbl, w.before args s = true) : ∃ (D : va_G) (A : Nat → ClassId), va_K D vwCl [(A 0, .byte), (A 1, .char), (A 2, .int), (A 3, .boolean), (A 4, .object "java/lang/Object"), (A 5, .long), (A 6, .double)] s := by
  obtain ⟨c0, i0, k0⟩ := kn_0 hts
  obtain ⟨c1, i1, k1⟩ := kn_1 hts
  obtain ⟨c2, i2, k2⟩ := kn_2 hts
  obtain ⟨c3, i3, k3⟩ := kn_3 hts
  obtain ⟨c4, i4, k4⟩ := kn_4 hts
  obtain ⟨c5, i5, k5⟩ := kn_5 hts
  obtain ⟨c6, i6, k6⟩ := kn_6 hts
  obtain ⟨c7, i7, k7⟩ := kn_7 hts
  obtain ⟨c8, i8, k8⟩ := kn_8 hts
  obtain ⟨c9, i9, k9⟩ := kn_9 hts
  obtain ⟨a0, x0, y0⟩ := ar_start (ty := .byte) (hts _ (tb_at 100 (by decide +kernel))) rfl
  obtain ⟨a1, x1, y1⟩ := ar_start (ty := .char) (hts _ (tb_at 1313 (by decide +kernel))) rfl
  obtain ⟨a2, x2, y2⟩ := ar_start (ty := .int) (hts _ (tb_at 67 (by decide +kernel))) rfl
  obtain ⟨a3, x3, y3⟩ := ar_start (ty := .boolean) (hts _ (tb_at 431 (by decide +kernel))) rfl
  obtain ⟨a4, x4, y4⟩ := ao_start (hts _ (tb_at 483 (by decide +kernel)))
  obtain ⟨a5, x5, y5⟩ := ar_start (ty := .long) (hts _ (tb_at 1572 (by decide +kernel))) rfl
  obtain ⟨a6, x6, y6⟩ := ar_start (ty := .double) (hts _ (tb_at 1573 (by decide +kernel))) rfl
  refine ⟨((fun k => if k = 0 then c0 else if k = 1 then c1 else if k = 2 then c2 else if k = 3 then c3 else if k = 4 then c4 else if k = 5 then c5 else if k = 6 then c6 else if k = 7 then c7 else if k = 8 then c8 else c9), (fun k => if k = 0 then i0 else if k = 1 then i1 else if k = 2 then i2 else if k = 3 then i3 else if k = 4 then i4 else if k = 5 then i5 else if k = 6 then i6 else if k = 7 then i7 else if k = 8 then i8 else i9)), (fun k => if k = 0 then a0 else if k = 1 then a1 else if k = 2 then a2 else if k = 3 then a3 else if k = 4 then a4 else if k = 5 then a5 else a6), fun c q hq => ?_, fun k q hk => ?_⟩
  · match c, hq with
    | 0, hq => cases hq; exact k0
    | 1, hq => cases hq; exact k1
    | 2, hq => cases hq; exact k2
    | 3, hq => cases hq; exact k3
    | 4, hq => cases hq; exact k4
    | 5, hq => cases hq; exact k5
    | 6, hq => cases hq; exact k6
    | 7, hq => cases hq; exact k7
    | 8, hq => cases hq; exact k8
    | 9, hq => cases hq; exact k9
    | n + 10, hq => cases hq
  · match k, hk with
    | 0, hk => cases hk; exact ⟨x0, y0⟩
    | 1, hk => cases hk; exact ⟨x1, y1⟩
    | 2, hk => cases hk; exact ⟨x2, y2⟩
    | 3, hk => cases hk; exact ⟨x3, y3⟩
    | 4, hk => cases hk; exact ⟨x4, y4⟩
    | 5, hk => cases hk; exact ⟨x5, y5⟩
    | 6, hk => cases hk; exact ⟨x6, y6⟩
    | n + 7, hk => cases hk
theorem zs_start {b : Nat} {s : State} (hts : ∀ w ∈ lw_tbl, w.before #[Value.ref b] s = true) (hf : ∀ w ∈ fl_1, w.before #[Value.ref b] s = true) : ∀ q ∈ z_str, ∃ a, vk_R RX3 q.1 q.2 a s := List.forall_mem_cons.mpr ⟨sr_of (hts _ (tb_at 270 (by decide +kernel))) (hf _ (fl_at 310 (by decide +kernel))), List.forall_mem_cons.mpr ⟨sr_of (hts _ (tb_at 324 (by decide +kernel))) (hf _ (fl_at 342 (by decide +kernel))), List.forall_mem_cons.mpr ⟨sr_of (hts _ (tb_at 340 (by decide +kernel))) (hf _ (fl_at 358 (by decide +kernel))), List.forall_mem_cons.mpr ⟨sr_of (hts _ (tb_at 355 (by decide +kernel))) (hf _ (fl_at 377 (by decide +kernel))), List.forall_mem_cons.mpr ⟨sr_of (hts _ (tb_at 365 (by decide +kernel))) (hf _ (fl_at 406 (by decide +kernel))), List.forall_mem_cons.mpr ⟨sr_of (hts _ (tb_at 372 (by decide +kernel))) (hf _ (fl_at 426 (by decide +kernel))), List.forall_mem_cons.mpr ⟨sr_of (hts _ (tb_at 575 (by decide +kernel))) (hf _ (fl_at 452 (by decide +kernel))), List.forall_mem_cons.mpr ⟨sr_of (hts _ (tb_at 579 (by decide +kernel))) (hf _ (fl_at 472 (by decide +kernel))), List.forall_mem_cons.mpr ⟨sr_of (hts _ (tb_at 877 (by decide +kernel))) (hf _ (fl_at 537 (by decide +kernel))), List.forall_mem_cons.mpr ⟨sr_of (hts _ (tb_at 885 (by decide +kernel))) (hf _ (fl_at 560 (by decide +kernel))), List.forall_mem_cons.mpr ⟨sr_of (hts _ (tb_at 886 (by decide +kernel))) (hf _ (fl_at 576 (by decide +kernel))), List.forall_mem_cons.mpr ⟨sr_of (hts _ (tb_at 887 (by decide +kernel))) (hf _ (fl_at 592 (by decide +kernel))), List.forall_mem_cons.mpr ⟨sr_of (hts _ (tb_at 888 (by decide +kernel))) (hf _ (fl_at 622 (by decide +kernel))), List.forall_mem_cons.mpr ⟨sr_of (hts _ (tb_at 926 (by decide +kernel))) (hf _ (fl_at 644 (by decide +kernel))), List.forall_mem_cons.mpr ⟨sr_of (hts _ (tb_at 927 (by decide +kernel))) (hf _ (fl_at 660 (by decide +kernel))), List.forall_mem_cons.mpr ⟨sr_of (hts _ (tb_at 966 (by decide +kernel))) (hf _ (fl_at 683 (by decide +kernel))), List.forall_mem_cons.mpr ⟨sr_of (hts _ (tb_at 967 (by decide +kernel))) (hf _ (fl_at 711 (by decide +kernel))), List.forall_mem_cons.mpr ⟨sr_of (hts _ (tb_at 979 (by decide +kernel))) (hf _ (fl_at 736 (by decide +kernel))), List.forall_mem_cons.mpr ⟨sr_of (hts _ (tb_at 980 (by decide +kernel))) (hf _ (fl_at 763 (by decide +kernel))), List.forall_mem_cons.mpr ⟨sr_of (hts _ (tb_at 1019 (by decide +kernel))) (hf _ (fl_at 786 (by decide +kernel))), List.forall_mem_cons.mpr ⟨sr_of (hts _ (tb_at 1031 (by decide +kernel))) (hf _ (fl_at 812 (by decide +kernel))), List.forall_mem_cons.mpr ⟨sr_of (hts _ (tb_at 1053 (by decide +kernel))) (hf _ (fl_at 829 (by decide +kernel))), List.forall_mem_cons.mpr ⟨sr_of (hts _ (tb_at 1058 (by decide +kernel))) (hf _ (fl_at 854 (by decide +kernel))), List.forall_mem_cons.mpr ⟨sr_of (hts _ (tb_at 1066 (by decide +kernel))) (hf _ (fl_at 872 (by decide +kernel))), List.forall_mem_cons.mpr ⟨sr_of (hts _ (tb_at 1074 (by decide +kernel))) (hf _ (fl_at 899 (by decide +kernel))), List.forall_mem_cons.mpr ⟨sr_of (hts _ (tb_at 1079 (by decide +kernel))) (hf _ (fl_at 927 (by decide +kernel))), List.forall_mem_cons.mpr ⟨sr_of (hts _ (tb_at 1169 (by decide +kernel))) (hf _ (fl_at 1051 (by decide +kernel))), List.forall_mem_cons.mpr ⟨sr_of (hts _ (tb_at 1202 (by decide +kernel))) (hf _ (fl_at 1069 (by decide +kernel))), List.forall_mem_cons.mpr ⟨sr_of (hts _ (tb_at 1211 (by decide +kernel))) (hf _ (fl_at 1093 (by decide +kernel))), fun _ h => absurd h List.not_mem_nil⟩⟩⟩⟩⟩⟩⟩⟩⟩⟩⟩⟩⟩⟩⟩⟩⟩⟩⟩⟩⟩⟩⟩⟩⟩⟩⟩⟩⟩
theorem zc_start {b : Nat} {s : State} (hts : ∀ w ∈ lw_tbl, w.before #[Value.ref b] s = true) (hf : ∀ w ∈ fl_1, w.before #[Value.ref b] s = true) : ∀ q ∈ z_cast, va_Nw (.castable q.1 q.2) s := List.forall_mem_cons.mpr ⟨va_Nw.of rfl (hts _ (tb_at 226 (by decide +kernel))), List.forall_mem_cons.mpr ⟨va_Nw.of rfl (hts _ (tb_at 317 (by decide +kernel))), List.forall_mem_cons.mpr ⟨va_Nw.of rfl (hts _ (tb_at 333 (by decide +kernel))), List.forall_mem_cons.mpr ⟨va_Nw.of rfl (hts _ (tb_at 358 (by decide +kernel))), List.forall_mem_cons.mpr ⟨va_Nw.of rfl (hts _ (tb_at 568 (by decide +kernel))), List.forall_mem_cons.mpr ⟨va_Nw.of rfl (hts _ (tb_at 1195 (by decide +kernel))), List.forall_mem_cons.mpr ⟨va_Nw.of rfl (hts _ (tb_at 1589 (by decide +kernel))), List.forall_mem_cons.mpr ⟨va_Nw.of rfl (hts _ (tb_at 1592 (by decide +kernel))), List.forall_mem_cons.mpr ⟨va_Nw.of rfl (hts _ (tb_at 1596 (by decide +kernel))), List.forall_mem_cons.mpr ⟨va_Nw.of rfl (hts _ (tb_at 1601 (by decide +kernel))), List.forall_mem_cons.mpr ⟨va_Nw.of rfl (hts _ (tb_at 1602 (by decide +kernel))), List.forall_mem_cons.mpr ⟨va_Nw.of rfl (hts _ (tb_at 382 (by decide +kernel))), fun _ h => absurd h List.not_mem_nil⟩⟩⟩⟩⟩⟩⟩⟩⟩⟩⟩⟩
theorem zn_start {b : Nat} {s : State} (hts : ∀ w ∈ lw_tbl, w.before #[Value.ref b] s = true) (hf : ∀ w ∈ fl_1, w.before #[Value.ref b] s = true) : ∀ q ∈ z_ncast, va_Nc q.1 q.2 s := List.forall_mem_cons.mpr ⟨va_Nc.of (hf _ (fl_at 225 (by decide +kernel))), List.forall_mem_cons.mpr ⟨va_Nc.of (hf _ (fl_at 226 (by decide +kernel))), List.forall_mem_cons.mpr ⟨va_Nc.of (hf _ (fl_at 228 (by decide +kernel))), List.forall_mem_cons.mpr ⟨va_Nc.of (hf _ (fl_at 230 (by decide +kernel))), List.forall_mem_cons.mpr ⟨va_Nc.of (hf _ (fl_at 235 (by decide +kernel))), List.forall_mem_cons.mpr ⟨va_Nc.of (hf _ (fl_at 240 (by decide +kernel))), List.forall_mem_cons.mpr ⟨va_Nc.of (hf _ (fl_at 241 (by decide +kernel))), List.forall_mem_cons.mpr ⟨va_Nc.of (hf _ (fl_at 243 (by decide +kernel))), List.forall_mem_cons.mpr ⟨va_Nc.of (hf _ (fl_at 245 (by decide +kernel))), List.forall_mem_cons.mpr ⟨va_Nc.of (hf _ (fl_at 250 (by decide +kernel))), List.forall_mem_cons.mpr ⟨va_Nc.of (hf _ (fl_at 255 (by decide +kernel))), List.forall_mem_cons.mpr ⟨va_Nc.of (hf _ (fl_at 256 (by decide +kernel))), List.forall_mem_cons.mpr ⟨va_Nc.of (hf _ (fl_at 258 (by decide +kernel))), List.forall_mem_cons.mpr ⟨va_Nc.of (hf _ (fl_at 260 (by decide +kernel))), List.forall_mem_cons.mpr ⟨va_Nc.of (hf _ (fl_at 265 (by decide +kernel))), List.forall_mem_cons.mpr ⟨va_Nc.of (hf _ (fl_at 270 (by decide +kernel))), List.forall_mem_cons.mpr ⟨va_Nc.of (hf _ (fl_at 271 (by decide +kernel))), List.forall_mem_cons.mpr ⟨va_Nc.of (hf _ (fl_at 272 (by decide +kernel))), List.forall_mem_cons.mpr ⟨va_Nc.of (hf _ (fl_at 274 (by decide +kernel))), List.forall_mem_cons.mpr ⟨va_Nc.of (hf _ (fl_at 278 (by decide +kernel))), List.forall_mem_cons.mpr ⟨va_Nc.of (hf _ (fl_at 283 (by decide +kernel))), List.forall_mem_cons.mpr ⟨va_Nc.of (hf _ (fl_at 284 (by decide +kernel))), List.forall_mem_cons.mpr ⟨va_Nc.of (hf _ (fl_at 285 (by decide +kernel))), List.forall_mem_cons.mpr ⟨va_Nc.of (hf _ (fl_at 288 (by decide +kernel))), List.forall_mem_cons.mpr ⟨va_Nc.of (hf _ (fl_at 293 (by decide +kernel))), List.forall_mem_cons.mpr ⟨va_Nc.of (hf _ (fl_at 298 (by decide +kernel))), List.forall_mem_cons.mpr ⟨va_Nc.of (hf _ (fl_at 299 (by decide +kernel))), List.forall_mem_cons.mpr ⟨va_Nc.of (hf _ (fl_at 300 (by decide +kernel))), List.forall_mem_cons.mpr ⟨va_Nc.of (hf _ (fl_at 302 (by decide +kernel))), List.forall_mem_cons.mpr ⟨va_Nc.of (hf _ (fl_at 304 (by decide +kernel))), fun _ h => absurd h List.not_mem_nil⟩⟩⟩⟩⟩⟩⟩⟩⟩⟩⟩⟩⟩⟩⟩⟩⟩⟩⟩⟩⟩⟩⟩⟩⟩⟩⟩⟩⟩⟩
theorem zd_start {b : Nat} {s : State} (hts : ∀ w ∈ lw_tbl, w.before #[Value.ref b] s = true) (hf : ∀ w ∈ fl_1, w.before #[Value.ref b] s = true) : ∀ x ∈ z_decl, va_Nw (.declares x) s := List.forall_mem_cons.mpr ⟨va_Nw.of rfl (hts _ (tb_at 1608 (by decide +kernel))), List.forall_mem_cons.mpr ⟨va_Nw.of rfl (hts _ (tb_at 228 (by decide +kernel))), List.forall_mem_cons.mpr ⟨va_Nw.of rfl (hts _ (tb_at 230 (by decide +kernel))), List.forall_mem_cons.mpr ⟨va_Nw.of rfl (hts _ (tb_at 232 (by decide +kernel))), fun _ h => absurd h List.not_mem_nil⟩⟩⟩⟩
theorem dg_DigitOnes : ∀ j, j < 100 → fl_1[18 + j]? = some (Cond.eq (.elem (.static "java/lang/Integer" "DigitOnes" "[B") (.int (Int32.ofNat j))) (.int (Int32.ofInt (48 + (j : Int) % 10)))) := by decide +kernel
theorem dg_DigitTens : ∀ j, j < 100 → fl_1[121 + j]? = some (Cond.eq (.elem (.static "java/lang/Integer" "DigitTens" "[B") (.int (Int32.ofNat j))) (.int (Int32.ofInt (48 + (j : Int) / 10)))) := by decide +kernel
theorem sf_start {L : Nat} {xs : Nat → Int32} {b : Nat} {s : State} (hts : ∀ w ∈ lw_tbl, w.before #[Value.ref b] s = true) (hf : ∀ w ∈ fl_1, w.before #[Value.ref b] s = true) (hX : va_X b L xs s s.heap) (hb : b < s.heap.size) (D : va_G) (A : Nat → ClassId) : ∃ S : Nat → Nat, S 5 = b ∧ SF (D, A, s.heap.size, S, L, xs) s := by
  have hA : ∀ a : Nat, a < s.heap.size → ¬ (s.heap.size ≤ a) := fun a h => Nat.not_le.mpr h
  have hA : ∀ a : Nat, a < s.heap.size → ¬ (fun q : Nat => s.heap.size ≤ q) a := hA
  obtain ⟨t1, e1, T1⟩ := va_Tof (N := 0) (f := fun _ => .null) (by decide) (hf _ (fl_at 5 (by decide +kernel))) (va_eqt (hf _ (fl_at 7 (by decide +kernel)))) (fun j hj => absurd hj (Nat.not_lt_zero j)) hA
  have Z1 := va_Zof (hts _ (tb_at 54 (by decide +kernel))) (hts _ (tb_at 4 (by decide +kernel))) e1 hA
  obtain ⟨t2, e2, T2⟩ := va_Tof (N := 100) (f := fun j => .int (Int32.ofInt (48 + (j : Int) % 10))) (by decide) (hf _ (fl_at 16 (by decide +kernel))) (va_eqt (hf _ (fl_at 17 (by decide +kernel)))) (fun j hj => va_eqt (hf _ (fl_at _ (dg_DigitOnes j hj)))) hA
  have Z2 := va_Zof (hts _ (tb_at 776 (by decide +kernel))) (hts _ (tb_at 28 (by decide +kernel))) e2 hA
  obtain ⟨t3, e3, T3⟩ := va_Tof (N := 100) (f := fun j => .int (Int32.ofInt (48 + (j : Int) / 10))) (by decide) (hf _ (fl_at 119 (by decide +kernel))) (va_eqt (hf _ (fl_at 120 (by decide +kernel)))) (fun j hj => va_eqt (hf _ (fl_at _ (dg_DigitTens j hj)))) hA
  have Z3 := va_Zof (hts _ (tb_at 778 (by decide +kernel))) (hts _ (tb_at 28 (by decide +kernel))) e3 hA
  obtain ⟨t4, M4⟩ := va_Mi.of (hf _ (fl_at 309 (by decide +kernel)))
  obtain ⟨t6, Z6⟩ : ∃ t6 : Nat, va_Z "jdk/internal/util/Preconditions" "SIOOBE_FORMATTER" "Ljava/util/function/BiFunction;" .null (fun q => s.heap.size ≤ q) s s.heap ∨ va_Z "jdk/internal/util/Preconditions" "SIOOBE_FORMATTER" "Ljava/util/function/BiFunction;" (.ref t6) (fun q => s.heap.size ≤ q) s s.heap := by
    rcases va_Zqof (A := fun q : Nat => s.heap.size ≤ q) (hts _ (tb_at 706 (by decide +kernel))) (hts _ (tb_at 22 (by decide +kernel))) (hf _ (fl_at 11 (by decide +kernel))) hA with h | ⟨t, h⟩
    · exact ⟨0, Or.inl h⟩
    · exact ⟨t, Or.inr h⟩
  have ZC := va_Zof (hts _ (tb_at 78 (by decide +kernel))) (hts _ (tb_at 6 (by decide +kernel))) (va_eqi (hf _ (fl_at 8 (by decide +kernel)))) hA
  have ZU := vx_Zqof (C := Bundle.tN) (n := "UNASSIGNED_STACK") (d := Bundle.steD) (A := fun q : Nat => s.heap.size ≤ q) (hts _ (tb_at 251 (by decide +kernel))) (hts _ (tb_at 10 (by decide +kernel))) (hf _ (fl_at 9 (by decide +kernel))) hA
  have ZS := vx_Zqof (C := Bundle.tN) (n := "SUPPRESSED_SENTINEL") (d := Bundle.listD) (A := fun q : Nat => s.heap.size ≤ q) (hts _ (tb_at 253 (by decide +kernel))) (hts _ (tb_at 10 (by decide +kernel))) (hf _ (fl_at 10 (by decide +kernel))) hA
  have l1 : t1 < s.heap.size := by
    obtain ⟨cell, q1, -⟩ := T1
    exact (Array.getElem?_eq_some_iff.mp q1).1
  exact ⟨fun k => if k = 1 then t1 else if k = 2 then t2 else if k = 3 then t3 else if k = 4 then t4 else if k = 5 then b else t6, rfl, ⟨Z1, T1⟩, ZC, M4, ⟨ZU, ZS⟩, zs_start hts hf, ⟨hX, hb, l1, ⟨Z2, T2⟩, ⟨Z3, T3⟩, Z6⟩, zc_start hts hf, zn_start hts hf, va_AO.of (hts _ (tb_at 483 (by decide +kernel))), zd_start hts hf⟩

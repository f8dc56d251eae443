
section V3
variable {g : GP} {m : MT} {d : Nat} {Q : Res → AH → Prop} {h : AH} {pc : Nat} {lc lc' st : List AV}
/-- the counts at a place: as near as the heap itself tells -/
theorem Cx.tight {p : Program} {lch : Launch} {e : Env} {R : Room} {s : State} {mi : MethodId} {args : Array Value} {below : List Frame} {meth : Method} {c : Code} {T : State} {locs : List Loc} {cells slots : Nat} (C : Cx g m d p lch R s mi args meth c) (P : Rp g h T.heap) (X : Stand p lch e R s mi args below meth c T locs cells slots)
    {a b : Nat} (h1 : h_n h + a ≤ z_CC) (h2 : h_u h + b ≤ z_CS) : Stand p lch e R s mi args below meth c T locs (R.cells - a) (R.slots - b) ∧ (R.cells - a) + a = R.cells ∧ (R.slots - b) + b = R.slots := by
  have hb := C.2.2.2.2.2.2.2.2.2.2.2.1
  obtain ⟨-, -, r3, r4⟩ := C.2.2.2.2.2.2.2.2.2.2.1
  obtain ⟨p1, p2, -, p4, -, -⟩ := P
  have hs := st_sum X hb
  have hsz : s.heap.size ≤ T.heap.size := X.same.2.1
  refine ⟨st_tight X ?_ ?_, ?_, ?_⟩ <;> omega
theorem W_tight {p : Program} {lch : Launch} {e : Env} {R : Room} {s : State} {mi : MethodId} {args : Array Value} {below : List Frame} {meth : Method} {c : Code} {H : Heap} {locs : List Loc} {cells slots : Nat} {Q9 : State → Prop} {fr : JFrame} (C : Cx g m d p lch R s mi args meth c) (P : Rp g h H)
    {a b : Nat} (h1 : h_n h + a ≤ z_CC) (h2 : h_u h + b ≤ z_CS) (k : (R.cells - a) + a = R.cells → (R.slots - b) + b = R.slots → W p lch e R s mi args below meth c H locs (R.cells - a) (R.slots - b) Q9 fr) : W p lch e R s mi args below meth c H locs cells slots Q9 fr := by
  intro T hT X
  subst hT
  obtain ⟨X2, e1, e2⟩ := C.tight P X h1 h2
  exact k e1 e2 T rfl X2
theorem W_tight0 {p : Program} {lch : Launch} {e : Env} {R : Room} {s : State} {mi : MethodId} {args : Array Value} {below : List Frame} {meth : Method} {c : Code} {H : Heap} {locs : List Loc} {cells slots : Nat} {Q9 : State → Prop} {fr : JFrame} (C : Cx g m d p lch R s mi args meth c) (P : Rp g h H)
    (k : W p lch e R s mi args below meth c H locs R.cells R.slots Q9 fr) : W p lch e R s mi args below meth c H locs cells slots Q9 fr := W_tight (a := 0) (b := 0) C P P.2.2.2.2.1 P.2.2.2.2.2 fun _ _ => k
/-- an object made -/
theorem V_new {idx ci N : Nat} (hd : decode m.2.1 pc = .ok (.new idx, 3)) (hf : Nw m.1.cls idx ci N) (hN : N = c_N ci) (h1 : h_n h + 1 ≤ z_CC) (h2 : h_u h + N ≤ z_CS) (k : V g m d Q (h_mk h (ci + 1) 0 N) (pc + 3) lc (xR (h_n h) :: st)) : V g m d Q h pc lc st := by
  intro p lch e R s mi args below meth c H locs cells slots ls C P S L
  obtain ⟨C0, T0, tf, ⟨hc, hN', hci, hin, hty, hnm⟩, hl, hins, hini, hdef⟩ := hf
  have hts := C.2.2.2.2.1
  have hKn := C.2.2.2.2.2.1.1 ci _ hc
  obtain ⟨cI, kI, f1, f2, f3, f4, f5, f6⟩ := Cond.instantiable_spec (hts _ hins)
  refine W_tight C P h1 h2 fun e1 e2 => ?_
  refine W.newcK C.1 C.2.1 C.2.2.2.1 (hts _ hl) (hts _ hins) (hts _ hini) rfl hd (by omega) (by omega) hKn.2.1 rfl fun H1 kC hkC c1 z1 o1 => ?_
  have hbn := u_born tf hts hin hKn hkC c1 hty
  have e9 : rv g (h_n h) = .ref H.size := by
    have e7 := P.1
    have e6 := P.2.1
    have e8 : g_b g + (h_n h - 8) = H.size := by omega
    rw [rv_pos (by omega), ga_own (by omega), e8]
  have hcI : cI = (g_D g).1 ci := Option.some.inj (f1.symm.trans hKn.2.1)
  have kk := k p lch e R s mi args below meth c H1 locs (R.cells - 1 + 1) (R.slots - N + N) ls C ?_ ⟨Nat.le_trans S.1 (by omega), fun q q1 q2 => (o1 q (Nat.lt_of_lt_of_le q1 S.1)).trans (S.2.1 q q1 q2), S.2.2⟩ L
  · simp only [List.map_cons] at kk
    change W _ _ _ _ _ _ _ _ _ _ _ _ _ _ _ (F0 _ _ _ (rv g (h_n h) :: _)) at kk
    rw [e9] at kk
    exact kk
  · refine P.mk c1 z1 o1 (N := N) ?_ (fun _ => Or.inl ?_) (fun q hq => ⟨u1_n hq, u1_n hq, fun j => if_neg hq, fun j => if_neg hq⟩) rfl rfl h1 h2
    · subst hcI
      have : kI = kC := Option.some.inj (f2.symm.trans hkC)
      subst this
      simp [blank, f6]
    · have ek : h_k (h_mk h (ci + 1) 0 N) (h_n h) = ci + 1 := u1_s
      rw [ek]
      obtain ⟨cell, g1, g2, g3, g4⟩ := hbn
      have : cell = blank ((g_D g).1 ci) kC := Option.some.inj (g1.symm.trans c1)
      subst this
      refine ⟨by omega, g2, g3, fun j hj => ?_⟩
      rw [show ci + 1 - 1 = ci by omega] at hj ⊢
      rw [g4 j (by omega)]
      show some (defaultValue (tf j)) = _
      rw [hdef j (by omega)]
      have ei : h_i (h_mk h (ci + 1) 0 N) (h_n h) j = 0 := if_pos rfl
      have er : h_r (h_mk h (ci + 1) 0 N) (h_n h) j = 0 := if_pos rfl
      rw [ei, er]
      cases c_R ci j <;> rfl

theorem V_newa0 {n : Nat} {z : Int} (hd : decode m.2.1 pc = .ok (.newarray .byte, 2)) (hw : Cond.arrayClass .byte ∈ GW) (hz : z = (n : Int)) (hn : n ≤ 1000000) (h1 : h_n h + 1 ≤ z_CC) (h2 : h_u h + n ≤ z_CS) (k : V g m d Q (h_mk h 20 n n) (pc + 2) lc (xR (h_n h) :: st)) : V g m d Q h pc lc (xI z :: st) := by
  intro p lch e R s mi args below meth c H locs cells slots ls C P S L
  subst hz
  have hts := C.2.2.2.2.1
  have hK := k_ty C.2.2.2.2.2.1 (t := 0) (by omega)
  refine W_tight C P h1 h2 fun e1 e2 => ?_
  refine va_newaK C.1 C.2.1 (atype := .byte) (hts _ hw) rfl hd (n := Int32.ofInt (n : Int)) (N := n) rfl (by rw [i32_0, i32_lt (by omega) (by omega)]; omega) (i32_n (by omega)) (by show n * 1 ≤ _; omega) (by omega) (by omega) rfl fun H1 cA c1 z1 o1 hAr hNm => ?_
  have hcA : cA = g_A g 0 := Option.some.inj (hNm.symm.trans hK.2)
  subst hcA
  have e9 : rv g (h_n h) = .ref H.size := by
    have e7 := P.1
    have e6 := P.2.1
    have e8 : g_b g + (h_n h - 8) = H.size := by omega
    rw [rv_pos (by omega), ga_own (by omega), e8]
  have kk := k p lch e R s mi args below meth c H1 locs (R.cells - 1 + 1) (R.slots - n + n) ls C ?_ ⟨Nat.le_trans S.1 (by omega), fun q q1 q2 => (o1 q (Nat.lt_of_lt_of_le q1 S.1)).trans (S.2.1 q q1 q2), S.2.2⟩ L
  · simp only [List.map_cons] at kk
    change W _ _ _ _ _ _ _ _ _ _ _ _ _ _ _ (F0 _ _ _ (rv g (h_n h) :: _)) at kk
    rw [e9] at kk
    exact kk
  · refine P.mk c1 z1 o1 (N := n) (by rw [arrV_size]; omega) (fun _ => Or.inr ?_) (fun q hq => ⟨u1_n hq, u1_n hq, fun j => if_neg hq, fun j => if_neg hq⟩) rfl rfl h1 h2
    have ek : h_k (h_mk h 20 n n) (h_n h) = 20 := u1_s
    have el : h_l (h_mk h 20 n n) (h_n h) = n := u1_s
    have ei : ∀ j, h_i (h_mk h 20 n n) (h_n h) j = 0 := fun j => if_pos rfl
    have er : ∀ j, h_r (h_mk h 20 n n) (h_n h) j = 0 := fun j => if_pos rfl
    refine ⟨by omega, by omega, ?_⟩
    simp only [ek, el, ei, er]
    rfl
theorem V_newa1 {n : Nat} {z : Int} (hd : decode m.2.1 pc = .ok (.newarray .char, 2)) (hw : Cond.arrayClass .char ∈ GW) (hz : z = (n : Int)) (hn : n ≤ 1000000) (h1 : h_n h + 1 ≤ z_CC) (h2 : h_u h + n ≤ z_CS) (k : V g m d Q (h_mk h 21 n n) (pc + 2) lc (xR (h_n h) :: st)) : V g m d Q h pc lc (xI z :: st) := by
  intro p lch e R s mi args below meth c H locs cells slots ls C P S L
  subst hz
  have hts := C.2.2.2.2.1
  have hK := k_ty C.2.2.2.2.2.1 (t := 1) (by omega)
  refine W_tight C P h1 h2 fun e1 e2 => ?_
  refine va_newaK C.1 C.2.1 (atype := .char) (hts _ hw) rfl hd (n := Int32.ofInt (n : Int)) (N := n) rfl (by rw [i32_0, i32_lt (by omega) (by omega)]; omega) (i32_n (by omega)) (by show n * 2 ≤ _; omega) (by omega) (by omega) rfl fun H1 cA c1 z1 o1 hAr hNm => ?_
  have hcA : cA = g_A g 1 := Option.some.inj (hNm.symm.trans hK.2)
  subst hcA
  have e9 : rv g (h_n h) = .ref H.size := by
    have e7 := P.1
    have e6 := P.2.1
    have e8 : g_b g + (h_n h - 8) = H.size := by omega
    rw [rv_pos (by omega), ga_own (by omega), e8]
  have kk := k p lch e R s mi args below meth c H1 locs (R.cells - 1 + 1) (R.slots - n + n) ls C ?_ ⟨Nat.le_trans S.1 (by omega), fun q q1 q2 => (o1 q (Nat.lt_of_lt_of_le q1 S.1)).trans (S.2.1 q q1 q2), S.2.2⟩ L
  · simp only [List.map_cons] at kk
    change W _ _ _ _ _ _ _ _ _ _ _ _ _ _ _ (F0 _ _ _ (rv g (h_n h) :: _)) at kk
    rw [e9] at kk
    exact kk
  · refine P.mk c1 z1 o1 (N := n) (by rw [arrV_size]; omega) (fun _ => Or.inr ?_) (fun q hq => ⟨u1_n hq, u1_n hq, fun j => if_neg hq, fun j => if_neg hq⟩) rfl rfl h1 h2
    have ek : h_k (h_mk h 21 n n) (h_n h) = 21 := u1_s
    have el : h_l (h_mk h 21 n n) (h_n h) = n := u1_s
    have ei : ∀ j, h_i (h_mk h 21 n n) (h_n h) j = 0 := fun j => if_pos rfl
    have er : ∀ j, h_r (h_mk h 21 n n) (h_n h) j = 0 := fun j => if_pos rfl
    refine ⟨by omega, by omega, ?_⟩
    simp only [ek, el, ei, er]
    rfl
theorem V_newa2 {n : Nat} {z : Int} (hd : decode m.2.1 pc = .ok (.newarray .int, 2)) (hw : Cond.arrayClass .int ∈ GW) (hz : z = (n : Int)) (hn : n ≤ 1000000) (h1 : h_n h + 1 ≤ z_CC) (h2 : h_u h + n ≤ z_CS) (k : V g m d Q (h_mk h 22 n n) (pc + 2) lc (xR (h_n h) :: st)) : V g m d Q h pc lc (xI z :: st) := by
  intro p lch e R s mi args below meth c H locs cells slots ls C P S L
  subst hz
  have hts := C.2.2.2.2.1
  have hK := k_ty C.2.2.2.2.2.1 (t := 2) (by omega)
  refine W_tight C P h1 h2 fun e1 e2 => ?_
  refine va_newaK C.1 C.2.1 (atype := .int) (hts _ hw) rfl hd (n := Int32.ofInt (n : Int)) (N := n) rfl (by rw [i32_0, i32_lt (by omega) (by omega)]; omega) (i32_n (by omega)) (by show n * 4 ≤ _; omega) (by omega) (by omega) rfl fun H1 cA c1 z1 o1 hAr hNm => ?_
  have hcA : cA = g_A g 2 := Option.some.inj (hNm.symm.trans hK.2)
  subst hcA
  have e9 : rv g (h_n h) = .ref H.size := by
    have e7 := P.1
    have e6 := P.2.1
    have e8 : g_b g + (h_n h - 8) = H.size := by omega
    rw [rv_pos (by omega), ga_own (by omega), e8]
  have kk := k p lch e R s mi args below meth c H1 locs (R.cells - 1 + 1) (R.slots - n + n) ls C ?_ ⟨Nat.le_trans S.1 (by omega), fun q q1 q2 => (o1 q (Nat.lt_of_lt_of_le q1 S.1)).trans (S.2.1 q q1 q2), S.2.2⟩ L
  · simp only [List.map_cons] at kk
    change W _ _ _ _ _ _ _ _ _ _ _ _ _ _ _ (F0 _ _ _ (rv g (h_n h) :: _)) at kk
    rw [e9] at kk
    exact kk
  · refine P.mk c1 z1 o1 (N := n) (by rw [arrV_size]; omega) (fun _ => Or.inr ?_) (fun q hq => ⟨u1_n hq, u1_n hq, fun j => if_neg hq, fun j => if_neg hq⟩) rfl rfl h1 h2
    have ek : h_k (h_mk h 22 n n) (h_n h) = 22 := u1_s
    have el : h_l (h_mk h 22 n n) (h_n h) = n := u1_s
    have ei : ∀ j, h_i (h_mk h 22 n n) (h_n h) j = 0 := fun j => if_pos rfl
    have er : ∀ j, h_r (h_mk h 22 n n) (h_n h) j = 0 := fun j => if_pos rfl
    refine ⟨by omega, by omega, ?_⟩
    simp only [ek, el, ei, er]
    rfl
theorem V_newa3 {n : Nat} {z : Int} (hd : decode m.2.1 pc = .ok (.newarray .boolean, 2)) (hw : Cond.arrayClass .boolean ∈ GW) (hz : z = (n : Int)) (hn : n ≤ 1000000) (h1 : h_n h + 1 ≤ z_CC) (h2 : h_u h + n ≤ z_CS) (k : V g m d Q (h_mk h 23 n n) (pc + 2) lc (xR (h_n h) :: st)) : V g m d Q h pc lc (xI z :: st) := by
  intro p lch e R s mi args below meth c H locs cells slots ls C P S L
  subst hz
  have hts := C.2.2.2.2.1
  have hK := k_ty C.2.2.2.2.2.1 (t := 3) (by omega)
  refine W_tight C P h1 h2 fun e1 e2 => ?_
  refine va_newaK C.1 C.2.1 (atype := .boolean) (hts _ hw) rfl hd (n := Int32.ofInt (n : Int)) (N := n) rfl (by rw [i32_0, i32_lt (by omega) (by omega)]; omega) (i32_n (by omega)) (by show n * 1 ≤ _; omega) (by omega) (by omega) rfl fun H1 cA c1 z1 o1 hAr hNm => ?_
  have hcA : cA = g_A g 3 := Option.some.inj (hNm.symm.trans hK.2)
  subst hcA
  have e9 : rv g (h_n h) = .ref H.size := by
    have e7 := P.1
    have e6 := P.2.1
    have e8 : g_b g + (h_n h - 8) = H.size := by omega
    rw [rv_pos (by omega), ga_own (by omega), e8]
  have kk := k p lch e R s mi args below meth c H1 locs (R.cells - 1 + 1) (R.slots - n + n) ls C ?_ ⟨Nat.le_trans S.1 (by omega), fun q q1 q2 => (o1 q (Nat.lt_of_lt_of_le q1 S.1)).trans (S.2.1 q q1 q2), S.2.2⟩ L
  · simp only [List.map_cons] at kk
    change W _ _ _ _ _ _ _ _ _ _ _ _ _ _ _ (F0 _ _ _ (rv g (h_n h) :: _)) at kk
    rw [e9] at kk
    exact kk
  · refine P.mk c1 z1 o1 (N := n) (by rw [arrV_size]; omega) (fun _ => Or.inr ?_) (fun q hq => ⟨u1_n hq, u1_n hq, fun j => if_neg hq, fun j => if_neg hq⟩) rfl rfl h1 h2
    have ek : h_k (h_mk h 23 n n) (h_n h) = 23 := u1_s
    have el : h_l (h_mk h 23 n n) (h_n h) = n := u1_s
    have ei : ∀ j, h_i (h_mk h 23 n n) (h_n h) j = 0 := fun j => if_pos rfl
    have er : ∀ j, h_r (h_mk h 23 n n) (h_n h) j = 0 := fun j => if_pos rfl
    refine ⟨by omega, by omega, ?_⟩
    simp only [ek, el, ei, er]
    rfl
theorem V_newa5 {n : Nat} {z : Int} (hd : decode m.2.1 pc = .ok (.newarray .long, 2)) (hw : Cond.arrayClass .long ∈ GW) (hz : z = (n : Int)) (hn : n ≤ 1000000) (h1 : h_n h + 1 ≤ z_CC) (h2 : h_u h + n ≤ z_CS) (k : V g m d Q (h_mk h 25 n n) (pc + 2) lc (xR (h_n h) :: st)) : V g m d Q h pc lc (xI z :: st) := by
  intro p lch e R s mi args below meth c H locs cells slots ls C P S L
  subst hz
  have hts := C.2.2.2.2.1
  have hK := k_ty C.2.2.2.2.2.1 (t := 5) (by omega)
  refine W_tight C P h1 h2 fun e1 e2 => ?_
  refine va_newaK C.1 C.2.1 (atype := .long) (hts _ hw) rfl hd (n := Int32.ofInt (n : Int)) (N := n) rfl (by rw [i32_0, i32_lt (by omega) (by omega)]; omega) (i32_n (by omega)) (by show n * 8 ≤ _; omega) (by omega) (by omega) rfl fun H1 cA c1 z1 o1 hAr hNm => ?_
  have hcA : cA = g_A g 5 := Option.some.inj (hNm.symm.trans hK.2)
  subst hcA
  have e9 : rv g (h_n h) = .ref H.size := by
    have e7 := P.1
    have e6 := P.2.1
    have e8 : g_b g + (h_n h - 8) = H.size := by omega
    rw [rv_pos (by omega), ga_own (by omega), e8]
  have kk := k p lch e R s mi args below meth c H1 locs (R.cells - 1 + 1) (R.slots - n + n) ls C ?_ ⟨Nat.le_trans S.1 (by omega), fun q q1 q2 => (o1 q (Nat.lt_of_lt_of_le q1 S.1)).trans (S.2.1 q q1 q2), S.2.2⟩ L
  · simp only [List.map_cons] at kk
    change W _ _ _ _ _ _ _ _ _ _ _ _ _ _ _ (F0 _ _ _ (rv g (h_n h) :: _)) at kk
    rw [e9] at kk
    exact kk
  · refine P.mk c1 z1 o1 (N := n) (by rw [arrV_size]; omega) (fun _ => Or.inr ?_) (fun q hq => ⟨u1_n hq, u1_n hq, fun j => if_neg hq, fun j => if_neg hq⟩) rfl rfl h1 h2
    have ek : h_k (h_mk h 25 n n) (h_n h) = 25 := u1_s
    have el : h_l (h_mk h 25 n n) (h_n h) = n := u1_s
    have ei : ∀ j, h_i (h_mk h 25 n n) (h_n h) j = 0 := fun j => if_pos rfl
    have er : ∀ j, h_r (h_mk h 25 n n) (h_n h) j = 0 := fun j => if_pos rfl
    refine ⟨by omega, by omega, ?_⟩
    simp only [ek, el, ei, er]
    rfl
theorem V_newa6 {n : Nat} {z : Int} (hd : decode m.2.1 pc = .ok (.newarray .double, 2)) (hw : Cond.arrayClass .double ∈ GW) (hz : z = (n : Int)) (hn : n ≤ 1000000) (h1 : h_n h + 1 ≤ z_CC) (h2 : h_u h + n ≤ z_CS) (k : V g m d Q (h_mk h 26 n n) (pc + 2) lc (xR (h_n h) :: st)) : V g m d Q h pc lc (xI z :: st) := by
  intro p lch e R s mi args below meth c H locs cells slots ls C P S L
  subst hz
  have hts := C.2.2.2.2.1
  have hK := k_ty C.2.2.2.2.2.1 (t := 6) (by omega)
  refine W_tight C P h1 h2 fun e1 e2 => ?_
  refine va_newaK C.1 C.2.1 (atype := .double) (hts _ hw) rfl hd (n := Int32.ofInt (n : Int)) (N := n) rfl (by rw [i32_0, i32_lt (by omega) (by omega)]; omega) (i32_n (by omega)) (by show n * 8 ≤ _; omega) (by omega) (by omega) rfl fun H1 cA c1 z1 o1 hAr hNm => ?_
  have hcA : cA = g_A g 6 := Option.some.inj (hNm.symm.trans hK.2)
  subst hcA
  have e9 : rv g (h_n h) = .ref H.size := by
    have e7 := P.1
    have e6 := P.2.1
    have e8 : g_b g + (h_n h - 8) = H.size := by omega
    rw [rv_pos (by omega), ga_own (by omega), e8]
  have kk := k p lch e R s mi args below meth c H1 locs (R.cells - 1 + 1) (R.slots - n + n) ls C ?_ ⟨Nat.le_trans S.1 (by omega), fun q q1 q2 => (o1 q (Nat.lt_of_lt_of_le q1 S.1)).trans (S.2.1 q q1 q2), S.2.2⟩ L
  · simp only [List.map_cons] at kk
    change W _ _ _ _ _ _ _ _ _ _ _ _ _ _ _ (F0 _ _ _ (rv g (h_n h) :: _)) at kk
    rw [e9] at kk
    exact kk
  · refine P.mk c1 z1 o1 (N := n) (by rw [arrV_size]; omega) (fun _ => Or.inr ?_) (fun q hq => ⟨u1_n hq, u1_n hq, fun j => if_neg hq, fun j => if_neg hq⟩) rfl rfl h1 h2
    have ek : h_k (h_mk h 26 n n) (h_n h) = 26 := u1_s
    have el : h_l (h_mk h 26 n n) (h_n h) = n := u1_s
    have ei : ∀ j, h_i (h_mk h 26 n n) (h_n h) j = 0 := fun j => if_pos rfl
    have er : ∀ j, h_r (h_mk h 26 n n) (h_n h) j = 0 := fun j => if_pos rfl
    refine ⟨by omega, by omega, ?_⟩
    simp only [ek, el, ei, er]
    rfl
theorem V_newaR {idx n : Nat} {z : Int} (hd : decode m.2.1 pc = .ok (.anewarray idx, 3)) (hw : Cond.classLink m.1.cls idx "java/lang/Object" ∈ GW) (hz : z = (n : Int)) (hn : n ≤ 1000000) (h1 : h_n h + 1 ≤ z_CC) (h2 : h_u h + n ≤ z_CS) (k : V g m d Q (h_mk h 24 n n) (pc + 3) lc (xR (h_n h) :: st)) : V g m d Q h pc lc (xI z :: st) := by
  intro p lch e R s mi args below meth c H locs cells slots ls C P S L
  subst hz
  have hts := C.2.2.2.2.1
  have hK := k_ty C.2.2.2.2.2.1 (t := 4) (by omega)
  have F := C.2.2.2.2.2.2.2.2.2.2.2.2.1
  refine W_tight C P h1 h2 fun e1 e2 => ?_
  have hcl := i32_n (j := n) (by omega)
  refine W.anew C.1 C.2.1 C.2.2.2.1 (hts _ hw) (va_AO.use F.2.2.2.2.2.2.2.2.1) rfl hd (n := Int32.ofInt (n : Int)) rfl (by rw [i32_0, i32_lt (by omega) (by omega)]; omega) (by rw [hcl]; omega) (by omega) (by rw [hcl]; omega) fun cA kA comp f1 f2 f3 f4 => ?_
  rw [hcl]
  have hcA : cA = g_A g 4 := by
    obtain ⟨-, -, -, -, -, h4⟩ := hK.2
    exact Option.some.inj (f1.symm.trans h4)
  subst hcA
  generalize hH1 : H.push ({ cls := g_A g 4, slots := Array.replicate n .null, vm := .none } : Cell) = H1
  have z1 : H1.size = H.size + 1 := by rw [← hH1, Array.size_push]
  have c1 : H1[H.size]? = some (arrV (g_A g 4) n (fun _ => .null)) := by rw [← hH1, Array.getElem?_push_size, ← arrV_new]
  have o1 : ∀ q : Nat, q < H.size → H1[q]? = H[q]? := fun q hq => by rw [← hH1, Array.getElem?_push, if_neg (Nat.ne_of_lt hq)]
  have e9 : rv g (h_n h) = .ref H.size := by
    have e7 := P.1
    have e6 := P.2.1
    have e8 : g_b g + (h_n h - 8) = H.size := by omega
    rw [rv_pos (by omega), ga_own (by omega), e8]
  have kk := k p lch e R s mi args below meth c H1 locs (R.cells - 1 + 1) (R.slots - n + n) ls C ?_ ⟨Nat.le_trans S.1 (by omega), fun q q1 q2 => (o1 q (Nat.lt_of_lt_of_le q1 S.1)).trans (S.2.1 q q1 q2), S.2.2⟩ L
  · simp only [List.map_cons] at kk
    change W _ _ _ _ _ _ _ _ _ _ _ _ _ _ _ (F0 _ _ _ (rv g (h_n h) :: _)) at kk
    rw [e9] at kk
    exact kk
  · refine P.mk c1 z1 o1 (N := n) (by rw [arrV_size]; omega) (fun _ => Or.inr ?_) (fun q hq => ⟨u1_n hq, u1_n hq, fun j => if_neg hq, fun j => if_neg hq⟩) rfl rfl h1 h2
    have ek : h_k (h_mk h 24 n n) (h_n h) = 24 := u1_s
    have el : h_l (h_mk h 24 n n) (h_n h) = n := u1_s
    have ei : ∀ j, h_i (h_mk h 24 n n) (h_n h) j = 0 := fun j => if_pos rfl
    have er : ∀ j, h_r (h_mk h 24 n n) (h_n h) j = 0 := fun j => if_pos rfl
    refine ⟨by omega, by omega, ?_⟩
    simp only [ek, el, ei, er]
    rfl
/-- casts -/
def Ck (own : String) (idx ci : Nat) : Prop := ∃ (C : String) (T : u_T) (N : Nat) (tf : Nat → FieldType), ClOK ci C T N tf ∧ Cond.classLink own idx C ∈ GW
theorem V_ckc {idx ci a : Nat} (hd : decode m.2.1 pc = .ok (.checkcast idx, 3)) (hf : Ck m.1.cls idx ci) (ha : h_k h a = ci + 1) (k : V g m d Q h (pc + 3) lc (xR a :: st)) : V g m d Q h pc lc (xR a :: st) := by
  intro p lch e R s mi args below meth c H locs cells slots ls C P S L
  obtain ⟨C0, T0, N, tf, ⟨hc, hN', hci, hin, hty, hnm⟩, hl⟩ := hf
  obtain ⟨cell, q1, q2, q3, q4⟩ := P.obj ha hci
  have kk := k p lch e R s mi args below meth c H locs cells slots ls C P S L
  change W _ _ _ _ _ _ _ _ _ _ _ _ _ _ _ (F0 _ _ _ (rv g a :: _)) at kk
  change W _ _ _ _ _ _ _ _ _ _ _ _ _ _ _ (F0 _ _ _ (rv g a :: _))
  rw [P.rv (a := a) (by omega)] at kk ⊢
  exact va_castE C.1 C.2.1 C.2.2.2.1 (C.2.2.2.2.1 _ hl) ⟨cell, q1, by rw [q3]; rfl, by rw [q2]; exact (C.2.2.2.2.2.1.1 ci _ hc).2.1⟩ hd kk
theorem V_ckN {idx : Nat} (hd : decode m.2.1 pc = .ok (.checkcast idx, 3)) (k : V g m d Q h (pc + 3) lc (xR 0 :: st)) : V g m d Q h pc lc (xR 0 :: st) := by
  intro p lch e R s mi args below meth c H locs cells slots ls C P S L
  exact lv_castN C.1 C.2.1 hd (k p lch e R s mi args below meth c H locs cells slots ls C P S L)
theorem V_ckA {idx a t : Nat} {nm : String} (hd : decode m.2.1 pc = .ok (.checkcast idx, 3)) (hl : Cond.classLink m.1.cls idx nm ∈ GW) (ht : t ≤ 6) (hnm : "[" ++ (g_ty t).toString = nm) (ha : h_k h a = 20 + t) (k : V g m d Q h (pc + 3) lc (xR a :: st)) : V g m d Q h pc lc (xR a :: st) := by
  intro p lch e R s mi args below meth c H locs cells slots ls C P S L
  have q1 := P.arr ha
  have hK := k_ty C.2.2.2.2.2.1 ht
  have kk := k p lch e R s mi args below meth c H locs cells slots ls C P S L
  change W _ _ _ _ _ _ _ _ _ _ _ _ _ _ _ (F0 _ _ _ (rv g a :: _)) at kk
  change W _ _ _ _ _ _ _ _ _ _ _ _ _ _ _ (F0 _ _ _ (rv g a :: _))
  rw [P.rv (a := a) (by omega)] at kk ⊢
  have hc : s.vm.findClass nm = some (g_A g t) := by
    rw [← hnm]
    match t, ht, hK.2 with
    | 0, _, h => exact h
    | 1, _, h => exact h
    | 2, _, h => exact h
    | 3, _, h => exact h
    | 4, _, h => exact h.choose_spec.choose_spec.2.2.2
    | 5, _, h => exact h
    | 6, _, h => exact h
  exact va_castE C.1 C.2.1 C.2.2.2.1 (C.2.2.2.2.1 _ hl) ⟨_, q1, rfl, hc⟩ hd kk
/-- statics -/
theorem V_gsE {idx : Nat} {own : String} (hd : decode m.2.1 pc = .ok (.getstatic idx, 3)) (ho : m.1.cls = own) (hl : Cond.fieldLink own idx "java/util/ArrayList" "DEFAULTCAPACITY_EMPTY_ELEMENTDATA" "[Ljava/lang/Object;" ∈ GW) (k : V g m d Q h (pc + 3) lc (xR 1 :: st)) : V g m d Q h pc lc st := by
  intro p lch e R s mi args below meth c H locs cells slots ls C P S L
  subst ho
  have F := C.2.2.2.2.2.2.2.2.2.2.2.2.1
  have kk := k p lch e R s mi args below meth c H locs cells slots ls C P S L
  change W _ _ _ _ _ _ _ _ _ _ _ _ _ _ _ (F0 _ _ _ (rv g 1 :: _)) at kk
  rw [rv_pos (by omega), show g_a g 1 = g_s g 1 from rfl] at kk
  exact va_gets C.1 C.2.1 F.1.1 S C.2.2.2.1 (C.2.2.2.2.1 _ hl) (fun _ h => h) hd kk
theorem V_gsC {idx : Nat} {own : String} (hd : decode m.2.1 pc = .ok (.getstatic idx, 3)) (ho : m.1.cls = own) (hl : Cond.fieldLink own idx "java/lang/String" "COMPACT_STRINGS" "Z" ∈ GW) (k : V g m d Q h (pc + 3) lc (xI 1 :: st)) : V g m d Q h pc lc st := by
  intro p lch e R s mi args below meth c H locs cells slots ls C P S L
  subst ho
  have F := C.2.2.2.2.2.2.2.2.2.2.2.2.1
  have kk := k p lch e R s mi args below meth c H locs cells slots ls C P S L
  exact va_gets C.1 C.2.1 F.2.1 S C.2.2.2.1 (C.2.2.2.2.1 _ hl) (fun _ h => h) hd kk
theorem V_ldcM {idx : Nat} (hd : decode m.2.1 pc = .ok (.ldc idx, 2)) (hl : Cond.classLink m.1.cls idx "[Ljava/lang/Object;" ∈ GW) (k : V g m d Q h (pc + 2) lc (xR 4 :: st)) : V g m d Q h pc lc st := by
  intro p lch e R s mi args below meth c H locs cells slots ls C P S L
  have F := C.2.2.2.2.2.2.2.2.2.2.2.2.1
  have kk := k p lch e R s mi args below meth c H locs cells slots ls C P S L
  change W _ _ _ _ _ _ _ _ _ _ _ _ _ _ _ (F0 _ _ _ (rv g 4 :: _)) at kk
  rw [rv_pos (by omega), show g_a g 4 = g_s g 4 from rfl] at kk
  exact va_ldcM C.1 C.2.1 C.2.2.2.1 (C.2.2.2.2.1 _ hl) F.2.2.1 hd kk
theorem V_getC {idx a : Nat} (hd : decode m.2.1 pc = .ok (.invokevirtual idx, 3)) (hd1 : 1 ≤ d) (hst : (st.map (fun v => (cv g v).category)).sum ≤ 8) (hl : Cond.methodLink m.1.cls idx y_getC ∈ GW) (w2 : Cond.selects "[Ljava/lang/Object;" y_getC y_getC ∈ GW) (w3 : Cond.instanceMethod y_getC ∈ GW) (w4 : Cond.native y_getC ∈ GW) (ha : h_k h a = 24) (k : V g m d Q h (pc + 3) lc (xR 4 :: st)) : V g m d Q h pc lc (xR a :: st) := by
  intro p lch e R s mi args below meth c H locs cells slots ls C P S L
  have hts := C.2.2.2.2.1
  have q1 := P.arr (t := 4) ha
  have hK := k_ty C.2.2.2.2.2.1 (t := 4) (by omega)
  have F := C.2.2.2.2.2.2.2.2.2.2.2.2.1
  have hR := C.2.2.2.2.2.2.2.2.2.2.1
  have kk := k p lch e R s mi args below meth c H locs cells slots ls C P S L
  change W _ _ _ _ _ _ _ _ _ _ _ _ _ _ _ (F0 _ _ _ (rv g 4 :: _)) at kk
  rw [rv_pos (n := 4) (by omega), show g_a g 4 = g_s g 4 from rfl] at kk
  change W _ _ _ _ _ _ _ _ _ _ _ _ _ _ _ (F0 _ _ _ (rv g a :: _))
  rw [P.rv (a := a) (by omega)]
  refine va_getC C.1 C.2.1 (C.2.2.1.trans L.1.symm) C.2.2.2.1 (hts _ hl) (va_Nw.use rfl (F.2.2.2.2.2.2.2.2.2 _ List.mem_cons_self)) (hts _ w2) (hts _ w3) (hts _ w4) F.2.2.1 ⟨_, q1, rfl, ?_⟩ (by omega) ?_ hd kk
  · exact hK.2.choose_spec.choose_spec.2.2.2
  · rw [List.map_map]
    have : (List.map ((fun v => Value.category v) ∘ cv g) st).sum ≤ 8 := hst
    omega
/-- what goes into a row of objects -/
theorem Cx.any {p : Program} {lch : Launch} {R : Room} {s : State} {mi : MethodId} {args : Array Value} {meth : Method} {c : Code} {H : Heap} (C : Cx g m d p lch R s mi args meth c) (P : Rp g h H) {y : Nat} (hy : h_k h y = 6 ∨ h_k h y = 7 ∨ h_k h y = 8) : va_Any "java/lang/Object" s H (g_a g y) := by
  have F := C.2.2.2.2.2.2.2.2.2.2.2.2.1
  have K := C.2.2.2.2.2.1.1
  have key : ∀ (ci : Nat) (q : vw_C), vwCl[ci]? = some q → ci < 10 → (q.1, "java/lang/Object") ∈ z_cast → h_k h y = ci + 1 → va_Any "java/lang/Object" s H (g_a g y) := by
    intro ci q hq hci hm hk
    obtain ⟨cell, q1, q2, q3, -⟩ := P.obj hk hci
    obtain ⟨-, hfc, kC, hkC, -⟩ := K ci q hq
    obtain ⟨c1, t1, f1, f2, f3⟩ := Cond.castable_spec (F.2.2.2.2.2.2.1 _ hm)
    have e1 : c1 = (g_D g).1 ci := Option.some.inj (f1.symm.trans hfc)
    subst e1
    refine ⟨cell, q1, by rw [q3]; rfl, ⟨kC, by rw [q2]; exact hkC⟩, fun comp hcomp => ?_⟩
    rw [q2, show comp = t1 from Option.some.inj (hcomp.symm.trans f2)]
    exact f3
  rcases hy with hy | hy | hy
  · exact key 5 _ rfl (by omega) (by decide) hy
  · exact key 6 _ rfl (by omega) (by decide) hy
  · exact key 7 _ rfl (by omega) (by decide) hy
theorem V_aast {a j n : Nat} {y : Int} (hd : decode m.2.1 pc = .ok (.aastore, 1)) (ha : h_k h a = 24) (hn : h_k h n = 6 ∨ h_k h n = 7 ∨ h_k h n = 8) (hy : y = (j : Int)) (hj : j < h_l h a) (hb : h_l h a ≤ 2147483647) (k : V g m d Q (h_sr h a j n) (pc + 1) lc st) : V g m d Q h pc lc (xR n :: xI y :: xR a :: st) := by
  intro p lch e R s mi args below meth c H locs cells slots ls C P S L
  have q1 := P.arr (t := 4) ha
  obtain ⟨hAr, kA, comp, k1, k2, k3, -⟩ := k_ty C.2.2.2.2.2.1 (t := 4) (by omega)
  obtain ⟨kE, hkE, -⟩ := Vm.findClass_spec k3
  obtain ⟨h1, h2⟩ := i32_in hy hj hb
  obtain ⟨cellV, g1, g3, ⟨kC, hkC⟩, hasg⟩ := C.any P hn
  have h0 : ¬ Int32.ofInt y < 0 := fun q => h1 (Or.inl q)
  change W _ _ _ _ _ _ _ _ _ _ _ _ _ _ _ (F0 _ _ _ (rv g n :: Value.int (Int32.ofInt y) :: rv g a :: _))
  rw [P.rv (a := a) (by omega), P.rv (a := n) (by omega)]
  refine W.aast C.1 C.2.1 q1 (fun q h => by cases h) (fun h => by cases h) k1 k2 rfl hkE ⟨h0, by rw [arrV_size, h2]; exact hj⟩ g1 (fun q h => by rw [h] at g3; cases g3) hkC (hasg _ k3) rfl rfl hd fun H' e1 e2 e3 => ?_
  rw [h2] at e1 ⊢
  refine k p lch e R s mi args below meth c H' _ cells slots ls C (P.ast (t := 4) ha (by omega) e1 e2 e3 ?_ rfl rfl ?_ rfl rfl) (S.put e2 e3 (P.base (by omega))) L
  · have : h_r (h_sr h a j n) a j = n := u2_s
    simp [a_v, this, P.rv (a := n) (by omega)]
  · exact fun q i hq => hsr_ne hq
theorem V_aastN {a j : Nat} {y : Int} (hd : decode m.2.1 pc = .ok (.aastore, 1)) (ha : h_k h a = 24) (hy : y = (j : Int)) (hj : j < h_l h a) (hb : h_l h a ≤ 2147483647) (k : V g m d Q (h_sr h a j 0) (pc + 1) lc st) : V g m d Q h pc lc (xR 0 :: xI y :: xR a :: st) := by
  intro p lch e R s mi args below meth c H locs cells slots ls C P S L
  have q1 := P.arr (t := 4) ha
  have hK := k_ty C.2.2.2.2.2.1 (t := 4) (by omega)
  obtain ⟨h1, h2⟩ := i32_in hy hj hb
  change W _ _ _ _ _ _ _ _ _ _ _ _ _ _ _ (F0 _ _ _ (Value.null :: Value.int (Int32.ofInt y) :: rv g a :: _))
  rw [P.rv (a := a) (by omega)]
  refine va_WaastN C.1 C.2.1 (C := "java/lang/Object") q1 (hK.1 _ _) (fun h => by cases h) (by rw [arrV_size]; exact h1) rfl rfl hd fun H' e1 e2 e3 => ?_
  rw [h2] at e1 ⊢
  refine k p lch e R s mi args below meth c H' _ cells slots ls C (P.ast (t := 4) ha (by omega) e1 e2 e3 ?_ rfl rfl ?_ rfl rfl) (S.put e2 e3 (P.base (by omega))) L
  · have : h_r (h_sr h a j 0) a j = 0 := u2_s
    simp [a_v, this, rv_0]
  · exact fun q i hq => hsr_ne hq
/-- references compared -/
def ro (g : GP) (n : Nat) : Option Nat := if n = 0 then none else some (g_a g n)
theorem rv_ro {n : Nat} : rv g n = va_rf (ro g n) := by
  unfold rv ro
  split <;> rfl
theorem ro_inj {s : State} (F : SF g s) {a b : Nat} (ha : a = 0 ∨ 8 ≤ a ∨ a = 1) (hb : b = 0 ∨ 8 ≤ b ∨ b = 1) (e : ro g a = ro g b) : a = b := by
  have f1 := F.2.2.2.2.2.1.2.2
  unfold ro at e
  rcases ha with rfl | ha | rfl <;> rcases hb with rfl | hb | rfl
  · rfl
  · rw [if_pos rfl, if_neg (by omega)] at e; cases e
  · rw [if_pos rfl, if_neg (by omega)] at e; cases e
  · rw [if_pos rfl, if_neg (by omega)] at e; cases e
  · rw [if_neg (by omega), if_neg (by omega)] at e
    exact ga_inj ha hb (Option.some.inj e)
  · rw [if_neg (by omega), if_neg (by omega)] at e
    have := Option.some.inj e
    rw [ga_own ha, show g_a g 1 = g_s g 1 from rfl] at this
    omega
  · rw [if_neg (by omega), if_pos rfl] at e; cases e
  · rw [if_neg (by omega), if_neg (by omega)] at e
    have := Option.some.inj e
    rw [ga_own hb, show g_a g 1 = g_s g 1 from rfl] at this
    omega
  · rfl

theorem V_acmp_eq {a b : Nat} {off : Int} {tgt : Nat} (hd : decode m.2.1 pc = .ok (.if_acmp .eq off, 3)) (ht : (pc : Int) + off = (tgt : Int)) (hab : a = b ∨ ((a = 0 ∨ 8 ≤ a ∨ a = 1) ∧ (b = 0 ∨ 8 ≤ b ∨ b = 1))) (kt : a = b → V g m d Q h tgt lc st) (kf : a ≠ b → V g m d Q h (pc + 3) lc st) : V g m d Q h pc lc (xR b :: xR a :: st) := by
  intro p lch e R s mi args below meth c H locs cells slots ls C P S L
  have F := C.2.2.2.2.2.2.2.2.2.2.2.2.1
  change W _ _ _ _ _ _ _ _ _ _ _ _ _ _ _ (F0 _ _ _ (rv g b :: rv g a :: _))
  rw [rv_ro, rv_ro]
  have hi : ro g a = ro g b ↔ a = b := ⟨fun q => by
    rcases hab with h | ⟨h1, h2⟩
    · exact h
    · exact ro_inj F h1 h2 q, fun q => by rw [q]⟩
  exact lv_acmp_eq C.1 C.2.1 hd ht (fun q => kt (by exact hi.mp q) p lch e R s mi args below meth c H locs cells slots ls C P S L) (fun q => kf (by exact fun z => q (hi.mpr z)) p lch e R s mi args below meth c H locs cells slots ls C P S L)
theorem V_acmp_ne {a b : Nat} {off : Int} {tgt : Nat} (hd : decode m.2.1 pc = .ok (.if_acmp .ne off, 3)) (ht : (pc : Int) + off = (tgt : Int)) (hab : a = b ∨ ((a = 0 ∨ 8 ≤ a ∨ a = 1) ∧ (b = 0 ∨ 8 ≤ b ∨ b = 1))) (kt : a ≠ b → V g m d Q h tgt lc st) (kf : a = b → V g m d Q h (pc + 3) lc st) : V g m d Q h pc lc (xR b :: xR a :: st) := by
  intro p lch e R s mi args below meth c H locs cells slots ls C P S L
  have F := C.2.2.2.2.2.2.2.2.2.2.2.2.1
  change W _ _ _ _ _ _ _ _ _ _ _ _ _ _ _ (F0 _ _ _ (rv g b :: rv g a :: _))
  rw [rv_ro, rv_ro]
  have hi : ro g a = ro g b ↔ a = b := ⟨fun q => by
    rcases hab with h | ⟨h1, h2⟩
    · exact h
    · exact ro_inj F h1 h2 q, fun q => by rw [q]⟩
  exact lv_acmp_ne C.1 C.2.1 hd ht (fun q => kt (by exact fun z => q (hi.mpr z)) p lch e R s mi args below meth c H locs cells slots ls C P S L) (fun q => kf (by exact hi.mp q) p lch e R s mi args below meth c H locs cells slots ls C P S L)
theorem V_ifnonnull {a : Nat} {off : Int} {tgt : Nat} (hd : decode m.2.1 pc = .ok (.ifnonnull off, 3)) (ht : (pc : Int) + off = (tgt : Int)) (ha : a ≠ 0) (k : V g m d Q h tgt lc st) : V g m d Q h pc lc (xR a :: st) := by
  intro p lch e R s mi args below meth c H locs cells slots ls C P S L
  change W _ _ _ _ _ _ _ _ _ _ _ _ _ _ _ (F0 _ _ _ (rv g a :: _))
  rw [rv_pos ha]
  exact lv_ifnonnull C.1 C.2.1 hd ht (k p lch e R s mi args below meth c H locs cells slots ls C P S L)
/-- wide numbers -/
theorem V_i2l {z : Int} (hd : decode m.2.1 pc = .ok (.i2l, 1)) (hz : -2147483648 ≤ z ∧ z ≤ 2147483647) (k : V g m d Q h (pc + 1) lc (xV (.long (Int64.ofInt z)) :: st)) : V g m d Q h pc lc (xI z :: st) := by
  intro p lch e R s mi args below meth c H locs cells slots ls C P S L
  refine lv_i2l C.1 C.2.1 hd ?_ (k p lch e R s mi args below meth c H locs cells slots ls C P S L)
  apply Int64.toInt_inj.mp
  rw [Int32.toInt_toInt64, i32_i hz, Int64.toInt_ofInt_of_le (by omega) (by omega)]
theorem V_ladd {x y : Int64} (hd : decode m.2.1 pc = .ok (.ladd, 1)) (k : V g m d Q h (pc + 1) lc (xV (.long (x + y)) :: st)) : V g m d Q h pc lc (xV (.long y) :: xV (.long x) :: st) := by
  intro p lch e R s mi args below meth c H locs cells slots ls C P S L
  exact lv_ladd C.1 C.2.1 hd (k p lch e R s mi args below meth c H locs cells slots ls C P S L)
theorem V_i2f {z : Int} (hd : decode m.2.1 pc = .ok (.i2f, 1)) (k : V g m d Q h (pc + 1) lc (xV (.float (FP.i2f (Int32.ofInt z))) :: st)) : V g m d Q h pc lc (xI z :: st) := by
  intro p lch e R s mi args below meth c H locs cells slots ls C P S L
  exact lv_i2f C.1 C.2.1 hd (k p lch e R s mi args below meth c H locs cells slots ls C P S L)
theorem V_i2d {z : Int} (hd : decode m.2.1 pc = .ok (.i2d, 1)) (k : V g m d Q h (pc + 1) lc (xV (.double (FP.i2d (Int32.ofInt z))) :: st)) : V g m d Q h pc lc (xI z :: st) := by
  intro p lch e R s mi args below meth c H locs cells slots ls C P S L
  exact lv_i2d C.1 C.2.1 hd (k p lch e R s mi args below meth c H locs cells slots ls C P S L)
theorem V_l2d {z : Int64} (hd : decode m.2.1 pc = .ok (.l2d, 1)) (k : V g m d Q h (pc + 1) lc (xV (.double (FP.l2d z)) :: st)) : V g m d Q h pc lc (xV (.long z) :: st) := by
  intro p lch e R s mi args below meth c H locs cells slots ls C P S L
  exact lv_l2d C.1 C.2.1 hd (k p lch e R s mi args below meth c H locs cells slots ls C P S L)
theorem V_fdiv {x y : UInt32} (hd : decode m.2.1 pc = .ok (.fdiv, 1)) (hne : vf_n32 (FP.fdiv x y)) (k : V g m d Q h (pc + 1) lc (xV (.float (FP.fdiv x y)) :: st)) : V g m d Q h pc lc (xV (.float y) :: xV (.float x) :: st) := by
  intro p lch e R s mi args below meth c H locs cells slots ls C P S L
  exact lv_fdiv C.1 C.2.1 hd hne (k p lch e R s mi args below meth c H locs cells slots ls C P S L)
theorem V_ddiv {x y : UInt64} (hd : decode m.2.1 pc = .ok (.ddiv, 1)) (hne : vf_n64 (FP.ddiv x y)) (k : V g m d Q h (pc + 1) lc (xV (.double (FP.ddiv x y)) :: st)) : V g m d Q h pc lc (xV (.double y) :: xV (.double x) :: st) := by
  intro p lch e R s mi args below meth c H locs cells slots ls C P S L
  exact lv_ddiv C.1 C.2.1 hd hne (k p lch e R s mi args below meth c H locs cells slots ls C P S L)
theorem V_f2d {x : UInt32} (hd : decode m.2.1 pc = .ok (.f2d, 1)) (hne : vf_n64 (FP.f2d x)) (k : V g m d Q h (pc + 1) lc (xV (.double (FP.f2d x)) :: st)) : V g m d Q h pc lc (xV (.float x) :: st) := by
  intro p lch e R s mi args below meth c H locs cells slots ls C P S L
  exact lv_f2d C.1 C.2.1 hd hne (k p lch e R s mi args below meth c H locs cells slots ls C P S L)
theorem V_dcmp {x y : UInt64} {op : CmpOp} {z : Int} (hd : decode m.2.1 pc = .ok (.dcmp op, 1)) (hz : Op.cmpValue (FP.dcmp x y) op = Int32.ofInt z) (k : V g m d Q h (pc + 1) lc (xI z :: st)) : V g m d Q h pc lc (xV (.double y) :: xV (.double x) :: st) := by
  intro p lch e R s mi args below meth c H locs cells slots ls C P S L
  refine lv_dcmp C.1 C.2.1 hd ?_
  rw [hz]
  exact (k p lch e R s mi args below meth c H locs cells slots ls C P S L)
theorem V_lcmp {x y : Int64} {z : Int} (hd : decode m.2.1 pc = .ok (.lcmp, 1)) (hz : lg_cmp x y = Int32.ofInt z) (k : V g m d Q h (pc + 1) lc (xI z :: st)) : V g m d Q h pc lc (xV (.long y) :: xV (.long x) :: st) := by
  intro p lch e R s mi args below meth c H locs cells slots ls C P S L
  refine W.lcmp C.1 C.2.1 hd ?_
  rw [hz]
  exact (k p lch e R s mi args below meth c H locs cells slots ls C P S L)
theorem lcmp_eq {x : Int64} : lg_cmp x x = Int32.ofInt 0 := by
  unfold lg_cmp
  simp
theorem rv_or {a : Nat} : rv g a = .null ∨ ∃ b, rv g a = .ref b := by
  unfold rv
  split
  · exact Or.inl rfl
  · exact Or.inr ⟨_, rfl⟩
/-- the ends -/
theorem qcv {v : Option AV} {s t : State} {args : Array Value} {H : Heap} {locs : List Loc} {o : Outcome} (P : Rp g h H) (S : va_S (fun q => g_b g ≤ q) s.heap H locs) (hq : Q (.inl v) h) (ht : t.heap = H) (ho : o = .returned (v.map (cv g))) : QcV g Q args s o t := ⟨⟨v, h, ho, by rw [ht]; exact P, hq⟩, S.F ht⟩
theorem V_iret {z : Int} (hd : decode m.2.1 pc = .ok (.ireturn, 1)) (hr : m.2.2.2.1 = some .int) (hq : Q (.inl (some (xI z))) h) : V g m d Q h pc lc [xI z] := by
  intro p lch e R s mi args below meth c H locs cells slots ls C P S L
  refine W_tight0 C P ?_
  exact vx_ret (W.iret C.1 C.2.1 (C.2.2.2.2.2.2.1.trans hr) (fun t ht _ => qcv P S hq ht rfl) S.2.2 hd C.2.2.2.2.2.2.2.2.1)
theorem V_zret {z : Int} (hz : z = 0 ∨ z = 1) (hd : decode m.2.1 pc = .ok (.ireturn, 1)) (hr : m.2.2.2.1 = some .boolean) (hq : Q (.inl (some (xI z))) h) : V g m d Q h pc lc [xI z] := by
  intro p lch e R s mi args below meth c H locs cells slots ls C P S L
  refine W_tight0 C P ?_
  exact vx_ret (W.zret C.1 C.2.1 (C.2.2.2.2.2.2.1.trans hr) (nf_z hz).1 (fun t ht _ => qcv P S hq ht rfl) S.2.2 hd C.2.2.2.2.2.2.2.2.1)
theorem V_cret {z : Int} (hz : 0 ≤ z ∧ z < 65536) (hd : decode m.2.1 pc = .ok (.ireturn, 1)) (hr : m.2.2.2.1 = some .char) (hq : Q (.inl (some (xI z))) h) : V g m d Q h pc lc [xI z] := by
  intro p lch e R s mi args below meth c H locs cells slots ls C P S L
  refine W_tight0 C P ?_
  exact vx_ret (W.zret C.1 C.2.1 (C.2.2.2.2.2.2.1.trans hr) (nf_c hz).1 (fun t ht _ => qcv P S hq ht rfl) S.2.2 hd C.2.2.2.2.2.2.2.2.1)
theorem V_bret {z : Int} (hz : -128 ≤ z ∧ z < 128) (hd : decode m.2.1 pc = .ok (.ireturn, 1)) (hr : m.2.2.2.1 = some .byte) (hq : Q (.inl (some (xI z))) h) : V g m d Q h pc lc [xI z] := by
  intro p lch e R s mi args below meth c H locs cells slots ls C P S L
  refine W_tight0 C P ?_
  exact vx_ret (W.zret C.1 C.2.1 (C.2.2.2.2.2.2.1.trans hr) (nf_b hz).1 (fun t ht _ => qcv P S hq ht rfl) S.2.2 hd C.2.2.2.2.2.2.2.2.1)
theorem V_lret {z : Int64} (hd : decode m.2.1 pc = .ok (.lreturn, 1)) (hr : m.2.2.2.1 = some .long) (hq : Q (.inl (some (xV (.long z)))) h) : V g m d Q h pc lc [xV (.long z)] := by
  intro p lch e R s mi args below meth c H locs cells slots ls C P S L
  refine W_tight0 C P ?_
  exact vx_ret (W.lret C.1 C.2.1 (C.2.2.2.2.2.2.1.trans hr) (fun t ht _ => qcv P S hq ht rfl) S.2.2 hd C.2.2.2.2.2.2.2.2.1)
theorem V_fret {z : UInt32} (hd : decode m.2.1 pc = .ok (.freturn, 1)) (hr : m.2.2.2.1 = some .float) (hq : Q (.inl (some (xV (.float z)))) h) : V g m d Q h pc lc [xV (.float z)] := by
  intro p lch e R s mi args below meth c H locs cells slots ls C P S L
  refine W_tight0 C P ?_
  exact vx_ret (W.fret C.1 C.2.1 (C.2.2.2.2.2.2.1.trans hr) (fun t ht _ => qcv P S hq ht rfl) S.2.2 hd C.2.2.2.2.2.2.2.2.1)
theorem V_dret {z : UInt64} (hd : decode m.2.1 pc = .ok (.dreturn, 1)) (hr : m.2.2.2.1 = some .double) (hq : Q (.inl (some (xV (.double z)))) h) : V g m d Q h pc lc [xV (.double z)] := by
  intro p lch e R s mi args below meth c H locs cells slots ls C P S L
  refine W_tight0 C P ?_
  exact vx_ret (W.dret C.1 C.2.1 (C.2.2.2.2.2.2.1.trans hr) (fun t ht _ => qcv P S hq ht rfl) S.2.2 hd C.2.2.2.2.2.2.2.2.1)
theorem V_vret (hd : decode m.2.1 pc = .ok (.return_, 1)) (hr : m.2.2.2.1 = none) (hq : Q (.inl none) h) : V g m d Q h pc lc [] := by
  intro p lch e R s mi args below meth c H locs cells slots ls C P S L
  refine W_tight0 C P ?_
  exact vx_ret (W.vret C.1 C.2.1 (C.2.2.2.2.2.2.1.trans hr) (fun t ht _ => qcv (v := none) P S hq ht rfl) S.2.2 hd C.2.2.2.2.2.2.2.2.1)
theorem V_aret {a : Nat} {ty : FieldType} (hd : decode m.2.1 pc = .ok (.areturn, 1)) (hr : m.2.2.2.1 = some ty) (hty : (∃ n, ty = .object n) ∨ ∃ t, ty = .array t) (hq : Q (.inl (some (xR a))) h) : V g m d Q h pc lc [xR a] := by
  intro p lch e R s mi args below meth c H locs cells slots ls C P S L
  refine W_tight0 C P ?_
  change W _ _ _ _ _ _ _ _ _ _ _ _ _ _ _ (F0 _ _ _ [rv g a])
  exact vx_ret (W.aret C.1 C.2.1 (C.2.2.2.2.2.2.1.trans hr) hty rv_or (fun t ht _ => qcv (v := some (xR a)) P S hq ht rfl) S.2.2 hd C.2.2.2.2.2.2.2.2.1)
end V3
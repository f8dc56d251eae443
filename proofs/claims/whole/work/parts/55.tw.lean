theorem en_throwW {p : Program} {l : Launch} {e : Env} {R : Room} {s : State} {m : MethodId} {args : Array Value} {below : List Frame} {meth : Method} {c : Code} {H : Heap} {locs : List Loc} {cells slots : Nat} {free : Addr → Prop} {Qc : Array Value → State → Outcome → State → Prop} {XC : String → State → State → Prop} {ls : Array Slot} {rest : List Value}
    {cc : ByteArray} {pc : Nat} (hexec : p.tables.exec = Jvm.exec) (hb : c.code = cc) (hl : l.stackTraces = false) {own cls text Y0 : String} {names : List String} {ik is ic mc ms sa index : Nat} {bytes : ByteArray} {A : Nat → Prop}
    (hown : s.vm.findClass own = some m.cls) (hcls : Bundle.fit cls = true) (hY0 : Bundle.fit Y0 = true) (hnames : ∀ n ∈ names, Bundle.fit n = true)
    (y0 : decode bytes 0 = .ok (.aload_n 0, 1)) (y1 : decode bytes 1 = .ok (.aload_n 1, 1)) (y2 : decode bytes 2 = .ok (.invokespecial index, 3)) (y5 : decode bytes 5 = .ok (.return_, 1))
    (hk : (Cond.classLink own ik cls).before args s = true) (hini : (Cond.initialized cls).before args s = true) (hstr : vk_R own is text sa s) (hat : ∀ w ∈ (en_all own ic cls Y0 names index bytes).filter vx_no, w.before args s = true)
    (hgood : ∀ w ∈ Cond.classLink own ik cls :: Cond.initialized cls :: (en_all own ic cls Y0 names index bytes).filter vx_no, vx_ot w = true)
    (hU : vx_Zq Bundle.tN "UNASSIGNED_STACK" Bundle.steD A s s.heap) (hN : vx_Zq Bundle.tN "SUPPRESSED_SENTINEL" Bundle.listD A s s.heap) (hS : va_S A s.heap H locs) (hsize : ls.size = c.maxLocals)
    (d0 : decode cc pc = .ok (.new ik, 3)) (d3 : decode cc (pc + 3) = .ok (.dup, 1)) (d4 : decode cc (pc + 4) = .ok (.ldc_w is, 3)) (d6 : decode cc (pc + 7) = .ok (.invokespecial ic, 3)) (d9 : decode cc (pc + 10) = .ok (.athrow, 1))
    (hout : ∀ x ∈ c.exceptionTable.toList, covers x (pc + 10) = false)
    (hRframes : names.length + 4 < R.frames) (hRlocals : (rest.map fun v => v.category).sum + (13 * (names.length + 2) + 43) ≤ R.locals) (hRcells : cells + 1 ≤ R.cells) (hRslots : slots + 6 ≤ R.slots) (hlocks : meth.locks = false)
    (hx : ∀ t : State, s.vm.Alike t.vm → H.size ≤ t.heap.size → (∀ q : Nat, q < H.size → t.heap[q]? = H[q]?) → XC cls s t)
    (hf : ∀ z ∈ locs, free z.base) (hc : cells + 1 ≤ mc) (hs : slots + 6 ≤ ms) :
    W p l e R s m args below meth c H locs cells slots (vx_MQ below Qc XC args s mc ms free) (F0 m pc ls rest) := by
  intro T hT X
  have htr : e.platform.stackTraces = false := (show e.platform.stackTraces = l.stackTraces by rw [X.admits.platform]).trans hl
  have Y := vx_rebase X (R' := { frames := R.frames, locals := R.locals, cells := 1, slots := 6 }) (Nat.le_refl _) (Nat.le_refl _) hRcells hRslots
  obtain ⟨s', hA⟩ : ∃ z, z = (T.setVm s.vm).setFrames (.invoking m args :: below) := ⟨_, rfl⟩
  rw [← hA] at Y
  have hvm : s'.vm = s.vm := by rw [hA]; rfl
  have hhp : s'.heap = H := by rw [hA]; exact hT
  have hW0 : s.WarmedH s'.vm := by rw [hvm]; exact State.WarmedH.refl s
  have hat' : ∀ w ∈ (en_all own ic cls Y0 names index bytes).filter vx_no, w.before args s' = true := fun w hw => vx_ot_at hW0 hvm.symm (hgood w (List.mem_cons_of_mem _ (List.mem_cons_of_mem _ hw))) (hat w hw)
  have hk' : (Cond.classLink own ik cls).before args s' = true := vx_ot_at hW0 hvm.symm (hgood _ List.mem_cons_self) hk
  have hini' : (Cond.initialized cls).before args s' = true := vx_ot_at hW0 hvm.symm (hgood _ (List.mem_cons_of_mem _ List.mem_cons_self)) hini
  have hU' : vx_Zq Bundle.tN "UNASSIGNED_STACK" Bundle.steD A s' s'.heap := by rw [hhp]; exact vx_Zq.moved hW0.alike (hU.kept hS.2.1)
  have hN' : vx_Zq Bundle.tN "SUPPRESSED_SENTINEL" Bundle.listD A s' s'.heap := by rw [hhp]; exact vx_Zq.moved hW0.alike (hN.kept hS.2.1)
  have h : ∀ w ∈ en_all own ic cls Y0 names index bytes, w.before args s' = true := vx_own hat' (vx_isRefq hU'.1) (vx_isRefq hN'.1) hU'.2.word hN'.2.word
  have hown' : s'.vm.findClass own = some m.cls := by rw [hvm]; exact hown
  have hins : (Cond.instantiable cls 6).before args s' = true := h _ (List.mem_append_right _ (List.mem_append_right _ (List.mem_append_right _ (by simp [en_tail]))))
  obtain ⟨vm₁, cX, kX, hfX, hkX, -, -, X₁, st1⟩ := Y.newCold hexec (own := own) (C := cls) (index := ik) (n := 6) hown' hk' hins hini'
    (g := F0 m pc ls rest) rfl (by rw [hb]; exact d0) (Nat.le_refl _) (Nat.le_refl _)
  generalize hT1 : (T.setVm vm₁).pushCell { cls := cX, slots := kX.instanceTypes.map defaultValue, vm := .none } = T1 at X₁ st1
  have hcat : (Value.ref T.heap.size).category = 1 := rfl
  have hcellA : T1.heap[T.heap.size]? = some (freshCell cX kX) := by rw [← hT1]; exact State.heap_pushCell_size _ _
  have d3' : decode c.code (pc + 3) = .ok (.dup, 1) := by rw [hb]; exact d3
  have d4' : decode c.code (pc + 4) = .ok (.ldc_w is, 3) := by rw [hb]; exact d4
  have hstr' : vk_R own is text sa s' := vk_R.warm hW0 hstr
  obtain ⟨U, hsteps, hrun, hend, hW, hsame, ce, hce, hOc, hOv⟩ := en_ctor X₁ hexec htr (own := own) (cls := cls) (names := names) (ic := ic) hown' hcls hY0 hnames y0 y1 y2 y5 h hfX hkX hcellA (by rw [hhp, hT]; exact Nat.le_refl _) (msg := .ref sa) rfl
    (g := { method := m, pc := pc + 7, locals := ls, stack := .ref sa :: .ref T.heap.size :: .ref T.heap.size :: rest, locked := none }) rfl hsize rfl rfl (rest := rest) rfl
    (by rw [hb]; exact d6) (by rw [hb]; exact d9) hout hRframes (by simp only [List.map_cons, List.sum_cons, hcat]; omega) hlocks
  obtain ⟨f1, f2⟩ := vx_frame hsame
  rw [hhp] at f1 f2
  have hWs : s.WarmedH U.vm := State.WarmedH.trans hW0 hW
  have hcl : s.vm.findClass cls = some ce.cls := by rw [hvm] at hOc; exact hOc
  have hall : s.sameButNew ({ U with vm := s.vm } : State) locs mc ms := by
    subst hA
    obtain ⟨e1, e2⟩ := hsame
    rw [State.setFrames_setFrames] at e1
    have h2 : (T.setVm s.vm).sameButNew ({ U with vm := s.vm } : State) [] (0 + 1) (0 + 6) := ⟨e1, e2⟩
    have h3 := X.same.trans h2
    rw [List.append_nil] at h3
    exact h3.mono hc hs
  refine ⟨U, ?_, .threw T.heap.size, hrun, hend, Or.inr ⟨T.heap.size, rfl, cls, ce, locs, hx U hWs.alike f1 (fun q hq => f2 q hq (fun z hz => nomatch hz)), hce, hOv, hcl, hWs, hall, hf⟩⟩
  refine st1 _ ?_
  show Steps p.tables e below (T1.setTop { method := m, pc := pc + 3, locals := ls, stack := .ref T.heap.size :: rest, locked := none }) _
  jvm_step X₁.here [X₁.here.top, hexec, d3', Value.category]
  exact X₁.ldcStringW hexec (own := own) (text := text) (index := is) (a := sa) hown' hstr'.1 hstr'.2
    (g := { method := m, pc := pc + 4, locals := ls, stack := .ref T.heap.size :: .ref T.heap.size :: rest, locked := none }) rfl d4' _ hsteps
section V5
variable {g : GP} {m m' : MT} {d d' : Nat} {Q Q' : Res → AH → Prop} {h : AH} {pc : Nat} {lc lc' st as : List AV}
theorem V_throwNW {ik is ic : Nat} {text : String} (d0 : decode m.2.1 pc = .ok (.new ik, 3)) (d3 : decode m.2.1 (pc + 3) = .ok (.dup, 1)) (d4 : decode m.2.1 (pc + 4) = .ok (.ldc_w is, 3)) (d6 : decode m.2.1 (pc + 7) = .ok (.invokespecial ic, 3)) (d9 : decode m.2.1 (pc + 10) = .ok (.athrow, 1))
    (hw : ThN m.1.cls ik is ic text) (hh : m.2.2.2.2 = []) (hd' : 8 ≤ d) (h1 : h_n h + 1 ≤ z_CC) (h2 : h_u h + 6 ≤ z_CS) (hq : ∀ n, h_n h ≤ n → n ≤ h_n h + 1 → Q (.inr z_nse) (h_ct h n (h_u h + 6))) : V g m d Q h pc lc [] := by
  intro p lch e R s mi args below meth c H locs cells slots ls C P S L
  have hts := C.2.2.2.2.1
  have F := C.2.2.2.2.2.2.2.2.2.2.2.2.1
  have hR := C.2.2.2.2.2.2.2.2.2.2.1
  have hb := C.2.2.2.2.2.2.2.2.2.2.2.1
  have hat := thr_atN hw hts F
  obtain ⟨w1, w4, w5, w6, w8, w9, w10⟩ := hw

  obtain ⟨sa, hsa⟩ := F.2.2.2.2.1 _ w6
  rw [← w1] at hsa
  have hout : ∀ x ∈ c.exceptionTable.toList, covers x (pc + 10) = false := by
    rw [C.2.2.2.2.2.2.2.2.2.2.2.2.2, hh]
    intro x hx
    cases hx
  intro T hT X
  subst hT
  obtain ⟨X2, b1, b2⟩ := C.exact P X
  have hsum := st_sum X hb
  have hsz : s.heap.size ≤ T.heap.size := X.same.2.1
  obtain ⟨p1, p2, -, p4, -, -⟩ := id P
  have kk : W p lch e R s mi args below meth c T.heap locs (T.heap.size - s.heap.size) (z_s (g_b g) T.heap - z_s (g_b g) s.heap) (vx_MQ below (QcV g Q) (fun E st t => E = z_nse ∧ T.heap.size ≤ t.heap.size ∧ (∀ q : Nat, q < T.heap.size → t.heap[q]? = T.heap[q]?)) args s (T.heap.size - s.heap.size + 1) (z_s (g_b g) T.heap - z_s (g_b g) s.heap + 6) (fun q => g_b g ≤ q)) (F0 mi pc ls []) :=
    en_throwW (Y0 := "java/lang/RuntimeException") (names := ["java/lang/Exception"]) C.1 C.2.1 C.2.2.2.2.2.2.2.2.2.1 C.2.2.2.1 (by decide) (by decide) (by decide) nse_0 nse_1 nse_2 nse_5 (hts _ w4) (hts _ w5) hsa (by rw [w1]; exact hat) (by rw [w1]; rw [w1] at w10; exact w10) F.2.2.2.1.1 F.2.2.2.1.2 S (L.1.trans C.2.2.1.symm) d0 d3 d4 d6 d9 hout (by show 1 + 4 < _; omega) (by show 0 + (13 * (1 + 2) + 43) ≤ _; omega) (by omega) (by omega) C.2.2.2.2.2.2.2.2.1 (fun t _ g1 g2 => ⟨rfl, g1, g2⟩) S.2.2 (by omega) (by omega)
  obtain ⟨t2, a1, o, o1, o2, o3⟩ := kk T rfl X2
  refine ⟨t2, a1, o, o1, o2, ?_⟩
  rcases o3 with ⟨o3, L9, o4, o5⟩ | ⟨q, rfl, E, ce, L9, ⟨rfl, g1, g2⟩, hce, hcv, hcl, hW, hsm, hL⟩
  · obtain ⟨hv, hW, hsm⟩ := o4
    exact Or.inl ⟨o3, L9, ⟨hv, hW, hsm.mono (by omega) (by omega)⟩, o5⟩
  · refine Or.inr ⟨q, rfl, z_nse, ce, L9, ⟨?_, ?_⟩, hce, hcv, hcl, hW, hsm.mono (by omega) (by omega), hL⟩
    · have hz : z_s (g_b g) t2.heap ≤ h_u h + 6 := by
        obtain ⟨-, s2, s3, -, s5, s6⟩ := hsm
        have := thr_sum (b := g_b g) (s := s) (U := t2) s2 s6 hb
        have s5 : ((t2.heap.toList.drop s.heap.size).map (·.slots.size)).sum ≤ _ := s5
        omega
      obtain ⟨n, n1, n2, hRp⟩ := P.ct g1 g2 (by have s3 : t2.heap.size ≤ _ := hsm.2.2.1; omega) hz h1 h2
      exact ⟨_, hRp, hq n n1 n2⟩
    · exact ⟨Nat.le_trans hsz g1, fun q q1 q2 => (g2 q (Nat.lt_of_lt_of_le q1 hsz)).trans (S.2.1 q q1 q2)⟩
end V5
abbrev eIA : String := "java/lang/IllegalArgumentException"
abbrev eIS : String := "java/lang/IllegalStateException"
abbrev eUO : String := "java/lang/UnsupportedOperationException"
abbrev eIO : String := "java/lang/IndexOutOfBoundsException"
abbrev eNS : String := "java/util/NoSuchElementException"
abbrev eAR : String := "java/lang/ArithmeticException"
/-- a throw -/
def Qt (h : AH) (E : String) : Res → AH → Prop := fun r h' => r = .inr E ∧ ∃ n, h_n h ≤ n ∧ n ≤ h_n h + 1 ∧ h' = h_ct h n (h_u h + 6)
theorem DR.ct {h : AH} {A : AD} {D : MS} {N U n u : Nat} (H : DR h A D N U) (h1 : h_n h ≤ n ∧ n ≤ h_n h + 4) (h2 : u ≤ h_u h + 200) (hN : N + 200 ≤ z_CC) (hU : U + 5000 ≤ z_CS) : DR (h_ct h n u) A D (N + 4) (U + 200) := by
  obtain ⟨tg, bw, cp, bt, ct, ⟨b1, b2⟩, bA, bS, bN, bL, bT, bB⟩ := H
  obtain ⟨c1, c2, c3, c4, c5⟩ := bB
  refine ⟨tg, bw, cp, bt, ct, ⟨fun q hq => ?_, ?_, b2.2⟩, bA, bS, bN, bL, bT, c1, ?_, ?_, by omega, by omega⟩
  · have := b1 q hq
    exact ⟨this.1, by show q < n; omega⟩
  · show 41 ≤ n
    omega
  · show n + _ + _ ≤ _
    omega
  · show u + _ + _ ≤ _
    omega
theorem FD.ct {h0 h : AH} {n u : Nat} (F : FD h0 h) : FD h0 (h_ct h n u) := F
/-- a public call -/
def Qp (h0 : AH) (N U : Nat) (x : Res × MS) : Res → AH → Prop := fun r h' => r = x.1 ∧ (∃ A', DR h' A' x.2 (N + 4) (U + 200)) ∧ FD h0 h'
def TX (g : GP) (m : MT) (d : Nat) (as : List AV) (N U : Nat) (D : MS) (x : Res × MS) : Prop := ∀ A h, DR h A D N U → Tr g m d as h (Qp h N U x)
section D6
variable {g : GP} {m m' : MT} {d d' : Nat} {Q Q' : Res → AH → Prop} {h h0 : AH} {pc : Nat} {lc lc' st as : List AV} {A : AD} {D : MS} {N U : Nat}
theorem TX.of {x : Res × MS} (hpl : plainName m.1.cls = true) (hh : m.2.2.2.2 = []) (hc : ∀ v ∈ as, (∃ z, v = xI z) ∨ ∃ n, v = xR n) (hn : as.length ≤ m.2.2.1) (k : ∀ A h0 h, DR h A D N U → FD h0 h → V g m d (Qp h0 N U x) h 0 (l_0 m.2.2.1 as) []) : TX g m d as N U D x := by
  intro A h hM
  refine Tr.ofV hpl hh (fun w hw => ?_) hn (k A h h hM FD.rf)
  rcases hc w hw with ⟨z, rfl⟩ | ⟨z, rfl⟩
  · rfl
  · exact cat_R
theorem qthr {x : Res × MS} {E : String} {n : Nat} {D0 : MS} (hM : DR h A D N U) (hF : FD h0 h) (hN : N + 200 ≤ z_CC) (hU : U + 5000 ≤ z_CS) (a : h_n h ≤ n) (b : n ≤ h_n h + 1) (e : x = (.inr E, D0)) (e2 : D0 = D) : Qp h0 N U x (.inr E) (h_ct h n (h_u h + 6)) := by
  subst e; subst e2
  exact ⟨rfl, ⟨A, hM.ct ⟨a, by omega⟩ (by omega) hN hU⟩, hF.ct⟩
theorem qret {x : Res × MS} {v : Option AV} {D0 : MS} (hM : DR h A D N U) (hF : FD h0 h) (hN : N + 200 ≤ z_CC) (hU : U + 5000 ≤ z_CS) (e : x = (.inl v, D0)) (e2 : D0 = D) : Qp h0 N U x (.inl v) h := by
  subst e; subst e2
  exact ⟨rfl, ⟨A, hM.ct (n := h_n h) (u := h_u h) ⟨Nat.le_refl _, by omega⟩ (by omega) hN hU⟩, hF⟩
end D6
theorem X_X3_elementOf (g : GP) {h : AH} {A : AD} {D : MS} {N U : Nat} (hM : DR h A D N U) (l : Int) (i : Int) (r_i : -2147483648 ≤ i ∧ i ≤ 2147483647) (hv : vL D l) (hn : l ≠ 46 ∧ l ≠ 47) (hx : ¬ (0 ≤ i ∧ i < D 70 l)) : Tr g m_X3_elementOf 8 [xR (A 6 l), xI i] h (Qt h eNS) := by
  refine Tr.ofV (by decide) rfl (fun v hv => ?_) (Nat.le_of_ble_eq_true rfl) ?_
  · simp only [List.mem_cons, List.not_mem_nil, or_false] at hv
    rcases hv with rfl | rfl <;> first | rfl | exact cat_R
  change V g m_X3_elementOf 8 _ h 0 [xR (A 6 l), xI i] []
  refine V_iload_n dX3_elementOf_0 rfl ?_
  refine V_if_lt (tgt := 12) dX3_elementOf_1 (by decide) (by omega) (fun q1 => ?_) (fun q1 => ?_)
  · refine V_throwNW dX3_elementOf_12 dX3_elementOf_15 dX3_elementOf_16 dX3_elementOf_19 dX3_elementOf_22 t_RX3_113_322 rfl (by decide) (by have := hM.room; omega) (by have := hM.room; omega) (fun n9 n9a n9b => ?_)
    exact ⟨rfl, n9, n9a, n9b, rfl⟩
  · refine V_iload_n dX3_elementOf_4 rfl ?_
    refine V_aload_n dX3_elementOf_5 rfl ?_
    refine V_dSz (l := l) (w := D 70 l) dX3_elementOf_6 c_RX3_69 rfl (by decide) (Nat.le_of_ble_eq_true rfl) rfl hM hv rfl (fun r6 => ?_)
    refine V_icmp_lt (tgt := 23) dX3_elementOf_9 (by decide) (by omega) (by omega) (fun q9 => absurd q9 (by omega)) (fun q9 => ?_)
    refine V_throwNW dX3_elementOf_12 dX3_elementOf_15 dX3_elementOf_16 dX3_elementOf_19 dX3_elementOf_22 t_RX3_113_322 rfl (by decide) (by have := hM.room; omega) (by have := hM.room; omega) (fun n9 n9a n9b => ?_)
    exact ⟨rfl, n9, n9a, n9b, rfl⟩
theorem X_X3_questionOf (g : GP) {h : AH} {A : AD} {D : MS} {N U : Nat} (hM : DR h A D N U) (i : Int) (r_i : -2147483648 ≤ i ∧ i ≤ 2147483647) (hI : ID D) (hx : ¬ (0 ≤ i ∧ i < D 70 45)) : Tr g m_X3_questionOf 8 [xR 8, xI i] h (Qt h eIO) := by
  refine Tr.ofV (by decide) rfl (fun v hv => ?_) (Nat.le_of_ble_eq_true rfl) ?_
  · simp only [List.mem_cons, List.not_mem_nil, or_false] at hv
    rcases hv with rfl | rfl <;> first | rfl | exact cat_R
  obtain ⟨i90, i91, i92⟩ := hI.n
  obtain ⟨c90, c91, c92⟩ := hI.c
  obtain ⟨⟨z90, -⟩, ⟨z91, -⟩, z92, -⟩ := hM.b.2.2.1
  change V g m_X3_questionOf 8 _ h 0 [xR 8, xI i] []
  refine V_iload_n dX3_questionOf_0 rfl ?_
  refine V_if_lt (tgt := 15) dX3_questionOf_1 (by decide) (by omega) (fun q1 => ?_) (fun q1 => ?_)
  · refine V_throwW dX3_questionOf_15 dX3_questionOf_18 dX3_questionOf_19 dX3_questionOf_22 dX3_questionOf_25 t_RX3_313_315 rfl (by decide) (by have := hM.room; omega) (by have := hM.room; omega) (fun n9 n9a n9b => ?_)
    exact ⟨rfl, n9, n9a, n9b, rfl⟩
  · refine V_iload_n dX3_questionOf_4 rfl ?_
    refine V_aload_n dX3_questionOf_5 rfl ?_
    refine V_dgr (f := 8) (i := 0) (b := 10) dX3_questionOf_6 fg_RX3_16 rfl rfl hM.fx.1 hM (vAx (by decide)) hM.s.1.2.1 ?_
    refine V_dSz (l := 45) (w := D 70 45) dX3_questionOf_9 c_RX3_69 rfl (by decide) (Nat.le_of_ble_eq_true rfl) hM.fx.2.2.2.1 hM (vL4 (by decide)) rfl (fun r9 => ?_)
    refine V_icmp_lt (tgt := 26) dX3_questionOf_12 (by decide) (by omega) (by omega) (fun q12 => absurd q12 (by omega)) (fun q12 => ?_)
    refine V_throwW dX3_questionOf_15 dX3_questionOf_18 dX3_questionOf_19 dX3_questionOf_22 dX3_questionOf_25 t_RX3_313_315 rfl (by decide) (by have := hM.room; omega) (by have := hM.room; omega) (fun n9 n9a n9b => ?_)
    exact ⟨rfl, n9, n9a, n9b, rfl⟩
theorem X_X3_planOf (g : GP) {h : AH} {A : AD} {D : MS} {N U : Nat} (hM : DR h A D N U) (i : Int) (r_i : -2147483648 ≤ i ∧ i ≤ 2147483647) (hI : ID D) (hx : ¬ (0 ≤ i ∧ i < D 70 46)) : Tr g m_X3_planOf 8 [xR 8, xI i] h (Qt h eIO) := by
  refine Tr.ofV (by decide) rfl (fun v hv => ?_) (Nat.le_of_ble_eq_true rfl) ?_
  · simp only [List.mem_cons, List.not_mem_nil, or_false] at hv
    rcases hv with rfl | rfl <;> first | rfl | exact cat_R
  obtain ⟨i90, i91, i92⟩ := hI.n
  obtain ⟨c90, c91, c92⟩ := hI.c
  obtain ⟨⟨z90, -⟩, ⟨z91, -⟩, z92, -⟩ := hM.b.2.2.1
  change V g m_X3_planOf 8 _ h 0 [xR 8, xI i] []
  refine V_iload_n dX3_planOf_0 rfl ?_
  refine V_if_lt (tgt := 15) dX3_planOf_1 (by decide) (by omega) (fun q1 => ?_) (fun q1 => ?_)
  · refine V_throwW dX3_planOf_15 dX3_planOf_18 dX3_planOf_19 dX3_planOf_22 dX3_planOf_25 t_RX3_313_318 rfl (by decide) (by have := hM.room; omega) (by have := hM.room; omega) (fun n9 n9a n9b => ?_)
    exact ⟨rfl, n9, n9a, n9b, rfl⟩
  · refine V_iload_n dX3_planOf_4 rfl ?_
    refine V_aload_n dX3_planOf_5 rfl ?_
    refine V_dgr (f := 8) (i := 0) (b := 12) dX3_planOf_6 fg_RX3_23 rfl rfl hM.fx.1 hM (vAx (by decide)) hM.s.1.2.2.2.1 ?_
    refine V_dSz (l := 46) (w := D 70 46) dX3_planOf_9 c_RX3_69 rfl (by decide) (Nat.le_of_ble_eq_true rfl) hM.fx.2.2.2.2.2.1 hM (vL4 (by decide)) rfl (fun r9 => ?_)
    refine V_icmp_lt (tgt := 26) dX3_planOf_12 (by decide) (by omega) (by omega) (fun q12 => absurd q12 (by omega)) (fun q12 => ?_)
    refine V_throwW dX3_planOf_15 dX3_planOf_18 dX3_planOf_19 dX3_planOf_22 dX3_planOf_25 t_RX3_313_318 rfl (by decide) (by have := hM.room; omega) (by have := hM.room; omega) (fun n9 n9a n9b => ?_)
    exact ⟨rfl, n9, n9a, n9b, rfl⟩
theorem X_X3_sheetOf (g : GP) {h : AH} {A : AD} {D : MS} {N U : Nat} (hM : DR h A D N U) (i : Int) (r_i : -2147483648 ≤ i ∧ i ≤ 2147483647) (hI : ID D) (hx : ¬ (0 ≤ i ∧ i < D 70 47)) : Tr g m_X3_sheetOf 8 [xR 8, xI i] h (Qt h eIO) := by
  refine Tr.ofV (by decide) rfl (fun v hv => ?_) (Nat.le_of_ble_eq_true rfl) ?_
  · simp only [List.mem_cons, List.not_mem_nil, or_false] at hv
    rcases hv with rfl | rfl <;> first | rfl | exact cat_R
  obtain ⟨i90, i91, i92⟩ := hI.n
  obtain ⟨c90, c91, c92⟩ := hI.c
  obtain ⟨⟨z90, -⟩, ⟨z91, -⟩, z92, -⟩ := hM.b.2.2.1
  change V g m_X3_sheetOf 8 _ h 0 [xR 8, xI i] []
  refine V_iload_n dX3_sheetOf_0 rfl ?_
  refine V_if_lt (tgt := 15) dX3_sheetOf_1 (by decide) (by omega) (fun q1 => ?_) (fun q1 => ?_)
  · refine V_throwW dX3_sheetOf_15 dX3_sheetOf_18 dX3_sheetOf_19 dX3_sheetOf_22 dX3_sheetOf_25 t_RX3_313_320 rfl (by decide) (by have := hM.room; omega) (by have := hM.room; omega) (fun n9 n9a n9b => ?_)
    exact ⟨rfl, n9, n9a, n9b, rfl⟩
  · refine V_iload_n dX3_sheetOf_4 rfl ?_
    refine V_aload_n dX3_sheetOf_5 rfl ?_
    refine V_dgr (f := 8) (i := 0) (b := 13) dX3_sheetOf_6 fg_RX3_26 rfl rfl hM.fx.1 hM (vAx (by decide)) hM.s.1.2.2.2.2.1 ?_
    refine V_dSz (l := 47) (w := D 70 47) dX3_sheetOf_9 c_RX3_69 rfl (by decide) (Nat.le_of_ble_eq_true rfl) hM.fx.2.2.2.2.2.2.1 hM (vL4 (by decide)) rfl (fun r9 => ?_)
    refine V_icmp_lt (tgt := 26) dX3_sheetOf_12 (by decide) (by omega) (by omega) (fun q12 => absurd q12 (by omega)) (fun q12 => ?_)
    refine V_throwW dX3_sheetOf_15 dX3_sheetOf_18 dX3_sheetOf_19 dX3_sheetOf_22 dX3_sheetOf_25 t_RX3_313_320 rfl (by decide) (by have := hM.room; omega) (by have := hM.room; omega) (fun n9 n9a n9b => ?_)
    exact ⟨rfl, n9, n9a, n9b, rfl⟩

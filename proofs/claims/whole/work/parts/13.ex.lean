
/-! 'throw new NoSuchElementException(text)': its constructor passes the text on by another pool entry (13) than the kit's row for such throws takes (7). The two theorems below follow the library's own proof for the entry 7 (Stand.ctorThrowS) and the kit's row that rests on it (vx_throwS), for any entry. -/
def en_tail (own : String) (ic : Nat) (X : String) : List Cond :=
  [.methodLink own ic (Bundle.initS X), .instantiable X 6, .castable X X, .selects X Bundle.tFill0 Bundle.tFill0, .selects X Bundle.tFill Bundle.tFill,
   .lays X Bundle.tN "cause" "Ljava/lang/Throwable;", .lays X Bundle.tN "stackTrace" Bundle.steD, .lays X Bundle.tN "suppressedExceptions" Bundle.listD, .lays X Bundle.tN "detailMessage" "Ljava/lang/String;",
   .isRef (.static Bundle.tN "UNASSIGNED_STACK" Bundle.steD), .isRef (.static Bundle.tN "SUPPRESSED_SENTINEL" Bundle.listD),
   .fieldLink Bundle.tN 198 Bundle.tN "backtrace" "Ljava/lang/Object;", .lays Bundle.tN Bundle.tN "backtrace" "Ljava/lang/Object;", .lays X Bundle.tN "backtrace" "Ljava/lang/Object;"]
def en_all (own : String) (ic : Nat) (X Y : String) (names : List String) (index : Nat) (bytes : ByteArray) : List Cond :=
  (Bundle.throwableAtoms ++ Bundle.throwableSAtoms) ++ (Bundle.passSAtoms X Y index bytes ++ (Bundle.chainSAtoms Y names ++ en_tail own ic X))
theorem en_ctor {p : Program} {l : Launch} {e : Env} {R : Room} {s : State} {m₀ : MethodId} {args : Array Value} {below : List Frame} {meth : Method} {c : Code} {W0 : State} {cells slots : Nat}
    (X : Stand p l e R s m₀ args below meth c W0 [] cells slots) (hexec : p.tables.exec = Jvm.exec) (htr : e.platform.stackTraces = false) {own cls Y0 : String} {names : List String} {ic index : Nat} {bytes : ByteArray}
    (hown : s.vm.findClass own = some m₀.cls) (hcls : Bundle.fit cls = true) (hY0 : Bundle.fit Y0 = true) (hnames : ∀ n ∈ names, Bundle.fit n = true)
    (y0 : decode bytes 0 = .ok (.aload_n 0, 1)) (y1 : decode bytes 1 = .ok (.aload_n 1, 1)) (y2 : decode bytes 2 = .ok (.invokespecial index, 3)) (y5 : decode bytes 5 = .ok (.return_, 1))
    (h : ∀ a ∈ en_all own ic cls Y0 names index bytes, a.before args s = true)
    {a : Addr} {cX : ClassId} {kX : Class} (hfoundX : s.vm.findClass cls = some cX) (hkX : s.vm.classes[cX]? = some kX) (hcell : W0.heap[a]? = some (freshCell cX kX)) (hnew : s.heap.size ≤ a)
    {msg : Value} (hmsg : msg.isRef = true)
    {g : JFrame} (hg : g.method = m₀) (hsize : g.locals.size = c.maxLocals) (hlocked : g.locked = none) (hentered : g.entered = []) {rest : List Value} (hstack : g.stack = msg :: .ref a :: .ref a :: rest)
    (hd6 : decode c.code g.pc = .ok (.invokespecial ic, 3)) (hd9 : decode c.code (g.pc + 3) = .ok (.athrow, 1)) (hout : ∀ x ∈ c.exceptionTable.toList, covers x (g.pc + 3) = false)
    (hRframes : names.length + 4 < R.frames) (hRlocals : 2 * g.monitorRoom + ((Value.ref a :: rest).map fun v => v.category).sum + (13 * (names.length + 2) + 42) ≤ R.locals) (hlocks : meth.locks = false) :
    ∃ U : State, Steps p.tables e below (W0.setTop g) U ∧ U.status = .running ∧ Ended U below (.threw a) ∧ s.WarmedH U.vm ∧ s.sameButNew ({ U with vm := s.vm } : State) [] cells slots ∧
      ∃ ce, U.heap[a]? = some ce ∧ s.vm.findClass cls = some ce.cls ∧ ce.vm = .none := by
  have howns : e.platform.frameOwnsMonitors = true := by rw [X.admits.platform]
  have hfin : e.platform.finalization = false := by rw [X.admits.platform]
  have hpl : e.platform.magicAccessors = ({} : Platform).magicAccessors := by rw [X.admits.platform]
  have hA : ∀ x ∈ Bundle.throwableAtoms ++ Bundle.throwableSAtoms, x.before args s = true := fun x hx => h x (List.mem_append_left _ hx)
  have hB : ∀ x ∈ Bundle.passSAtoms cls Y0 index bytes, x.before args s = true := fun x hx => h x (List.mem_append_right _ (List.mem_append_left _ hx))
  have hC : ∀ x ∈ Bundle.chainSAtoms Y0 names, x.before args s = true := fun x hx => h x (List.mem_append_right _ (List.mem_append_right _ (List.mem_append_left _ hx)))
  have hD : ∀ x ∈ en_tail own ic cls, x.before args s = true := fun x hx => h x (List.mem_append_right _ (List.mem_append_right _ (List.mem_append_right _ hx)))
  have a' : ∀ x, x ∈ en_tail own ic cls → x.holds args s none s [] = true := fun x hx => hD x hx
  obtain ⟨T, Z0, L, -, Y⟩ := ThrowableC.of_atoms (args := args) howns hfin hpl (fun x hx => hA x (List.mem_append_left _ hx))
  obtain ⟨Z, M, LZ, LM, hnZ⟩ := Init0T.ofS_atoms (args := args) hpl L Y (fun x hx => hA x (List.mem_append_right _ hx))
  obtain ⟨P1, L1, hP1m, hP1s⟩ := PassC.ofS_atoms (args := args) (s := s) hpl (X := cls) (Y := Y0) (Bundle.fit_spec hcls).1 (Bundle.fit_spec hY0).2 y0 y1 y2 y5 hB
  obtain ⟨P2, Ps, hlen, L2, hL, hP2m, hlink1, hlink⟩ := Bundle.chainS (args := args) hpl hnZ names Y0 hY0 hnames hC
  have hsup : P1.sup = P2.m := Option.some.inj (hP1s.symm.trans hP2m)
  have hfound : s.vm.findClass cls = some P1.m.cls := findClass_of_methodNamed hP1m
  cases Option.some.inj (hfoundX.symm.trans hfound)
  obtain ⟨c1, kX', hc1, hk, hord, -, -, hn6⟩ := Cond.instantiable_spec (a' (.instantiable cls 6) (by simp [en_tail]))
  cases Option.some.inj (hc1.symm.trans hfound)
  cases Option.some.inj (hkX.symm.trans hk)
  have hsel0 : selectMethod e.platform s.vm P1.m.cls T.fill0 = .method T.fill0 := by
    obtain ⟨c2, r2, m2, q1, q2, q3, q4, -⟩ := Cond.selects_spec (a' (.selects cls Bundle.tFill0 Bundle.tFill0) (by simp [en_tail]))
    cases Option.some.inj (q1.symm.trans hfound)
    cases Option.some.inj (q2.symm.trans (State.methodFound?_of_named Y.fill0 (by decide)))
    cases Option.some.inj (q3.symm.trans Y.fill0)
    rw [Launch.admits_selectMethod X.admits]; exact q4
  have hselF : selectMethod e.platform s.vm P1.m.cls T.fill = .method T.fill := by
    obtain ⟨c2, r2, m2, q1, q2, q3, q4, -⟩ := Cond.selects_spec (a' (.selects cls Bundle.tFill Bundle.tFill) (by simp [en_tail]))
    cases Option.some.inj (q1.symm.trans hfound)
    cases Option.some.inj (q2.symm.trans (State.methodFound?_of_named Y.fill (by decide)))
    cases Option.some.inj (q3.symm.trans Y.fill)
    rw [Launch.admits_selectMethod X.admits]; exact q4
  obtain ⟨cellS0, hcS0, hiss⟩ := Y.statics
  obtain ⟨u0, hu0⟩ := Cond.staticRefV Y.unassigned L.unassignedStatic L.statics hcS0 hiss (a' (.isRef (.static Bundle.tN "UNASSIGNED_STACK" Bundle.steD)) (by simp [en_tail]))
  obtain ⟨sen, hsen⟩ := Cond.staticRefV Y.sentinel L.sentinelStatic L.statics hcS0 hiss (a' (.isRef (.static Bundle.tN "SUPPRESSED_SENTINEL" Bundle.listD)) (by simp [en_tail]))
  obtain ⟨ci198, i198, fB, hk198, hg198, ha198, hsB, -, hnB, htB, hffB⟩ := Cond.ownField (t := .object "java/lang/Object") Y.found L.cls (by decide +kernel) (a' (.fieldLink Bundle.tN 198 Bundle.tN "backtrace" "Ljava/lang/Object;") (by simp [en_tail])) (a' (.lays Bundle.tN Bundle.tN "backtrace" "Ljava/lang/Object;") (by simp [en_tail])) e.platform hpl
  obtain ⟨cellS, hcS', heS, -, hkeep⟩ := X.same.2.2.2.2.2 T.aS cellS0 hcS0
  have hcellS : W0.heap[T.aS]? = some cellS := hcS'
  have hknownS : cellS.vm ≠ .unknown := by
    rw [heS]; intro hu
    rw [show cellS0.vm = .unknown from hu] at hiss
    cases hiss
  have hneS : T.aS ≠ a := Nat.ne_of_lt (Nat.lt_of_lt_of_le (Array.getElem?_eq_some_iff.mp hcS0).1 hnew)
  obtain ⟨iM, hffM⟩ := Y.msg
  obtain ⟨tyC, dC, hdC, hdnC⟩ := Cond.laysAt hfound hk Y.cause (a' (.lays cls Bundle.tN "cause" "Ljava/lang/Throwable;") (by simp [en_tail]))
  obtain ⟨tyS, dS, hdS, hdnS⟩ := Cond.laysAt hfound hk Y.stack (a' (.lays cls Bundle.tN "stackTrace" Bundle.steD) (by simp [en_tail]))
  obtain ⟨tyP, dP, hdP, hdnP⟩ := Cond.laysAt hfound hk Y.supp (a' (.lays cls Bundle.tN "suppressedExceptions" Bundle.listD) (by simp [en_tail]))
  obtain ⟨tyM, dM, hdM, hdnM⟩ := Cond.laysAt hfound hk hffM (a' (.lays cls Bundle.tN "detailMessage" "Ljava/lang/String;") (by simp [en_tail]))
  obtain ⟨tyB, dB, hdB, hdnB⟩ := Cond.laysAt hfound hk hffB (a' (.lays cls Bundle.tN "backtrace" "Ljava/lang/Object;") (by simp [en_tail]))
  have bC := Cond.laysApart hdB hdC hdnB hdnC (by rw [hnB, Y.causeName]; decide)
  have bS := Cond.laysApart hdB hdS hdnB hdnS (by rw [hnB, Y.stackName]; decide)
  have bP := Cond.laysApart hdB hdP hdnB hdnP (by rw [hnB, Y.suppName]; decide)
  have hskip : SkipFacts T e.platform s (fun u => u) u0 ((preparedCellV T.toThrowableT (freshCell P1.m.cls kX) a u0 sen).withEntry W0.cur) :=
    ⟨{ ci198 := ci198, i198 := i198, fBack := fB }, ⟨hk198, hg198, ha198, hsB⟩, by
      have := fresh_default (c := P1.m.cls) tyB
      rw [htB] at this
      simpa [preparedCellV, Cell.setSlot, Cell.withEntry, Array.getElem?_setIfInBounds, bC, bS, bP, bC.symm, bS.symm, bP.symm, defaultValue] using this, fun _ _ => rfl⟩
  obtain ⟨tm, methC, cdC, kC, vm₁, hnC, -, -, -, -, -, -, -, hW₁, st1⟩ := Steps.initColdS (tb := p.tables) (e := e) (below := below) (s := s) (U := W0) X.here hexec X.warmed hpl hown (t := Bundle.initS cls) rfl rfl (Bundle.fit_spec hcls).2
    (a' (.methodLink own ic (Bundle.initS cls)) (by simp [en_tail])) (hB (.instanceMethod (Bundle.initS cls)) (by simp [Bundle.passSAtoms])) (bytes := bytes) (maxL := 2) (hB (.code (Bundle.initS cls) bytes 2 none) (by simp [Bundle.passSAtoms]))
    (f := g) hg (a := a) (msg := msg) (rest := .ref a :: rest) hstack hd6
  cases Option.some.inj (hnC.symm.trans hP1m)
  have X₁ := X.noted hW₁
  obtain ⟨vm₂, X₂, st2⟩ := X₁.ctorMessageOffV hexec (g := { g with stack := .ref a :: rest }) hg hsize T L Z LZ M LM (P1 :: P2 :: Ps)
    (fun P hP => by
      rcases List.mem_cons.mp hP with rfl | hP
      · exact L1
      · rcases List.mem_cons.mp hP with rfl | hP
        · exact L2
        · exact hL P hP) ⟨hsup, hlink1, hlink⟩ (u0 := u0) (sen := sen) (self := a) hmsg (cell := freshCell P1.m.cls kX) (cellS := cellS)
    hcell (fun _ => by simp) (by simp) rfl rfl hsel0 hselF hcellS hneS hknownS (by rw [hkeep _ (fun z => nomatch z)]; exact hu0) (by rw [hkeep _ (fun z => nomatch z)]; exact hsen)
    (Takes.of_laid hk hord tyC (by rw [Y.causeType]; rfl)) (Takes.of_laid hk hord tyS (by rw [Y.stackType]; exact fits_refV_array _ u0)) (Takes.of_laid hk hord tyP (by rw [Y.suppType]; exact fits_refV_object _ sen))
    (Takes.of_laid hk hord tyM (by rw [Y.msgType]; exact fits_refV_object _ ⟨msg, hmsg⟩)) Y.objLocals hskip htr [] hd6
    (by simp only [List.length_cons, hlen]; omega) (by simp only [List.length_cons, hlen]; exact hRlocals)
  obtain ⟨hwalk, hrun, hended, hWU, hsame⟩ := X₂.athrowLeaves hexec (g := { g with stack := .ref a :: rest, pc := g.pc + 3 }) hg hlocked hentered hout (a := a) (rest := rest) rfl hd9
  have hlt : a < ((W0.setVm vm₁).setVm vm₂).heap.size := (Array.getElem?_eq_some_iff.mp hcell).1
  have hU := heapAt_setCell_self (s := (W0.setVm vm₁).setVm vm₂) (plainBareV T.toThrowableT (freshCell P1.m.cls kX) a u0 sen msg) hlt
  refine ⟨_, st1 _ (fun acts => ?_), hrun, hended, hWU, hsame.weaken (fun y hy hlt' => ?_) (Nat.le_refl _) (Nat.le_refl _), _, hU, hfound, rfl⟩
  · rw [doInvoke_state]
    exact st2 _ hwalk
  · rcases List.mem_append.mp hy with h1 | h1
    · exact h1
    · exfalso
      have hb : y.base = a := by
        simp only [List.mem_cons, List.not_mem_nil, or_false] at h1
        rcases h1 with rfl | rfl | rfl | rfl | rfl <;> rfl
      rw [hb] at hlt'
      exact Nat.not_lt.mpr hnew hlt'

theorem en_throw {p : Program} {l : Launch} {e : Env} {R : Room} {s : State} {m : MethodId} {args : Array Value} {below : List Frame} {meth : Method} {c : Code} {H : Heap} {locs : List Loc} {cells slots : Nat} {free : Addr → Prop} {Qc : Array Value → State → Outcome → State → Prop} {XC : String → State → State → Prop} {ls : Array Slot} {rest : List Value}
    {cc : ByteArray} {pc : Nat} (hexec : p.tables.exec = Jvm.exec) (hb : c.code = cc) (hl : l.stackTraces = false) {own cls text Y0 : String} {names : List String} {ik is ic mc ms sa index : Nat} {bytes : ByteArray} {A : Nat → Prop}
    (hown : s.vm.findClass own = some m.cls) (hcls : Bundle.fit cls = true) (hY0 : Bundle.fit Y0 = true) (hnames : ∀ n ∈ names, Bundle.fit n = true)
    (y0 : decode bytes 0 = .ok (.aload_n 0, 1)) (y1 : decode bytes 1 = .ok (.aload_n 1, 1)) (y2 : decode bytes 2 = .ok (.invokespecial index, 3)) (y5 : decode bytes 5 = .ok (.return_, 1))
    (hk : (Cond.classLink own ik cls).before args s = true) (hini : (Cond.initialized cls).before args s = true) (hstr : vk_R own is text sa s) (hat : ∀ w ∈ (en_all own ic cls Y0 names index bytes).filter vx_no, w.before args s = true)
    (hgood : ∀ w ∈ Cond.classLink own ik cls :: Cond.initialized cls :: (en_all own ic cls Y0 names index bytes).filter vx_no, vx_ot w = true)
    (hU : vx_Zq Bundle.tN "UNASSIGNED_STACK" Bundle.steD A s s.heap) (hN : vx_Zq Bundle.tN "SUPPRESSED_SENTINEL" Bundle.listD A s s.heap) (hS : va_S A s.heap H locs) (hsize : ls.size = c.maxLocals)
    (d0 : decode cc pc = .ok (.new ik, 3)) (d3 : decode cc (pc + 3) = .ok (.dup, 1)) (d4 : decode cc (pc + 4) = .ok (.ldc is, 2)) (d6 : decode cc (pc + 6) = .ok (.invokespecial ic, 3)) (d9 : decode cc (pc + 9) = .ok (.athrow, 1))
    (hout : ∀ x ∈ c.exceptionTable.toList, covers x (pc + 9) = false)
    (hRframes : names.length + 4 < R.frames) (hRlocals : (rest.map fun v => v.category).sum + (13 * (names.length + 2) + 43) ≤ R.locals) (hRcells : cells + 1 ≤ R.cells) (hRslots : slots + 6 ≤ R.slots) (hlocks : meth.locks = false)
    (hx : ∀ t : State, s.vm.Alike t.vm → H.size ≤ t.heap.size → (∀ q : Nat, q < H.size → t.heap[q]? = H[q]?) → XC cls s t)
    (hf : ∀ z ∈ locs, free z.base) (hc : cells + 1 ≤ mc) (hs : slots + 6 ≤ ms) :
    W p l e R s m args below meth c H locs cells slots (vx_MQ below Qc XC args s mc ms free) (F0 m pc ls rest) := by
  intro T hT X
  have htr : e.platform.stackTraces = false := (show e.platform.stackTraces = l.stackTraces by rw [X.admits.platform]).trans hl
  have Y := vx_rebase X (R' := { frames := R.frames, locals := R.locals, cells := 1, slots := 6 }) (Nat.le_refl _) (Nat.le_refl _) hRcells hRslots
  obtain ⟨s', hA⟩ : ∃ z, z = (T.setVm s.vm).setFrames (.invoking m args :: below) := ⟨_, rfl⟩
  rw [← hA] at Y
  have hvm : s'.vm = s.vm := by rw [hA]; rfl
  have hhp : s'.heap = H := by rw [hA]; exact hT
  have hW0 : s.WarmedH s'.vm := by rw [hvm]; exact State.WarmedH.refl s
  have hat' : ∀ w ∈ (en_all own ic cls Y0 names index bytes).filter vx_no, w.before args s' = true := fun w hw => vx_ot_at hW0 hvm.symm (hgood w (List.mem_cons_of_mem _ (List.mem_cons_of_mem _ hw))) (hat w hw)
  have hk' : (Cond.classLink own ik cls).before args s' = true := vx_ot_at hW0 hvm.symm (hgood _ List.mem_cons_self) hk
  have hini' : (Cond.initialized cls).before args s' = true := vx_ot_at hW0 hvm.symm (hgood _ (List.mem_cons_of_mem _ List.mem_cons_self)) hini
  have hU' : vx_Zq Bundle.tN "UNASSIGNED_STACK" Bundle.steD A s' s'.heap := by rw [hhp]; exact vx_Zq.moved hW0.alike (hU.kept hS.2.1)
  have hN' : vx_Zq Bundle.tN "SUPPRESSED_SENTINEL" Bundle.listD A s' s'.heap := by rw [hhp]; exact vx_Zq.moved hW0.alike (hN.kept hS.2.1)
  have h : ∀ w ∈ en_all own ic cls Y0 names index bytes, w.before args s' = true := vx_own hat' (vx_isRefq hU'.1) (vx_isRefq hN'.1) hU'.2.word hN'.2.word
  have hown' : s'.vm.findClass own = some m.cls := by rw [hvm]; exact hown
  have hins : (Cond.instantiable cls 6).before args s' = true := h _ (List.mem_append_right _ (List.mem_append_right _ (List.mem_append_right _ (by simp [en_tail]))))
  obtain ⟨vm₁, cX, kX, hfX, hkX, -, -, X₁, st1⟩ := Y.newCold hexec (own := own) (C := cls) (index := ik) (n := 6) hown' hk' hins hini'
    (g := F0 m pc ls rest) rfl (by rw [hb]; exact d0) (Nat.le_refl _) (Nat.le_refl _)
  generalize hT1 : (T.setVm vm₁).pushCell { cls := cX, slots := kX.instanceTypes.map defaultValue, vm := .none } = T1 at X₁ st1
  have hcat : (Value.ref T.heap.size).category = 1 := rfl
  have hcellA : T1.heap[T.heap.size]? = some (freshCell cX kX) := by rw [← hT1]; exact State.heap_pushCell_size _ _
  have d3' : decode c.code (pc + 3) = .ok (.dup, 1) := by rw [hb]; exact d3
  have d4' : decode c.code (pc + 4) = .ok (.ldc is, 2) := by rw [hb]; exact d4
  have hstr' : vk_R own is text sa s' := vk_R.warm hW0 hstr
  obtain ⟨U, hsteps, hrun, hend, hW, hsame, ce, hce, hOc, hOv⟩ := en_ctor X₁ hexec htr (own := own) (cls := cls) (names := names) (ic := ic) hown' hcls hY0 hnames y0 y1 y2 y5 h hfX hkX hcellA (by rw [hhp, hT]; exact Nat.le_refl _) (msg := .ref sa) rfl
    (g := { method := m, pc := pc + 6, locals := ls, stack := .ref sa :: .ref T.heap.size :: .ref T.heap.size :: rest, locked := none }) rfl hsize rfl rfl (rest := rest) rfl
    (by rw [hb]; exact d6) (by rw [hb]; exact d9) hout hRframes (by simp only [List.map_cons, List.sum_cons, hcat]; omega) hlocks
  obtain ⟨f1, f2⟩ := vx_frame hsame
  rw [hhp] at f1 f2
  have hWs : s.WarmedH U.vm := State.WarmedH.trans hW0 hW
  have hcl : s.vm.findClass cls = some ce.cls := by rw [hvm] at hOc; exact hOc
  have hall : s.sameButNew ({ U with vm := s.vm } : State) locs mc ms := by
    subst hA
    obtain ⟨e1, e2⟩ := hsame
    rw [State.setFrames_setFrames] at e1
    have h2 : (T.setVm s.vm).sameButNew ({ U with vm := s.vm } : State) [] (0 + 1) (0 + 6) := ⟨e1, e2⟩
    have h3 := X.same.trans h2
    rw [List.append_nil] at h3
    exact h3.mono hc hs
  refine ⟨U, ?_, .threw T.heap.size, hrun, hend, Or.inr ⟨T.heap.size, rfl, cls, ce, locs, hx U hWs.alike f1 (fun q hq => f2 q hq (fun z hz => nomatch hz)), hce, hOv, hcl, hWs, hall, hf⟩⟩
  refine st1 _ ?_
  show Steps p.tables e below (T1.setTop { method := m, pc := pc + 3, locals := ls, stack := .ref T.heap.size :: rest, locked := none }) _
  jvm_step X₁.here [X₁.here.top, hexec, d3', Value.category]
  exact X₁.ldcString hexec (own := own) (text := text) (index := is) (a := sa) hown' hstr'.1 hstr'.2
    (g := { method := m, pc := pc + 4, locals := ls, stack := .ref T.heap.size :: .ref T.heap.size :: rest, locked := none }) rfl d4' _ hsteps
def z_nse : String := "java/util/NoSuchElementException"
def z_nseL (ic : Nat) : List Cond := (en_all RX3 ic z_nse "java/lang/RuntimeException" ["java/lang/Exception"] 13 prog_40_method_4_code).filter vx_no
/-- the words of 'throw new NoSuchElementException(text)' -/
def ThN (own : String) (ik is ic : Nat) (text : String) : Prop :=
  own = RX3 ∧ Cond.classLink own ik z_nse ∈ GW ∧ Cond.initialized z_nse ∈ GW ∧ (is, text) ∈ z_str ∧
  (∀ w ∈ (z_nseL ic).filter goodWord, w ∈ lw_tbl) ∧ (∀ w ∈ (z_nseL ic).filter (fun w => !goodWord w), w ∈ Cond.castable z_nse z_nse :: z_decl.map .declares) ∧ (∀ w ∈ Cond.classLink own ik z_nse :: Cond.initialized z_nse :: z_nseL ic, vx_ot w = true)
def z_nm : List String := ["java/lang/RuntimeException", "java/lang/Exception"]
/-- the words of 'throw new cls(text)' -/
def ThW (own : String) (ik is ic : Nat) (cls text : String) : Prop :=
  own = RX3 ∧ Bundle.fit cls = true ∧ (∀ n ∈ z_nm, Bundle.fit n = true) ∧ Cond.classLink own ik cls ∈ GW ∧ Cond.initialized cls ∈ GW ∧ (is, text) ∈ z_str ∧ (cls, cls) ∈ z_cast ∧
  (∀ w ∈ (vx_atS own ic cls z_nm).filter goodWord, w ∈ lw_tbl) ∧ (∀ w ∈ (vx_atS own ic cls z_nm).filter (fun w => !goodWord w), w ∈ Cond.castable cls cls :: z_decl.map .declares) ∧ (∀ w ∈ Cond.classLink own ik cls :: Cond.initialized cls :: vx_atS own ic cls z_nm, vx_ot w = true)
section V5
variable {g : GP} {m m' : MT} {d d' : Nat} {Q Q' : Res → AH → Prop} {h : AH} {pc : Nat} {lc lc' st as : List AV}
theorem Rp.ct {H H' : Heap} (P : Rp g h H) (hsz : H.size ≤ H'.size) (ho : ∀ q : Nat, q < H.size → H'[q]? = H[q]?) (hn : H'.size ≤ H.size + 1) (hz : z_s (g_b g) H' ≤ h_u h + 6) (h1 : h_n h + 1 ≤ z_CC) (h2 : h_u h + 6 ≤ z_CS) : ∃ n, h_n h ≤ n ∧ n ≤ h_n h + 1 ∧ Rp g (h_ct h n (h_u h + 6)) H' := by
  obtain ⟨p1, p2, p3, p4, p5, p6⟩ := P
  refine ⟨h_n h + (H'.size - H.size), by omega, by omega, ?_⟩
  refine ⟨?_, ?_, fun a ha => ?_, hz, ?_, h2⟩
  · show g_b g + (h_n h + (H'.size - H.size)) = H'.size + 8
    omega
  · show 8 ≤ h_n h + (H'.size - H.size)
    omega
  · obtain ⟨q1, q2, cell, q3, q4⟩ := p3 a ha
    refine ⟨q1, ?_, cell, ?_, q4⟩
    · show a < h_n h + (H'.size - H.size)
      omega
    · rw [ho _ (by rw [ga_own q1]; omega)]
      exact q3
  · show h_n h + (H'.size - H.size) ≤ z_CC
    omega
theorem thr_at {own : String} {ik is ic : Nat} {cls text : String} {s : State} {args : Array Value} (hw : ThW own ik is ic cls text) (hts : ∀ w ∈ GW, w.before args s = true) (F : SF g s) : ∀ w ∈ vx_atS own ic cls z_nm, w.before args s = true := by
  obtain ⟨-, -, -, -, -, -, w7, w8, w9, -⟩ := hw
  intro w hw
  by_cases hg : goodWord w = true
  · exact hts w (List.mem_filter.mpr ⟨List.mem_append_left _ (w8 w (List.mem_filter.mpr ⟨hw, hg⟩)), hg⟩)
  · rcases List.mem_cons.mp (w9 w (List.mem_filter.mpr ⟨hw, by simpa using hg⟩)) with rfl | hw9
    · exact va_Nw.use rfl (F.2.2.2.2.2.2.1 _ w7)
    · obtain ⟨x, hx, rfl⟩ := List.mem_map.mp hw9
      exact va_Nw.use rfl (F.2.2.2.2.2.2.2.2.2 x hx)
theorem thr_sum {s U : State} {b : Nat} {L9 : List Loc} (s2 : s.heap.size ≤ U.heap.size) (s6 : ∀ a c, s.heap[a]? = some c → ∃ c', U.heap[a]? = some c' ∧ c' = { c with slots := c'.slots } ∧ c'.slots.size = c.slots.size ∧ ∀ i, (⟨a, i⟩ : Loc) ∉ L9 → c'.slots[i]? = c.slots[i]?) (hb : b ≤ s.heap.size) :
    z_s b U.heap = z_s b s.heap + ((U.heap.toList.drop s.heap.size).map (·.slots.size)).sum := by
  have e : U.heap.toList.map (fun c => c.slots.size) = s.heap.toList.map (fun c => c.slots.size) ++ (U.heap.toList.drop s.heap.size).map (fun c => c.slots.size) := by
    apply List.ext_getElem?
    intro i
    by_cases hi : i < s.heap.size
    · rw [List.getElem?_append_left (by simpa using hi)]
      simp only [List.getElem?_map, Array.getElem?_toList]
      obtain ⟨c', h1, -, h3, -⟩ := s6 i _ (Array.getElem?_eq_getElem hi)
      rw [h1, Array.getElem?_eq_getElem hi]
      simp [h3]
    · rw [List.getElem?_append_right (by simp; omega)]
      simp only [List.getElem?_map, Array.getElem?_toList, List.getElem?_drop, List.length_map, Array.length_toList]
      rw [show s.heap.size + (i - s.heap.size) = i by omega]
  rw [z_s, z_s, e, List.drop_append_of_le_length (by simpa using hb), List.sum_append]
theorem V_throw {ik is ic : Nat} {cls text : String} (d0 : decode m.2.1 pc = .ok (.new ik, 3)) (d3 : decode m.2.1 (pc + 3) = .ok (.dup, 1)) (d4 : decode m.2.1 (pc + 4) = .ok (.ldc is, 2)) (d6 : decode m.2.1 (pc + 6) = .ok (.invokespecial ic, 3)) (d9 : decode m.2.1 (pc + 9) = .ok (.athrow, 1))
    (hw : ThW m.1.cls ik is ic cls text) (hh : m.2.2.2.2 = []) (hd' : 8 ≤ d) (h1 : h_n h + 1 ≤ z_CC) (h2 : h_u h + 6 ≤ z_CS) (hq : ∀ n, h_n h ≤ n → n ≤ h_n h + 1 → Q (.inr cls) (h_ct h n (h_u h + 6))) : V g m d Q h pc lc [] := by
  intro p lch e R s mi args below meth c H locs cells slots ls C P S L
  have hts := C.2.2.2.2.1
  have F := C.2.2.2.2.2.2.2.2.2.2.2.2.1
  have hR := C.2.2.2.2.2.2.2.2.2.2.1
  have hb := C.2.2.2.2.2.2.2.2.2.2.2.1
  have hat := thr_at hw hts F
  obtain ⟨w1, w2, w3, w4, w5, w6, w7, w8, w9, w10⟩ := hw
  obtain ⟨sa, hsa⟩ := F.2.2.2.2.1 _ w6
  rw [← w1] at hsa
  have hout : ∀ x ∈ c.exceptionTable.toList, covers x (pc + 9) = false := by
    rw [C.2.2.2.2.2.2.2.2.2.2.2.2.2, hh]
    intro x hx
    cases hx
  intro T hT X
  subst hT
  obtain ⟨X2, b1, b2⟩ := C.exact P X
  have hsum := st_sum X hb
  have hsz : s.heap.size ≤ T.heap.size := X.same.2.1
  obtain ⟨p1, p2, -, p4, -, -⟩ := id P
  have kk : W p lch e R s mi args below meth c T.heap locs (T.heap.size - s.heap.size) (z_s (g_b g) T.heap - z_s (g_b g) s.heap) (vx_MQ below (QcV g Q) (fun E st t => E = cls ∧ T.heap.size ≤ t.heap.size ∧ (∀ q : Nat, q < T.heap.size → t.heap[q]? = T.heap[q]?)) args s (T.heap.size - s.heap.size + 1) (z_s (g_b g) T.heap - z_s (g_b g) s.heap + 6) (fun q => g_b g ≤ q)) (F0 mi pc ls []) :=
    vx_throwS C.1 C.2.1 C.2.2.2.2.2.2.2.2.2.1 C.2.2.2.1 w2 w3 (hts _ w4) (hts _ w5) hsa hat w10 F.2.2.2.1.1 F.2.2.2.1.2 S (L.1.trans C.2.2.1.symm) d0 d3 d4 d6 d9 hout (by show 2 + 3 < _; omega) (by show 0 + (13 * (2 + 1) + 43) ≤ _; omega) (by omega) (by omega) C.2.2.2.2.2.2.2.2.1 (fun t _ g1 g2 => ⟨rfl, g1, g2⟩) S.2.2 (by omega) (by omega)
  obtain ⟨t2, a1, o, o1, o2, o3⟩ := kk T rfl X2
  refine ⟨t2, a1, o, o1, o2, ?_⟩
  rcases o3 with ⟨o3, L9, o4, o5⟩ | ⟨q, rfl, E, ce, L9, ⟨rfl, g1, g2⟩, hce, hcv, hcl, hW, hsm, hL⟩
  · obtain ⟨hv, hW, hsm⟩ := o4
    exact Or.inl ⟨o3, L9, ⟨hv, hW, hsm.mono (by omega) (by omega)⟩, o5⟩
  · refine Or.inr ⟨q, rfl, E, ce, L9, ⟨?_, ?_⟩, hce, hcv, hcl, hW, hsm.mono (by omega) (by omega), hL⟩
    · have hz : z_s (g_b g) t2.heap ≤ h_u h + 6 := by
        obtain ⟨-, s2, s3, -, s5, s6⟩ := hsm
        have := thr_sum (b := g_b g) (s := s) (U := t2) s2 s6 hb
        have s5 : ((t2.heap.toList.drop s.heap.size).map (·.slots.size)).sum ≤ _ := s5
        omega
      obtain ⟨n, n1, n2, hRp⟩ := P.ct g1 g2 (by have s3 : t2.heap.size ≤ _ := hsm.2.2.1; omega) hz h1 h2
      exact ⟨_, hRp, hq n n1 n2⟩
    · exact ⟨Nat.le_trans hsz g1, fun q q1 q2 => (g2 q (Nat.lt_of_lt_of_le q1 hsz)).trans (S.2.1 q q1 q2)⟩
theorem V_throwW {ik is ic : Nat} {cls text : String} (d0 : decode m.2.1 pc = .ok (.new ik, 3)) (d3 : decode m.2.1 (pc + 3) = .ok (.dup, 1)) (d4 : decode m.2.1 (pc + 4) = .ok (.ldc_w is, 3)) (d6 : decode m.2.1 (pc + 7) = .ok (.invokespecial ic, 3)) (d9 : decode m.2.1 (pc + 10) = .ok (.athrow, 1))
    (hw : ThW m.1.cls ik is ic cls text) (hh : m.2.2.2.2 = []) (hd' : 8 ≤ d) (h1 : h_n h + 1 ≤ z_CC) (h2 : h_u h + 6 ≤ z_CS) (hq : ∀ n, h_n h ≤ n → n ≤ h_n h + 1 → Q (.inr cls) (h_ct h n (h_u h + 6))) : V g m d Q h pc lc [] := by
  intro p lch e R s mi args below meth c H locs cells slots ls C P S L
  have hts := C.2.2.2.2.1
  have F := C.2.2.2.2.2.2.2.2.2.2.2.2.1
  have hR := C.2.2.2.2.2.2.2.2.2.2.1
  have hb := C.2.2.2.2.2.2.2.2.2.2.2.1
  have hat := thr_at hw hts F
  obtain ⟨w1, w2, w3, w4, w5, w6, w7, w8, w9, w10⟩ := hw
  obtain ⟨sa, hsa⟩ := F.2.2.2.2.1 _ w6
  rw [← w1] at hsa
  have hout : ∀ x ∈ c.exceptionTable.toList, covers x (pc + 10) = false := by
    rw [C.2.2.2.2.2.2.2.2.2.2.2.2.2, hh]
    intro x hx
    cases hx
  intro T hT X
  subst hT
  obtain ⟨X2, b1, b2⟩ := C.exact P X
  have hsum := st_sum X hb
  have hsz : s.heap.size ≤ T.heap.size := X.same.2.1
  obtain ⟨p1, p2, -, p4, -, -⟩ := id P
  have kk : W p lch e R s mi args below meth c T.heap locs (T.heap.size - s.heap.size) (z_s (g_b g) T.heap - z_s (g_b g) s.heap) (vx_MQ below (QcV g Q) (fun E st t => E = cls ∧ T.heap.size ≤ t.heap.size ∧ (∀ q : Nat, q < T.heap.size → t.heap[q]? = T.heap[q]?)) args s (T.heap.size - s.heap.size + 1) (z_s (g_b g) T.heap - z_s (g_b g) s.heap + 6) (fun q => g_b g ≤ q)) (F0 mi pc ls []) :=
    vx_throwSW C.1 C.2.1 C.2.2.2.2.2.2.2.2.2.1 C.2.2.2.1 w2 w3 (hts _ w4) (hts _ w5) hsa hat w10 F.2.2.2.1.1 F.2.2.2.1.2 S (L.1.trans C.2.2.1.symm) d0 d3 d4 d6 d9 hout (by show 2 + 3 < _; omega) (by show 0 + (13 * (2 + 1) + 43) ≤ _; omega) (by omega) (by omega) C.2.2.2.2.2.2.2.2.1 (fun t _ g1 g2 => ⟨rfl, g1, g2⟩) S.2.2 (by omega) (by omega)
  obtain ⟨t2, a1, o, o1, o2, o3⟩ := kk T rfl X2
  refine ⟨t2, a1, o, o1, o2, ?_⟩
  rcases o3 with ⟨o3, L9, o4, o5⟩ | ⟨q, rfl, E, ce, L9, ⟨rfl, g1, g2⟩, hce, hcv, hcl, hW, hsm, hL⟩
  · obtain ⟨hv, hW, hsm⟩ := o4
    exact Or.inl ⟨o3, L9, ⟨hv, hW, hsm.mono (by omega) (by omega)⟩, o5⟩
  · refine Or.inr ⟨q, rfl, E, ce, L9, ⟨?_, ?_⟩, hce, hcv, hcl, hW, hsm.mono (by omega) (by omega), hL⟩
    · have hz : z_s (g_b g) t2.heap ≤ h_u h + 6 := by
        obtain ⟨-, s2, s3, -, s5, s6⟩ := hsm
        have := thr_sum (b := g_b g) (s := s) (U := t2) s2 s6 hb
        have s5 : ((t2.heap.toList.drop s.heap.size).map (·.slots.size)).sum ≤ _ := s5
        omega
      obtain ⟨n, n1, n2, hRp⟩ := P.ct g1 g2 (by have s3 : t2.heap.size ≤ _ := hsm.2.2.1; omega) hz h1 h2
      exact ⟨_, hRp, hq n n1 n2⟩
    · exact ⟨Nat.le_trans hsz g1, fun q q1 q2 => (g2 q (Nat.lt_of_lt_of_le q1 hsz)).trans (S.2.1 q q1 q2)⟩

theorem nse_0 : decode prog_40_method_4_code 0 = .ok (.aload_n 0, 1) := by decide +kernel
theorem nse_1 : decode prog_40_method_4_code 1 = .ok (.aload_n 1, 1) := by decide +kernel
theorem nse_2 : decode prog_40_method_4_code 2 = .ok (.invokespecial 13, 3) := by decide +kernel
theorem nse_5 : decode prog_40_method_4_code 5 = .ok (.return_, 1) := by decide +kernel
theorem thr_atN {own : String} {ik is ic : Nat} {text : String} {s : State} {args : Array Value} (hw : ThN own ik is ic text) (hts : ∀ w ∈ GW, w.before args s = true) (F : SF g s) : ∀ w ∈ z_nseL ic, w.before args s = true := by
  obtain ⟨-, -, -, -, w8, w9, -⟩ := hw
  intro w hw
  by_cases hg : goodWord w = true
  · exact hts w (List.mem_filter.mpr ⟨List.mem_append_left _ (w8 w (List.mem_filter.mpr ⟨hw, hg⟩)), hg⟩)
  · rcases List.mem_cons.mp (w9 w (List.mem_filter.mpr ⟨hw, by simpa using hg⟩)) with rfl | hw9
    · exact va_Nw.use rfl (F.2.2.2.2.2.2.1 (z_nse, z_nse) (by decide))
    · obtain ⟨x, hx, rfl⟩ := List.mem_map.mp hw9
      exact va_Nw.use rfl (F.2.2.2.2.2.2.2.2.2 x hx)
theorem V_throwN {ik is ic : Nat} {text : String} (d0 : decode m.2.1 pc = .ok (.new ik, 3)) (d3 : decode m.2.1 (pc + 3) = .ok (.dup, 1)) (d4 : decode m.2.1 (pc + 4) = .ok (.ldc is, 2)) (d6 : decode m.2.1 (pc + 6) = .ok (.invokespecial ic, 3)) (d9 : decode m.2.1 (pc + 9) = .ok (.athrow, 1))
    (hw : ThN m.1.cls ik is ic text) (hh : m.2.2.2.2 = []) (hd' : 8 ≤ d) (h1 : h_n h + 1 ≤ z_CC) (h2 : h_u h + 6 ≤ z_CS) (hq : ∀ n, h_n h ≤ n → n ≤ h_n h + 1 → Q (.inr z_nse) (h_ct h n (h_u h + 6))) : V g m d Q h pc lc [] := by
  intro p lch e R s mi args below meth c H locs cells slots ls C P S L
  have hts := C.2.2.2.2.1
  have F := C.2.2.2.2.2.2.2.2.2.2.2.2.1
  have hR := C.2.2.2.2.2.2.2.2.2.2.1
  have hb := C.2.2.2.2.2.2.2.2.2.2.2.1
  have hat := thr_atN hw hts F
  obtain ⟨w1, w4, w5, w6, w8, w9, w10⟩ := hw

  obtain ⟨sa, hsa⟩ := F.2.2.2.2.1 _ w6
  rw [← w1] at hsa
  have hout : ∀ x ∈ c.exceptionTable.toList, covers x (pc + 9) = false := by
    rw [C.2.2.2.2.2.2.2.2.2.2.2.2.2, hh]
    intro x hx
    cases hx
  intro T hT X
  subst hT
  obtain ⟨X2, b1, b2⟩ := C.exact P X
  have hsum := st_sum X hb
  have hsz : s.heap.size ≤ T.heap.size := X.same.2.1
  obtain ⟨p1, p2, -, p4, -, -⟩ := id P
  have kk : W p lch e R s mi args below meth c T.heap locs (T.heap.size - s.heap.size) (z_s (g_b g) T.heap - z_s (g_b g) s.heap) (vx_MQ below (QcV g Q) (fun E st t => E = z_nse ∧ T.heap.size ≤ t.heap.size ∧ (∀ q : Nat, q < T.heap.size → t.heap[q]? = T.heap[q]?)) args s (T.heap.size - s.heap.size + 1) (z_s (g_b g) T.heap - z_s (g_b g) s.heap + 6) (fun q => g_b g ≤ q)) (F0 mi pc ls []) :=
    en_throw (Y0 := "java/lang/RuntimeException") (names := ["java/lang/Exception"]) C.1 C.2.1 C.2.2.2.2.2.2.2.2.2.1 C.2.2.2.1 (by decide) (by decide) (by decide) nse_0 nse_1 nse_2 nse_5 (hts _ w4) (hts _ w5) hsa (by rw [w1]; exact hat) (by rw [w1]; rw [w1] at w10; exact w10) F.2.2.2.1.1 F.2.2.2.1.2 S (L.1.trans C.2.2.1.symm) d0 d3 d4 d6 d9 hout (by show 1 + 4 < _; omega) (by show 0 + (13 * (1 + 2) + 43) ≤ _; omega) (by omega) (by omega) C.2.2.2.2.2.2.2.2.1 (fun t _ g1 g2 => ⟨rfl, g1, g2⟩) S.2.2 (by omega) (by omega)
  obtain ⟨t2, a1, o, o1, o2, o3⟩ := kk T rfl X2
  refine ⟨t2, a1, o, o1, o2, ?_⟩
  rcases o3 with ⟨o3, L9, o4, o5⟩ | ⟨q, rfl, E, ce, L9, ⟨rfl, g1, g2⟩, hce, hcv, hcl, hW, hsm, hL⟩
  · obtain ⟨hv, hW, hsm⟩ := o4
    exact Or.inl ⟨o3, L9, ⟨hv, hW, hsm.mono (by omega) (by omega)⟩, o5⟩
  · refine Or.inr ⟨q, rfl, z_nse, ce, L9, ⟨?_, ?_⟩, hce, hcv, hcl, hW, hsm.mono (by omega) (by omega), hL⟩
    · have hz : z_s (g_b g) t2.heap ≤ h_u h + 6 := by
        obtain ⟨-, s2, s3, -, s5, s6⟩ := hsm
        have := thr_sum (b := g_b g) (s := s) (U := t2) s2 s6 hb
        have s5 : ((t2.heap.toList.drop s.heap.size).map (·.slots.size)).sum ≤ _ := s5
        omega
      obtain ⟨n, n1, n2, hRp⟩ := P.ct g1 g2 (by have s3 : t2.heap.size ≤ _ := hsm.2.2.1; omega) hz h1 h2
      exact ⟨_, hRp, hq n n1 n2⟩
    · exact ⟨Nat.le_trans hsz g1, fun q q1 q2 => (g2 q (Nat.lt_of_lt_of_le q1 hsz)).trans (S.2.1 q q1 q2)⟩
end V5

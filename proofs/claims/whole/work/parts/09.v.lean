
abbrev MT : Type := MethodName × ByteArray × Nat × Option FieldType × List (Nat × Nat × Nat × Nat)
abbrev Res : Type := Option AV ⊕ String
/-- private methods of AbstractStringBuilder, called on a StringBuilder -/
def z_prv : List MethodName := [yJ5_ensureCapacityInternal_d00df, yJ5_newCapacity_0f7a4, yJ5_inflate_da8c8]
def z_xs : List Cond := z_prv.map fun y => Cond.selects "java/lang/StringBuilder" y y
def GW : List Cond := (lw_tbl ++ z_xs).filter goodWord
abbrev y_getC : MethodName := ⟨"java/lang/Object", "getClass", "()Ljava/lang/Class;"⟩
def z_decl : List MethodName := [y_getC, ⟨"java/lang/RuntimeException", "<init>", "(Ljava/lang/String;)V"⟩, ⟨"java/lang/Exception", "<init>", "(Ljava/lang/String;)V"⟩, ⟨"java/lang/Throwable", "<init>", "(Ljava/lang/String;)V"⟩]
/-- the Strings of the class's messages: pool entry and text -/
def z_str : List (Nat × String) := [(322, "no such question in the list"), (48, "no such word"), (59, "the row is full"), (62, "the level is out of range"), (66, "the row is empty"), (73, "there are 40 questions"), (315, "no such question"), (97, "a question is no twin of itself"), (158, "it is the last week"), (160, "no such week"), (162, "no such kind"), (164, "the number is out of range"), (166, "there are 12 plans"), (318, "no such plan"), (181, "the plan is dropped"), (205, "a number is out of range"), (207, "no question is wanted"), (213, "there are no candidates"), (215, "there are 30 sheets"), (233, "the plan gives no quiz"), (320, "no such sheet"), (247, "the spooler is jammed"), (252, "no sheet waits"), (260, "the sheet does not wait"), (262, "the sheet is not printed"), (268, "the question is answered"), (287, "no such letter"), (295, "there are no answers"), (298, "there are no questions")]
def z_cast : List (String × String) := [("java/util/NoSuchElementException", "java/util/NoSuchElementException"), ("java/lang/IllegalArgumentException", "java/lang/IllegalArgumentException"), ("java/lang/IllegalStateException", "java/lang/IllegalStateException"), ("java/lang/UnsupportedOperationException", "java/lang/UnsupportedOperationException"), ("java/lang/IndexOutOfBoundsException", "java/lang/IndexOutOfBoundsException"), ("java/lang/ArithmeticException", "java/lang/ArithmeticException"), ("Quizspool", "java/lang/Object"), ("QuizspoolModel", "java/lang/Object"), ("Quizspool$Question", "java/lang/Object"), ("Quizspool$Plan", "java/lang/Object"), ("Quizspool$Sheet", "java/lang/Object"), ("[I", "java/lang/Cloneable")]
def z_ncast : List (String × String) := [("java/lang/IllegalStateException", "java/lang/IllegalArgumentException"), ("java/lang/UnsupportedOperationException", "java/lang/IllegalArgumentException"), ("java/util/NoSuchElementException", "java/lang/IllegalArgumentException"), ("java/lang/IndexOutOfBoundsException", "java/lang/IllegalArgumentException"), ("java/lang/ArithmeticException", "java/lang/IllegalArgumentException"), ("java/lang/IllegalArgumentException", "java/lang/IllegalStateException"), ("java/lang/UnsupportedOperationException", "java/lang/IllegalStateException"), ("java/util/NoSuchElementException", "java/lang/IllegalStateException"), ("java/lang/IndexOutOfBoundsException", "java/lang/IllegalStateException"), ("java/lang/ArithmeticException", "java/lang/IllegalStateException"), ("java/lang/IllegalArgumentException", "java/lang/UnsupportedOperationException"), ("java/lang/IllegalStateException", "java/lang/UnsupportedOperationException"), ("java/util/NoSuchElementException", "java/lang/UnsupportedOperationException"), ("java/lang/IndexOutOfBoundsException", "java/lang/UnsupportedOperationException"), ("java/lang/ArithmeticException", "java/lang/UnsupportedOperationException"), ("java/lang/IllegalArgumentException", "java/lang/IndexOutOfBoundsException"), ("java/lang/IllegalStateException", "java/lang/IndexOutOfBoundsException"), ("java/lang/UnsupportedOperationException", "java/lang/IndexOutOfBoundsException"), ("java/util/NoSuchElementException", "java/lang/IndexOutOfBoundsException"), ("java/lang/ArithmeticException", "java/lang/IndexOutOfBoundsException"), ("java/lang/IllegalArgumentException", "java/util/NoSuchElementException"), ("java/lang/IllegalStateException", "java/util/NoSuchElementException"), ("java/lang/UnsupportedOperationException", "java/util/NoSuchElementException"), ("java/lang/IndexOutOfBoundsException", "java/util/NoSuchElementException"), ("java/lang/ArithmeticException", "java/util/NoSuchElementException"), ("java/lang/IllegalArgumentException", "java/lang/ArithmeticException"), ("java/lang/IllegalStateException", "java/lang/ArithmeticException"), ("java/lang/UnsupportedOperationException", "java/lang/ArithmeticException"), ("java/util/NoSuchElementException", "java/lang/ArithmeticException"), ("java/lang/IndexOutOfBoundsException", "java/lang/ArithmeticException")]
/-- what lies below the base and stays: statics, the script, texts, and words that the tables alone decide -/
def SD (g : GP) (s : State) : Prop :=
  (va_Z "java/lang/Integer" "DigitOnes" "[B" (.ref (g_s g 2)) (fun q => g_b g ≤ q) s s.heap ∧ va_T .byte (g_s g 2) 100 (fun j => .int (Int32.ofInt (48 + (j : Int) % 10))) (fun q => g_b g ≤ q) s s.heap) ∧
  (va_Z "java/lang/Integer" "DigitTens" "[B" (.ref (g_s g 3)) (fun q => g_b g ≤ q) s s.heap ∧ va_T .byte (g_s g 3) 100 (fun j => .int (Int32.ofInt (48 + (j : Int) / 10))) (fun q => g_b g ≤ q) s s.heap) ∧
  (va_Z "jdk/internal/util/Preconditions" "SIOOBE_FORMATTER" "Ljava/util/function/BiFunction;" .null (fun q => g_b g ≤ q) s s.heap ∨ va_Z "jdk/internal/util/Preconditions" "SIOOBE_FORMATTER" "Ljava/util/function/BiFunction;" (.ref (g_s g 6)) (fun q => g_b g ≤ q) s s.heap)
def SF (g : GP) (s : State) : Prop :=
  (va_Z "java/util/ArrayList" "DEFAULTCAPACITY_EMPTY_ELEMENTDATA" "[Ljava/lang/Object;" (.ref (g_s g 1)) (fun q => g_b g ≤ q) s s.heap ∧ va_T (.object "java/lang/Object") (g_s g 1) 0 (fun _ => .null) (fun q => g_b g ≤ q) s s.heap) ∧
  va_Z "java/lang/String" "COMPACT_STRINGS" "Z" (.int 1) (fun q => g_b g ≤ q) s s.heap ∧
  va_Mi "[Ljava/lang/Object;" (g_s g 4) s ∧
  (vx_Zq Bundle.tN "UNASSIGNED_STACK" Bundle.steD (fun q => g_b g ≤ q) s s.heap ∧ vx_Zq Bundle.tN "SUPPRESSED_SENTINEL" Bundle.listD (fun q => g_b g ≤ q) s s.heap) ∧
  (∀ q ∈ z_str, ∃ a, vk_R RX3 q.1 q.2 a s) ∧
  (va_X (g_s g 5) (g_l g) (g_x g) s s.heap ∧ g_s g 5 < g_b g ∧ g_s g 1 < g_b g ∧ SD g s) ∧
  (∀ q ∈ z_cast, va_Nw (.castable q.1 q.2) s) ∧ (∀ q ∈ z_ncast, va_Nc q.1 q.2 s) ∧ (va_AO "java/lang/Object" s ∧ ∀ x ∈ z_decl, va_Nw (.declares x) s)
theorem SF.moved {g : GP} {u U : State} (hW : u.WarmedH U.vm) (hh : ∀ q : Nat, q < g_b g → U.heap[q]? = u.heap[q]?) (F : SF g u) : SF g U := by
  obtain ⟨⟨f1, f2⟩, f3, f4, ⟨f5, f6⟩, f7, ⟨f8, f9, f9', ⟨d1, d2⟩, ⟨d3, d4⟩, d5⟩, f10, f11, f12, f13⟩ := F
  have hA : ∀ q : Nat, q < u.heap.size → ¬ (g_b g ≤ q) → U.heap[q]? = u.heap[q]? := fun q _ h2 => hh q (by omega)
  refine ⟨⟨(va_Z.moved hW.alike f1).kept hA, (va_T.moved hW.alike f2).kept hA⟩, (va_Z.moved hW.alike f3).kept hA, va_Mi.moved hW.alike f4, ⟨(vx_Zq.moved hW.alike f5).kept hA, (vx_Zq.moved hW.alike f6).kept hA⟩, fun q hq => ?_, ⟨(va_X.moved hW.alike f8).kept (hh _ f9), f9, f9', ⟨(va_Z.moved hW.alike d1).kept hA, (va_T.moved hW.alike d2).kept hA⟩, ⟨(va_Z.moved hW.alike d3).kept hA, (va_T.moved hW.alike d4).kept hA⟩, d5.imp (fun d => (va_Z.moved hW.alike d).kept hA) (fun d => (va_Z.moved hW.alike d).kept hA)⟩, fun q hq => va_Nw.warmC hW (f10 q hq), fun q hq => va_Nc.moved hW.alike (f11 q hq), va_AO.moved hW.alike f12, fun x hx => va_Nw.warmD hW (f13 x hx)⟩
  obtain ⟨a, ha⟩ := f7 q hq
  exact ⟨a, vk_R.warm hW ha⟩
def LH (g : GP) (ls : Array Slot) (nL : Nat) (l : List AV) : Prop := ls.size = nL ∧ lv_wf ls ∧ l.length = nL ∧ ∀ (i : Nat) (v : AV), l[i]? = some v → v ≠ xU → ls[i]? = some (.val (cv g v))
def Cx (g : GP) (m : MT) (d : Nat) (p : Program) (lch : Launch) (R : Room) (s : State) (mi : MethodId) (args : Array Value) (meth : Method) (c : Code) : Prop :=
  p.tables.exec = Jvm.exec ∧ c.code = m.2.1 ∧ c.maxLocals = m.2.2.1 ∧ s.vm.findClass m.1.cls = some mi.cls ∧ (∀ w ∈ GW, w.before args s = true) ∧ va_K (g_D g) vwCl (g_t g) s ∧
  meth.sig.returnType = m.2.2.2.1 ∧ meth.name = m.1.name ∧ meth.locks = false ∧ lch.stackTraces = false ∧
  (d ≤ R.frames ∧ 100 * d ≤ R.locals ∧ R.cells = z_CC - (s.heap.size - g_b g) ∧ R.slots = z_CS - z_s (g_b g) s.heap) ∧ g_b g ≤ s.heap.size ∧ SF g s ∧ c.exceptionTable.toList = tableOf m.2.2.2.2
def QcV (g : GP) (Q : Res → AH → Prop) : Array Value → State → Outcome → State → Prop := fun _ st o t => (∃ (v : Option AV) (h' : AH), o = .returned (v.map (cv g)) ∧ Rp g h' t.heap ∧ Q (.inl v) h') ∧ va_F (fun q => g_b g ≤ q) st t
def XCV (g : GP) (Q : Res → AH → Prop) : String → State → State → Prop := fun E st t => (∃ h' : AH, Rp g h' t.heap ∧ Q (.inr E) h') ∧ va_F (fun q => g_b g ≤ q) st t
def EV (g : GP) (Q : Res → AH → Prop) (R : Room) (below : List Frame) (args : Array Value) (s : State) : State → Prop := vx_MQ below (QcV g Q) (XCV g Q) args s R.cells R.slots (fun q => g_b g ≤ q)
def V (g : GP) (m : MT) (d : Nat) (Q : Res → AH → Prop) (h : AH) (pc : Nat) (lc st : List AV) : Prop :=
  ∀ (p : Program) (lch : Launch) (e : Env) (R : Room) (s : State) (mi : MethodId) (args : Array Value) (below : List Frame) (meth : Method) (c : Code) (H : Heap) (locs : List Loc) (cells slots : Nat) (ls : Array Slot),
    Cx g m d p lch R s mi args meth c → Rp g h H → va_S (fun q => g_b g ≤ q) s.heap H locs → LH g ls m.2.2.1 lc →
    W p lch e R s mi args below meth c H locs cells slots (EV g Q R below args s) (F0 mi pc ls (st.map (cv g)))
theorem i32_i {z : Int} (h : -2147483648 ≤ z ∧ z ≤ 2147483647) : (Int32.ofInt z).toInt = z := Int32.toInt_ofInt_of_le (by omega) (by omega)
theorem i32_lt {x y : Int} (hx : -2147483648 ≤ x ∧ x ≤ 2147483647) (hy : -2147483648 ≤ y ∧ y ≤ 2147483647) : Int32.ofInt x < Int32.ofInt y ↔ x < y := by
  rw [Int32.lt_iff_toInt_lt, i32_i hx, i32_i hy]
theorem i32_le {x y : Int} (hx : -2147483648 ≤ x ∧ x ≤ 2147483647) (hy : -2147483648 ≤ y ∧ y ≤ 2147483647) : Int32.ofInt x ≤ Int32.ofInt y ↔ x ≤ y := by
  rw [Int32.le_iff_toInt_le, i32_i hx, i32_i hy]
theorem i32_eq {x y : Int} (hx : -2147483648 ≤ x ∧ x ≤ 2147483647) (hy : -2147483648 ≤ y ∧ y ≤ 2147483647) : Int32.ofInt x = Int32.ofInt y ↔ x = y := by
  rw [← Int32.toInt_inj, i32_i hx, i32_i hy]
theorem i32_0 : (0 : Int32) = Int32.ofInt 0 := by decide
theorem i32_n {j : Nat} (h : j < 2147483648) : (Int32.ofInt (j : Int)).toNatClampNeg = j := by
  show (Int32.ofInt (j : Int)).toInt.toNat = j
  rw [i32_i (by omega)]
  omega
theorem i32_in {z : Int} {j n : Nat} (hz : z = (j : Int)) (hn : j < n) (hb : n ≤ 2147483647) : vp_in (Int32.ofInt z) n ∧ (Int32.ofInt z).toNatClampNeg = j := by
  subst hz
  refine ⟨?_, i32_n (by omega)⟩
  unfold vp_in
  rw [i32_n (by omega), i32_0, i32_lt (by omega) (by omega)]
  omega
/-- storing in the locals: a wide value's second half, and a wide value that is cut, are unknown then -/
def st1 (l : List AV) (i : Nat) (v : AV) : List AV := (match i with
  | 0 => l
  | k + 1 => match l[k]? with
    | some (.inr (.inr w)) => if w.category = 2 then l.set k xU else l
    | _ => l).set i v
def lh_pl (g : GP) (l : List AV) : List (Nat × Value) := (List.range l.length).filterMap (fun i => match l[i]? with
  | some v => if v = xU then none else some (i, cv g v)
  | none => none)
theorem lh_mem {g : GP} {l : List AV} {i : Nat} {v : AV} (h : l[i]? = some v) (hv : v ≠ xU) : (i, cv g v) ∈ lh_pl g l := by
  refine List.mem_filterMap.mpr ⟨i, List.mem_range.mpr (List.getElem?_eq_some_iff.mp h).1, ?_⟩
  simp [h, hv]
theorem LH.has {g : GP} {ls : Array Slot} {nL : Nat} {l : List AV} (L : LH g ls nL l) : lv_has ls nL (lh_pl g l) := by
  refine ⟨L.1, L.2.1, fun q hq => ?_⟩
  obtain ⟨i, hi, h⟩ := List.mem_filterMap.mp hq
  cases hl : l[i]? with
  | none => simp [hl] at h
  | some v =>
    simp only [hl] at h
    by_cases hv : v = xU
    · simp [hv] at h
    · rw [if_neg hv] at h
      cases h
      exact L.2.2.2 i v hl hv
theorem cv_cat {g : GP} {v : AV} (h : (cv g v).category = 2) : ∃ w, v = .inr (.inr w) ∧ w.category = 2 := by
  match v with
  | .inl z => cases h
  | .inr (.inl n) =>
    simp only [cv, rv] at h
    split at h <;> cases h
  | .inr (.inr w) => exact ⟨w, rfl, h⟩
theorem st1_len {l : List AV} {i : Nat} {v : AV} : (st1 l i v).length = l.length := by
  unfold st1
  split
  · simp
  · split
    · split <;> simp
    · simp
theorem st1_get {l : List AV} {i j : Nat} {v w : AV} (h : (st1 l i v)[j]? = some w) (hw : w ≠ xU) : (j = i ∧ w = v) ∨ (j ≠ i ∧ l[j]? = some w ∧ ¬ (j + 1 = i ∧ ∃ x, w = .inr (.inr x) ∧ x.category = 2)) := by
  unfold st1 at h
  by_cases e : j = i
  · subst e
    rw [List.getElem?_set_self'] at h
    left
    refine ⟨rfl, ?_⟩
    revert h
    generalize (match j with
      | 0 => l
      | k + 1 => match l[k]? with
        | some (.inr (.inr w)) => if w.category = 2 then l.set k xU else l
        | _ => l)[j]? = z
    intro h
    cases z with
    | none => cases h
    | some z => exact (Option.some.inj h).symm
  · rw [List.getElem?_set_ne (Ne.symm e)] at h
    right
    refine ⟨e, ?_⟩
    match i, h with
    | 0, h => exact ⟨h, fun q => by omega⟩
    | k + 1, h =>
      dsimp only at h
      split at h
      · rename_i x hx
        by_cases hc : x.category = 2
        · rw [if_pos hc] at h
          by_cases ek : j = k
          · subst ek
            rw [List.getElem?_set_self'] at h
            cases hz : l[j]? with
            | none => rw [hz] at h; cases h
            | some z => rw [hz] at h; exact absurd (Option.some.inj h).symm hw
          · rw [List.getElem?_set_ne (Ne.symm ek)] at h
            exact ⟨h, fun q => ek (by omega)⟩
        · rw [if_neg hc] at h
          refine ⟨h, fun q => ?_⟩
          obtain ⟨q1, y, q2, q3⟩ := q
          have : j = k := by omega
          subst this
          rw [h, q2] at hx
          cases hx
          exact hc q3
      · rename_i hx
        refine ⟨h, fun q => ?_⟩
        obtain ⟨q1, y, q2, q3⟩ := q
        have : j = k := by omega
        subst this
        rw [q2] at h
        exact hx y h
theorem LHst1 {g : GP} {ls ls' : Array Slot} {nL i : Nat} {l l' : List AV} {v : AV} (L : LH g ls nL l) (hl : st1 l i v = l') (h : lv_has ls' nL ((i, cv g v) :: (lh_pl g l).filter (fun q => !(q.1 == i) && !(q.1 + 1 == i && q.2.category == 2)))) : LH g ls' nL l' := by
  subst hl
  refine ⟨h.1, h.2.1, by rw [st1_len]; exact L.2.2.1, fun j w hj hw => ?_⟩
  rcases st1_get hj hw with ⟨e1, e2⟩ | ⟨e1, e2, e3⟩
  · subst e1; subst e2
    exact h.2.2 _ List.mem_cons_self
  · refine h.2.2 (j, cv g w) (List.mem_cons_of_mem _ (List.mem_filter.mpr ⟨lh_mem e2 hw, ?_⟩))
    simp only [Bool.and_eq_true, Bool.not_eq_true', beq_eq_false_iff_ne, ne_eq, Bool.and_eq_false_iff]
    refine ⟨e1, ?_⟩
    by_cases q : j + 1 = i
    · right
      intro q2
      obtain ⟨x, r1, r2⟩ := cv_cat q2
      exact e3 ⟨q, x, r1, r2⟩
    · exact Or.inl q
/-- storing a wide value -/
def st2 (l : List AV) (i : Nat) (v : AV) : List AV := (st1 l i v).set (i + 1) xU
theorem LHst2 {g : GP} {ls ls' : Array Slot} {nL i : Nat} {l l' : List AV} {v : AV} (L : LH g ls nL l) (hl : st2 l i v = l') (h : lv_has ls' nL ((i, cv g v) :: (lh_pl g l).filter (fun q => !(q.1 == i) && (!(q.1 == i + 1) && !(q.1 + 1 == i && q.2.category == 2))))) : LH g ls' nL l' := by
  subst hl
  refine ⟨h.1, h.2.1, by show ((List.set _ _ _)).length = _; rw [List.length_set, st1_len]; exact L.2.2.1, fun j w hj hw => ?_⟩
  by_cases ej : j = i + 1
  · subst ej
    have hj : ((st1 l i v).set (i + 1) xU)[i + 1]? = some w := hj
    rw [List.getElem?_set_self'] at hj
    cases hz : (st1 l i v)[i + 1]? with
    | none => rw [hz] at hj; cases hj
    | some z => rw [hz] at hj; exact absurd (Option.some.inj hj).symm hw
  · have hj : ((st1 l i v).set (i + 1) xU)[j]? = some w := hj
    rw [List.getElem?_set_ne (Ne.symm ej)] at hj
    rcases st1_get hj hw with ⟨e1, e2⟩ | ⟨e1, e2, e3⟩
    · subst e1; subst e2
      exact h.2.2 _ List.mem_cons_self
    · refine h.2.2 (j, cv g w) (List.mem_cons_of_mem _ (List.mem_filter.mpr ⟨lh_mem e2 hw, ?_⟩))
      simp only [Bool.and_eq_true, Bool.not_eq_true', beq_eq_false_iff_ne, ne_eq, Bool.and_eq_false_iff]
      refine ⟨e1, ej, ?_⟩
      by_cases q : j + 1 = i
      · right
        intro q2
        obtain ⟨x, r1, r2⟩ := cv_cat q2
        exact e3 ⟨q, x, r1, r2⟩
      · exact Or.inl q
section V1
variable {g : GP} {m : MT} {d : Nat} {Q : Res → AH → Prop} {h : AH} {pc : Nat} {lc lc' st : List AV}

theorem V_iconst {n : Int} (hd : decode m.2.1 pc = .ok (.iconst n, 1)) (k : V g m d Q h (pc + 1) lc (xI n :: st)) : V g m d Q h pc lc (st) := by
  intro p lch e R s mi args below meth c H locs cells slots ls C P S L
  exact lv_iconst C.1 C.2.1 hd rfl (k p lch e R s mi args below meth c H locs cells slots ls C P S L)
theorem V_bipush {n : Int} (hd : decode m.2.1 pc = .ok (.bipush n, 2)) (hv : (Int8.ofInt n).toInt32 = Int32.ofInt n := by decide) (k : V g m d Q h (pc + 2) lc (xI n :: st)) : V g m d Q h pc lc (st) := by
  intro p lch e R s mi args below meth c H locs cells slots ls C P S L
  exact lv_bipush C.1 C.2.1 hd hv (k p lch e R s mi args below meth c H locs cells slots ls C P S L)
theorem V_sipush {n : Int} (hd : decode m.2.1 pc = .ok (.sipush n, 3)) (hv : (Int16.ofInt n).toInt32 = Int32.ofInt n := by decide) (k : V g m d Q h (pc + 3) lc (xI n :: st)) : V g m d Q h pc lc (st) := by
  intro p lch e R s mi args below meth c H locs cells slots ls C P S L
  exact lv_sipush C.1 C.2.1 hd hv (k p lch e R s mi args below meth c H locs cells slots ls C P S L)
theorem V_lconst {n : Fin 2} {v : Int64} (hd : decode m.2.1 pc = .ok (.lconst n, 1)) (hv : Int64.ofNat n.val = v) (k : V g m d Q h (pc + 1) lc (xV (.long v) :: st)) : V g m d Q h pc lc (st) := by
  intro p lch e R s mi args below meth c H locs cells slots ls C P S L
  exact lv_lconst C.1 C.2.1 hd hv (k p lch e R s mi args below meth c H locs cells slots ls C P S L)
theorem V_fconst0 (hd : decode m.2.1 pc = .ok (.fconst 0, 1)) (k : V g m d Q h (pc + 1) lc (xV (.float 0) :: st)) : V g m d Q h pc lc (st) := by
  intro p lch e R s mi args below meth c H locs cells slots ls C P S L
  exact lv_fconst0 C.1 C.2.1 hd (k p lch e R s mi args below meth c H locs cells slots ls C P S L)
theorem V_dconst0 (hd : decode m.2.1 pc = .ok (.dconst 0, 1)) (k : V g m d Q h (pc + 1) lc (xV (.double 0) :: st)) : V g m d Q h pc lc (st) := by
  intro p lch e R s mi args below meth c H locs cells slots ls C P S L
  exact lv_dconst0 C.1 C.2.1 hd (k p lch e R s mi args below meth c H locs cells slots ls C P S L)
theorem V_null (hd : decode m.2.1 pc = .ok (.aconst_null, 1)) (k : V g m d Q h (pc + 1) lc (xR 0 :: st)) : V g m d Q h pc lc (st) := by
  intro p lch e R s mi args below meth c H locs cells slots ls C P S L
  exact lv_null C.1 C.2.1 hd (k p lch e R s mi args below meth c H locs cells slots ls C P S L)
theorem V_iload_n {i : Fin 4} {z : Int} (hd : decode m.2.1 pc = .ok (.iload_n i, 1)) (hl : lc[(i : Nat)]? = some (xI z)) (k : V g m d Q h (pc + 1) lc (xI z :: st)) : V g m d Q h pc lc (st) := by
  intro p lch e R s mi args below meth c H locs cells slots ls C P S L
  exact lv_iload_n C.1 C.2.1 hd rfl (L.2.2.2 _ _ hl (by intro q; cases q)) (k p lch e R s mi args below meth c H locs cells slots ls C P S L)
theorem V_iload {i : Nat} {z : Int} (hd : decode m.2.1 pc = .ok (.iload i, 2)) (hl : lc[i]? = some (xI z)) (k : V g m d Q h (pc + 2) lc (xI z :: st)) : V g m d Q h pc lc (st) := by
  intro p lch e R s mi args below meth c H locs cells slots ls C P S L
  exact lv_iload C.1 C.2.1 hd (L.2.2.2 _ _ hl (by intro q; cases q)) (k p lch e R s mi args below meth c H locs cells slots ls C P S L)
theorem V_fload_n {i : Fin 4} {z : UInt32} (hd : decode m.2.1 pc = .ok (.fload_n i, 1)) (hl : lc[(i : Nat)]? = some (xV (.float z))) (k : V g m d Q h (pc + 1) lc (xV (.float z) :: st)) : V g m d Q h pc lc (st) := by
  intro p lch e R s mi args below meth c H locs cells slots ls C P S L
  exact lv_fload_n C.1 C.2.1 hd rfl (L.2.2.2 _ _ hl (by intro q; cases q)) (k p lch e R s mi args below meth c H locs cells slots ls C P S L)
theorem V_fload {i : Nat} {z : UInt32} (hd : decode m.2.1 pc = .ok (.fload i, 2)) (hl : lc[i]? = some (xV (.float z))) (k : V g m d Q h (pc + 2) lc (xV (.float z) :: st)) : V g m d Q h pc lc (st) := by
  intro p lch e R s mi args below meth c H locs cells slots ls C P S L
  exact lv_fload C.1 C.2.1 hd (L.2.2.2 _ _ hl (by intro q; cases q)) (k p lch e R s mi args below meth c H locs cells slots ls C P S L)
theorem V_dload_n {i : Fin 4} {z : UInt64} (hd : decode m.2.1 pc = .ok (.dload_n i, 1)) (hl : lc[(i : Nat)]? = some (xV (.double z))) (k : V g m d Q h (pc + 1) lc (xV (.double z) :: st)) : V g m d Q h pc lc (st) := by
  intro p lch e R s mi args below meth c H locs cells slots ls C P S L
  exact lv_dload_n C.1 C.2.1 hd rfl (L.2.2.2 _ _ hl (by intro q; cases q)) (k p lch e R s mi args below meth c H locs cells slots ls C P S L)
theorem V_dload {i : Nat} {z : UInt64} (hd : decode m.2.1 pc = .ok (.dload i, 2)) (hl : lc[i]? = some (xV (.double z))) (k : V g m d Q h (pc + 2) lc (xV (.double z) :: st)) : V g m d Q h pc lc (st) := by
  intro p lch e R s mi args below meth c H locs cells slots ls C P S L
  exact lv_dload C.1 C.2.1 hd (L.2.2.2 _ _ hl (by intro q; cases q)) (k p lch e R s mi args below meth c H locs cells slots ls C P S L)
theorem V_lload_n {i : Fin 4} {z : Int64} (hd : decode m.2.1 pc = .ok (.lload_n i, 1)) (hl : lc[(i : Nat)]? = some (xV (.long z))) (k : V g m d Q h (pc + 1) lc (xV (.long z) :: st)) : V g m d Q h pc lc (st) := by
  intro p lch e R s mi args below meth c H locs cells slots ls C P S L
  exact lv_lload_n C.1 C.2.1 hd rfl (L.2.2.2 _ _ hl (by intro q; cases q)) (k p lch e R s mi args below meth c H locs cells slots ls C P S L)
theorem V_lload {i : Nat} {z : Int64} (hd : decode m.2.1 pc = .ok (.lload i, 2)) (hl : lc[i]? = some (xV (.long z))) (k : V g m d Q h (pc + 2) lc (xV (.long z) :: st)) : V g m d Q h pc lc (st) := by
  intro p lch e R s mi args below meth c H locs cells slots ls C P S L
  exact lv_lload C.1 C.2.1 hd (L.2.2.2 _ _ hl (by intro q; cases q)) (k p lch e R s mi args below meth c H locs cells slots ls C P S L)
theorem V_aload_n {i : Fin 4} {a : Nat} (hd : decode m.2.1 pc = .ok (.aload_n i, 1)) (hl : lc[(i : Nat)]? = some (xR a)) (k : V g m d Q h (pc + 1) lc (xR a :: st)) : V g m d Q h pc lc st := by
  intro p lch e R s mi args below meth c H locs cells slots ls C P S L
  have hL := L.2.2.2 _ _ hl (by intro q; cases q)
  have kk := (k p lch e R s mi args below meth c H locs cells slots ls C P S L)
  simp only [List.map_cons] at kk
  change ls[_]? = some (Slot.val (rv g a)) at hL
  change W _ _ _ _ _ _ _ _ _ _ _ _ _ _ _ (F0 _ _ _ (rv g a :: _)) at kk
  by_cases ha : a = 0
  · rw [ha, rv_0] at hL kk
    exact lv_aload_nN C.1 C.2.1 hd rfl hL kk
  · rw [rv_pos ha] at hL kk
    exact lv_aload_n C.1 C.2.1 hd rfl hL kk
theorem V_aload {i : Nat} {a : Nat} (hd : decode m.2.1 pc = .ok (.aload i, 2)) (hl : lc[i]? = some (xR a)) (k : V g m d Q h (pc + 2) lc (xR a :: st)) : V g m d Q h pc lc st := by
  intro p lch e R s mi args below meth c H locs cells slots ls C P S L
  have hL := L.2.2.2 _ _ hl (by intro q; cases q)
  have kk := (k p lch e R s mi args below meth c H locs cells slots ls C P S L)
  simp only [List.map_cons] at kk
  change ls[_]? = some (Slot.val (rv g a)) at hL
  change W _ _ _ _ _ _ _ _ _ _ _ _ _ _ _ (F0 _ _ _ (rv g a :: _)) at kk
  by_cases ha : a = 0
  · rw [ha, rv_0] at hL kk
    exact lv_aloadN C.1 C.2.1 hd hL kk
  · rw [rv_pos ha] at hL kk
    exact lv_aload C.1 C.2.1 hd hL kk
theorem V_istore_n {i : Fin 4} {z : Int} (hd : decode m.2.1 pc = .ok (.istore_n i, 1)) (hn : (i : Nat) < m.2.2.1) (hl : st1 lc (i : Nat) (xI z) = lc') (k : V g m d Q h (pc + 1) lc' st) : V g m d Q h pc lc (xI z :: st) := by
  intro p lch e R s mi args below meth c H locs cells slots ls C P S L
  exact lv_istore_n C.1 C.2.1 hd rfl L.has hn rfl (fun ls' hl' => k p lch e R s mi args below meth c H locs cells slots ls' C P S (LHst1 L hl hl'))
theorem V_istore {i : Nat} {z : Int} (hd : decode m.2.1 pc = .ok (.istore i, 2)) (hn : i < m.2.2.1) (hl : st1 lc i (xI z) = lc') (k : V g m d Q h (pc + 2) lc' st) : V g m d Q h pc lc (xI z :: st) := by
  intro p lch e R s mi args below meth c H locs cells slots ls C P S L
  exact lv_istore C.1 C.2.1 hd L.has hn rfl (fun ls' hl' => k p lch e R s mi args below meth c H locs cells slots ls' C P S (LHst1 L hl hl'))
theorem V_astore_n {i : Fin 4} {a : Nat} (hd : decode m.2.1 pc = .ok (.astore_n i, 1)) (hn : (i : Nat) < m.2.2.1) (hl : st1 lc (i : Nat) (xR a) = lc') (k : V g m d Q h (pc + 1) lc' st) : V g m d Q h pc lc (xR a :: st) := by
  intro p lch e R s mi args below meth c H locs cells slots ls C P S L
  have K2 : ∀ ls', lv_has ls' m.2.2.1 (((i : Nat), cv g (xR a)) :: (lh_pl g lc).filter (fun q => !(q.1 == (i : Nat)) && !(q.1 + 1 == (i : Nat) && q.2.category == 2))) → W p lch e R s mi args below meth c H locs cells slots (EV g Q R below args s) (F0 mi (pc + 1) ls' (st.map (cv g))) := fun ls' hl' => k p lch e R s mi args below meth c H locs cells slots ls' C P S (LHst1 L hl hl')
  change ∀ ls', lv_has ls' m.2.2.1 (((i : Nat), rv g a) :: _) → _ at K2
  change W _ _ _ _ _ _ _ _ _ _ _ _ _ _ _ (F0 _ _ _ (rv g a :: _))
  by_cases ha : a = 0
  · rw [ha, rv_0] at K2 ⊢
    exact lv_astore_nN C.1 C.2.1 hd rfl L.has hn rfl K2
  · rw [rv_pos ha] at K2 ⊢
    exact lv_astore_n C.1 C.2.1 hd rfl L.has hn rfl K2
theorem V_astore_nX {i : Fin 4} {a : Nat} (hd : decode m.2.1 pc = .ok (.astore_n i, 1)) (hn : (i : Nat) < m.2.2.1) (hl : st1 lc (i : Nat) (xV (.ref a)) = lc') (k : V g m d Q h (pc + 1) lc' st) : V g m d Q h pc lc (xV (.ref a) :: st) := by
  intro p lch e R s mi args below meth c H locs cells slots ls C P S L
  exact lv_astore_n C.1 C.2.1 hd rfl L.has hn rfl (fun ls' hl' => k p lch e R s mi args below meth c H locs cells slots ls' C P S (LHst1 L hl hl'))
theorem V_astore {i : Nat} {a : Nat} (hd : decode m.2.1 pc = .ok (.astore i, 2)) (hn : i < m.2.2.1) (hl : st1 lc i (xR a) = lc') (k : V g m d Q h (pc + 2) lc' st) : V g m d Q h pc lc (xR a :: st) := by
  intro p lch e R s mi args below meth c H locs cells slots ls C P S L
  have K2 : ∀ ls', lv_has ls' m.2.2.1 ((i, cv g (xR a)) :: (lh_pl g lc).filter (fun q => !(q.1 == i) && !(q.1 + 1 == i && q.2.category == 2))) → W p lch e R s mi args below meth c H locs cells slots (EV g Q R below args s) (F0 mi (pc + 2) ls' (st.map (cv g))) := fun ls' hl' => k p lch e R s mi args below meth c H locs cells slots ls' C P S (LHst1 L hl hl')
  change ∀ ls', lv_has ls' m.2.2.1 ((i, rv g a) :: _) → _ at K2
  change W _ _ _ _ _ _ _ _ _ _ _ _ _ _ _ (F0 _ _ _ (rv g a :: _))
  by_cases ha : a = 0
  · rw [ha, rv_0] at K2 ⊢
    exact lv_astoreN C.1 C.2.1 hd L.has hn rfl K2
  · rw [rv_pos ha] at K2 ⊢
    exact lv_astore C.1 C.2.1 hd L.has hn rfl K2
theorem V_astoreX {i : Nat} {a : Nat} (hd : decode m.2.1 pc = .ok (.astore i, 2)) (hn : i < m.2.2.1) (hl : st1 lc i (xV (.ref a)) = lc') (k : V g m d Q h (pc + 2) lc' st) : V g m d Q h pc lc (xV (.ref a) :: st) := by
  intro p lch e R s mi args below meth c H locs cells slots ls C P S L
  exact lv_astore C.1 C.2.1 hd L.has hn rfl (fun ls' hl' => k p lch e R s mi args below meth c H locs cells slots ls' C P S (LHst1 L hl hl'))
theorem V_fstore_n {i : Fin 4} {z : UInt32} (hd : decode m.2.1 pc = .ok (.fstore_n i, 1)) (hn : (i : Nat) < m.2.2.1) (hl : st1 lc (i : Nat) (xV (.float z)) = lc') (k : V g m d Q h (pc + 1) lc' st) : V g m d Q h pc lc (xV (.float z) :: st) := by
  intro p lch e R s mi args below meth c H locs cells slots ls C P S L
  exact lv_fstore_n C.1 C.2.1 hd rfl L.has hn rfl (fun ls' hl' => k p lch e R s mi args below meth c H locs cells slots ls' C P S (LHst1 L hl hl'))
theorem V_fstore {i : Nat} {z : UInt32} (hd : decode m.2.1 pc = .ok (.fstore i, 2)) (hn : i < m.2.2.1) (hl : st1 lc i (xV (.float z)) = lc') (k : V g m d Q h (pc + 2) lc' st) : V g m d Q h pc lc (xV (.float z) :: st) := by
  intro p lch e R s mi args below meth c H locs cells slots ls C P S L
  exact lv_fstore C.1 C.2.1 hd L.has hn rfl (fun ls' hl' => k p lch e R s mi args below meth c H locs cells slots ls' C P S (LHst1 L hl hl'))
theorem V_dstore_n {i : Fin 4} {z : UInt64} (hd : decode m.2.1 pc = .ok (.dstore_n i, 1)) (hn : (i : Nat) + 1 < m.2.2.1) (hl : st2 lc (i : Nat) (xV (.double z)) = lc') (k : V g m d Q h (pc + 1) lc' st) : V g m d Q h pc lc (xV (.double z) :: st) := by
  intro p lch e R s mi args below meth c H locs cells slots ls C P S L
  exact lv_dstore_n C.1 C.2.1 hd rfl L.has hn rfl (fun ls' hl' => k p lch e R s mi args below meth c H locs cells slots ls' C P S (LHst2 L hl hl'))
theorem V_dstore {i : Nat} {z : UInt64} (hd : decode m.2.1 pc = .ok (.dstore i, 2)) (hn : i + 1 < m.2.2.1) (hl : st2 lc i (xV (.double z)) = lc') (k : V g m d Q h (pc + 2) lc' st) : V g m d Q h pc lc (xV (.double z) :: st) := by
  intro p lch e R s mi args below meth c H locs cells slots ls C P S L
  exact lv_dstore C.1 C.2.1 hd L.has hn rfl (fun ls' hl' => k p lch e R s mi args below meth c H locs cells slots ls' C P S (LHst2 L hl hl'))
theorem V_lstore_n {i : Fin 4} {z : Int64} (hd : decode m.2.1 pc = .ok (.lstore_n i, 1)) (hn : (i : Nat) + 1 < m.2.2.1) (hl : st2 lc (i : Nat) (xV (.long z)) = lc') (k : V g m d Q h (pc + 1) lc' st) : V g m d Q h pc lc (xV (.long z) :: st) := by
  intro p lch e R s mi args below meth c H locs cells slots ls C P S L
  exact lv_lstore_n C.1 C.2.1 hd rfl L.has hn rfl (fun ls' hl' => k p lch e R s mi args below meth c H locs cells slots ls' C P S (LHst2 L hl hl'))
theorem V_lstore {i : Nat} {z : Int64} (hd : decode m.2.1 pc = .ok (.lstore i, 2)) (hn : i + 1 < m.2.2.1) (hl : st2 lc i (xV (.long z)) = lc') (k : V g m d Q h (pc + 2) lc' st) : V g m d Q h pc lc (xV (.long z) :: st) := by
  intro p lch e R s mi args below meth c H locs cells slots ls C P S L
  exact lv_lstore C.1 C.2.1 hd L.has hn rfl (fun ls' hl' => k p lch e R s mi args below meth c H locs cells slots ls' C P S (LHst2 L hl hl'))
theorem V_iinc {i : Nat} {n z : Int} (hd : decode m.2.1 pc = .ok (.iinc i n, 3)) (hg : lc[i]? = some (xI z)) (hn : i < m.2.2.1) (hl : st1 lc i (xI (z + n)) = lc') (k : V g m d Q h (pc + 3) lc' st) : V g m d Q h pc lc st := by
  intro p lch e R s mi args below meth c H locs cells slots ls C P S L
  obtain ⟨q, hq⟩ := List.getElem?_of_mem (lh_mem (g := g) hg (by intro q; cases q))
  exact lv_iinc C.1 C.2.1 hd L.has hq (Int32.ofInt_add z n).symm hn rfl (fun ls' hl' => k p lch e R s mi args below meth c H locs cells slots ls' C P S (LHst1 L hl hl'))
theorem V_iadd {x y : Int} (hd : decode m.2.1 pc = .ok (.iadd, 1)) (k : V g m d Q h (pc + 1) lc (xI (x + y) :: st)) : V g m d Q h pc lc (xI y :: xI x :: st) := by
  intro p lch e R s mi args below meth c H locs cells slots ls C P S L
  refine lv_iadd C.1 C.2.1 hd ?_
  have kk := (k p lch e R s mi args below meth c H locs cells slots ls C P S L)
  have e9 : cv g (xI (x + y)) = .int (Int32.ofInt x + Int32.ofInt y) := congrArg Value.int (by first | exact Int32.ofInt_add x y | exact Int32.ofInt_sub x y | exact Int32.ofInt_mul x y)
  rw [List.map_cons, e9] at kk
  exact kk
theorem V_isub {x y : Int} (hd : decode m.2.1 pc = .ok (.isub, 1)) (k : V g m d Q h (pc + 1) lc (xI (x - y) :: st)) : V g m d Q h pc lc (xI y :: xI x :: st) := by
  intro p lch e R s mi args below meth c H locs cells slots ls C P S L
  refine lv_isub C.1 C.2.1 hd ?_
  have kk := (k p lch e R s mi args below meth c H locs cells slots ls C P S L)
  have e9 : cv g (xI (x - y)) = .int (Int32.ofInt x - Int32.ofInt y) := congrArg Value.int (by first | exact Int32.ofInt_add x y | exact Int32.ofInt_sub x y | exact Int32.ofInt_mul x y)
  rw [List.map_cons, e9] at kk
  exact kk
theorem V_imul {x y : Int} (hd : decode m.2.1 pc = .ok (.imul, 1)) (k : V g m d Q h (pc + 1) lc (xI (x * y) :: st)) : V g m d Q h pc lc (xI y :: xI x :: st) := by
  intro p lch e R s mi args below meth c H locs cells slots ls C P S L
  refine lv_imul C.1 C.2.1 hd ?_
  have kk := (k p lch e R s mi args below meth c H locs cells slots ls C P S L)
  have e9 : cv g (xI (x * y)) = .int (Int32.ofInt x * Int32.ofInt y) := congrArg Value.int (by first | exact Int32.ofInt_add x y | exact Int32.ofInt_sub x y | exact Int32.ofInt_mul x y)
  rw [List.map_cons, e9] at kk
  exact kk
theorem V_ineg {x : Int} (hd : decode m.2.1 pc = .ok (.ineg, 1)) (k : V g m d Q h (pc + 1) lc (xI (-x) :: st)) : V g m d Q h pc lc (xI x :: st) := by
  intro p lch e R s mi args below meth c H locs cells slots ls C P S L
  refine lv_ineg C.1 C.2.1 hd ?_
  have kk := (k p lch e R s mi args below meth c H locs cells slots ls C P S L)
  rw [List.map_cons, show cv g (xI (-x)) = .int (-Int32.ofInt x) from congrArg Value.int (Int32.ofInt_neg x)] at kk
  exact kk
theorem i32_div {x y : Int} (hx : -2147483647 ≤ x ∧ x ≤ 2147483647) (hy : 0 < y ∧ y ≤ 2147483647) : Int32.ofInt x / Int32.ofInt y = Int32.ofInt (x.tdiv y) := by
  refine (Int32.ofInt_tdiv ?_ ?_ ?_ ?_).symm
  · show (-2147483648 : Int) ≤ x; omega
  · show x ≤ (2147483647 : Int); omega
  · show (-2147483648 : Int) ≤ y; omega
  · show y ≤ (2147483647 : Int); omega
theorem i32_ne0 {y : Int} (hy : 0 < y ∧ y ≤ 2147483647) : ¬ Int32.ofInt y = 0 := by
  rw [i32_0, i32_eq (by omega) (by omega)]
  omega
theorem V_idivT {x y : Int} (hd : decode m.2.1 pc = .ok (.idiv, 1)) (hx : -2147483647 ≤ x ∧ x ≤ 2147483647) (hy : 0 < y ∧ y ≤ 2147483647) (k : V g m d Q h (pc + 1) lc (xI (x.tdiv y) :: st)) : V g m d Q h pc lc (xI y :: xI x :: st) := by
  intro p lch e R s mi args below meth c H locs cells slots ls C P S L
  refine lv_idiv C.1 C.2.1 hd (i32_ne0 hy) ?_
  have kk := (k p lch e R s mi args below meth c H locs cells slots ls C P S L)
  rw [i32_div hx hy]
  exact kk
theorem V_idiv {x y : Int} (hd : decode m.2.1 pc = .ok (.idiv, 1)) (hx : 0 ≤ x ∧ x ≤ 2147483647) (hy : 0 < y ∧ y ≤ 2147483647) (k : V g m d Q h (pc + 1) lc (xI (x / y) :: st)) : V g m d Q h pc lc (xI y :: xI x :: st) := by
  refine V_idivT hd (by omega) hy ?_
  rw [Int.tdiv_eq_ediv_of_nonneg hx.1]
  exact k
theorem V_irem {x y : Int} (hd : decode m.2.1 pc = .ok (.irem, 1)) (hx : 0 ≤ x ∧ x ≤ 2147483647) (hy : 0 < y ∧ y ≤ 2147483647) (k : V g m d Q h (pc + 1) lc (xI (x % y) :: st)) : V g m d Q h pc lc (xI y :: xI x :: st) := by
  intro p lch e R s mi args below meth c H locs cells slots ls C P S L
  refine lv_irem C.1 C.2.1 hd (i32_ne0 hy) ?_
  have kk := (k p lch e R s mi args below meth c H locs cells slots ls C P S L)
  rw [List.map_cons, show cv g (xI (x % y)) = .int (Int32.ofInt x - Int32.ofInt x / Int32.ofInt y * Int32.ofInt y) from congrArg Value.int ?_] at kk
  · exact kk
  · rw [i32_div (by omega) hy, ← Int32.ofInt_mul, ← Int32.ofInt_sub, Int.tdiv_eq_ediv_of_nonneg hx.1]
    congr 1
    have := Int.emod_add_mul_ediv x y
    rw [Int.mul_comm] at this
    omega
theorem V_ishl {x y z : Int} (hd : decode m.2.1 pc = .ok (.ishl, 1)) (hz : Int32.ofInt x <<< (Int32.ofInt y &&& 31) = Int32.ofInt z) (k : V g m d Q h (pc + 1) lc (xI z :: st)) : V g m d Q h pc lc (xI y :: xI x :: st) := by
  intro p lch e R s mi args below meth c H locs cells slots ls C P S L
  refine lv_ishl C.1 C.2.1 hd ?_
  rw [hz]
  exact (k p lch e R s mi args below meth c H locs cells slots ls C P S L)
theorem V_ishr {x y z : Int} (hd : decode m.2.1 pc = .ok (.ishr, 1)) (hz : Int32.ofInt x >>> (Int32.ofInt y &&& 31) = Int32.ofInt z) (k : V g m d Q h (pc + 1) lc (xI z :: st)) : V g m d Q h pc lc (xI y :: xI x :: st) := by
  intro p lch e R s mi args below meth c H locs cells slots ls C P S L
  refine lv_ishr C.1 C.2.1 hd ?_
  rw [hz]
  exact (k p lch e R s mi args below meth c H locs cells slots ls C P S L)
theorem V_iand {x y z : Int} (hd : decode m.2.1 pc = .ok (.iand, 1)) (hz : Int32.ofInt x &&& Int32.ofInt y = Int32.ofInt z) (k : V g m d Q h (pc + 1) lc (xI z :: st)) : V g m d Q h pc lc (xI y :: xI x :: st) := by
  intro p lch e R s mi args below meth c H locs cells slots ls C P S L
  refine lv_iand C.1 C.2.1 hd ?_
  rw [hz]
  exact (k p lch e R s mi args below meth c H locs cells slots ls C P S L)
theorem V_ior {x y z : Int} (hd : decode m.2.1 pc = .ok (.ior, 1)) (hz : Int32.ofInt x ||| Int32.ofInt y = Int32.ofInt z) (k : V g m d Q h (pc + 1) lc (xI z :: st)) : V g m d Q h pc lc (xI y :: xI x :: st) := by
  intro p lch e R s mi args below meth c H locs cells slots ls C P S L
  refine lv_ior C.1 C.2.1 hd ?_
  rw [hz]
  exact (k p lch e R s mi args below meth c H locs cells slots ls C P S L)
theorem V_ixor {x y z : Int} (hd : decode m.2.1 pc = .ok (.ixor, 1)) (hz : Int32.ofInt x ^^^ Int32.ofInt y = Int32.ofInt z) (k : V g m d Q h (pc + 1) lc (xI z :: st)) : V g m d Q h pc lc (xI y :: xI x :: st) := by
  intro p lch e R s mi args below meth c H locs cells slots ls C P S L
  refine lv_ixor C.1 C.2.1 hd ?_
  rw [hz]
  exact (k p lch e R s mi args below meth c H locs cells slots ls C P S L)
theorem V_i2c {x z : Int} (hd : decode m.2.1 pc = .ok (.i2c, 1)) (hz : ((Int32.ofInt x).toUInt32 % 65536).toInt32 = Int32.ofInt z) (k : V g m d Q h (pc + 1) lc (xI z :: st)) : V g m d Q h pc lc (xI x :: st) := by
  intro p lch e R s mi args below meth c H locs cells slots ls C P S L
  exact lv_i2c C.1 C.2.1 hd hz (k p lch e R s mi args below meth c H locs cells slots ls C P S L)
theorem V_i2b {x z : Int} (hd : decode m.2.1 pc = .ok (.i2b, 1)) (hz : (Int32.ofInt x).toInt8.toInt32 = Int32.ofInt z) (k : V g m d Q h (pc + 1) lc (xI z :: st)) : V g m d Q h pc lc (xI x :: st) := by
  intro p lch e R s mi args below meth c H locs cells slots ls C P S L
  exact lv_i2b C.1 C.2.1 hd hz (k p lch e R s mi args below meth c H locs cells slots ls C P S L)
theorem V_pop {v : AV} (hd : decode m.2.1 pc = .ok (.pop, 1)) (hv : (cv g v).category = 1) (k : V g m d Q h (pc + 1) lc st) : V g m d Q h pc lc (v :: st) := by
  intro p lch e R s mi args below meth c H locs cells slots ls C P S L
  exact lv_pop C.1 C.2.1 hd hv (k p lch e R s mi args below meth c H locs cells slots ls C P S L)
theorem V_dup {v : AV} (hd : decode m.2.1 pc = .ok (.dup, 1)) (hv : (cv g v).category = 1) (k : V g m d Q h (pc + 1) lc (v :: v :: st)) : V g m d Q h pc lc (v :: st) := by
  intro p lch e R s mi args below meth c H locs cells slots ls C P S L
  exact lv_dup C.1 C.2.1 hd hv (k p lch e R s mi args below meth c H locs cells slots ls C P S L)
theorem V_dup_x1 {v w : AV} (hd : decode m.2.1 pc = .ok (.dup_x1, 1)) (hv : (cv g v).category = 1) (hw : (cv g w).category = 1) (k : V g m d Q h (pc + 1) lc (v :: w :: v :: st)) : V g m d Q h pc lc (v :: w :: st) := by
  intro p lch e R s mi args below meth c H locs cells slots ls C P S L
  exact lv_dup_x1 C.1 C.2.1 hd hv hw (k p lch e R s mi args below meth c H locs cells slots ls C P S L)
theorem V_dup2 {v w : AV} (hd : decode m.2.1 pc = .ok (.dup2, 1)) (hv : (cv g v).category = 1) (hw : (cv g w).category = 1) (k : V g m d Q h (pc + 1) lc (v :: w :: v :: w :: st)) : V g m d Q h pc lc (v :: w :: st) := by
  intro p lch e R s mi args below meth c H locs cells slots ls C P S L
  exact lv_dup2_11 C.1 C.2.1 hd hv hw (k p lch e R s mi args below meth c H locs cells slots ls C P S L)
theorem cat_R {n : Nat} : (cv g (xR n)).category = 1 := by
  show (rv g n).category = 1
  unfold rv
  split <;> rfl
theorem V_goto {off : Int} {tgt : Nat} (hd : decode m.2.1 pc = .ok (.goto off, 3)) (ht : (pc : Int) + off = (tgt : Int)) (k : V g m d Q h tgt lc st) : V g m d Q h pc lc st := by
  intro p lch e R s mi args below meth c H locs cells slots ls C P S L
  exact lv_goto C.1 C.2.1 hd ht (k p lch e R s mi args below meth c H locs cells slots ls C P S L)
theorem V_if_eq {x : Int} {off : Int} {tgt : Nat} (hd : decode m.2.1 pc = .ok (.ifCond .eq off, 3)) (ht : (pc : Int) + off = (tgt : Int)) (hx : -2147483648 ≤ x ∧ x ≤ 2147483647) (kt : x = 0 → V g m d Q h tgt lc st) (kf : x ≠ 0 → V g m d Q h (pc + 3) lc st) : V g m d Q h pc lc (xI x :: st) := by
  intro p lch e R s mi args below meth c H locs cells slots ls C P S L
  have e1 := @i32_eq x 0 hx (by omega)
  have e2 := @i32_lt x 0 hx (by omega)
  have e3 := @i32_lt 0 x (by omega) hx
  have e4 := @i32_le x 0 hx (by omega)
  have e5 := @i32_le 0 x (by omega) hx
  rw [← i32_0] at e1 e2 e3 e4 e5
  refine lv_if_eq C.1 C.2.1 hd ht (fun q => ?_) (fun q => ?_)
  · have q : x = 0 := by simp only [e1, e2, e3, e4, e5, ne_eq, ge_iff_le, gt_iff_lt] at q; omega
    exact (kt q p lch e R s mi args below meth c H locs cells slots ls C P S L)
  · have q : x ≠ 0 := by simp only [e1, e2, e3, e4, e5, ne_eq, ge_iff_le, gt_iff_lt] at q; omega
    exact (kf q p lch e R s mi args below meth c H locs cells slots ls C P S L)
theorem V_if_ne {x : Int} {off : Int} {tgt : Nat} (hd : decode m.2.1 pc = .ok (.ifCond .ne off, 3)) (ht : (pc : Int) + off = (tgt : Int)) (hx : -2147483648 ≤ x ∧ x ≤ 2147483647) (kt : x ≠ 0 → V g m d Q h tgt lc st) (kf : x = 0 → V g m d Q h (pc + 3) lc st) : V g m d Q h pc lc (xI x :: st) := by
  intro p lch e R s mi args below meth c H locs cells slots ls C P S L
  have e1 := @i32_eq x 0 hx (by omega)
  have e2 := @i32_lt x 0 hx (by omega)
  have e3 := @i32_lt 0 x (by omega) hx
  have e4 := @i32_le x 0 hx (by omega)
  have e5 := @i32_le 0 x (by omega) hx
  rw [← i32_0] at e1 e2 e3 e4 e5
  refine lv_if_ne C.1 C.2.1 hd ht (fun q => ?_) (fun q => ?_)
  · have q : x ≠ 0 := by simp only [e1, e2, e3, e4, e5, ne_eq, ge_iff_le, gt_iff_lt] at q; omega
    exact (kt q p lch e R s mi args below meth c H locs cells slots ls C P S L)
  · have q : x = 0 := by simp only [e1, e2, e3, e4, e5, ne_eq, ge_iff_le, gt_iff_lt] at q; omega
    exact (kf q p lch e R s mi args below meth c H locs cells slots ls C P S L)
theorem V_if_lt {x : Int} {off : Int} {tgt : Nat} (hd : decode m.2.1 pc = .ok (.ifCond .lt off, 3)) (ht : (pc : Int) + off = (tgt : Int)) (hx : -2147483648 ≤ x ∧ x ≤ 2147483647) (kt : x < 0 → V g m d Q h tgt lc st) (kf : 0 ≤ x → V g m d Q h (pc + 3) lc st) : V g m d Q h pc lc (xI x :: st) := by
  intro p lch e R s mi args below meth c H locs cells slots ls C P S L
  have e1 := @i32_eq x 0 hx (by omega)
  have e2 := @i32_lt x 0 hx (by omega)
  have e3 := @i32_lt 0 x (by omega) hx
  have e4 := @i32_le x 0 hx (by omega)
  have e5 := @i32_le 0 x (by omega) hx
  rw [← i32_0] at e1 e2 e3 e4 e5
  refine lv_if_lt C.1 C.2.1 hd ht (fun q => ?_) (fun q => ?_)
  · have q : x < 0 := by simp only [e1, e2, e3, e4, e5, ne_eq, ge_iff_le, gt_iff_lt] at q; omega
    exact (kt q p lch e R s mi args below meth c H locs cells slots ls C P S L)
  · have q : 0 ≤ x := by simp only [e1, e2, e3, e4, e5, ne_eq, ge_iff_le, gt_iff_lt] at q; omega
    exact (kf q p lch e R s mi args below meth c H locs cells slots ls C P S L)
theorem V_if_ge {x : Int} {off : Int} {tgt : Nat} (hd : decode m.2.1 pc = .ok (.ifCond .ge off, 3)) (ht : (pc : Int) + off = (tgt : Int)) (hx : -2147483648 ≤ x ∧ x ≤ 2147483647) (kt : 0 ≤ x → V g m d Q h tgt lc st) (kf : x < 0 → V g m d Q h (pc + 3) lc st) : V g m d Q h pc lc (xI x :: st) := by
  intro p lch e R s mi args below meth c H locs cells slots ls C P S L
  have e1 := @i32_eq x 0 hx (by omega)
  have e2 := @i32_lt x 0 hx (by omega)
  have e3 := @i32_lt 0 x (by omega) hx
  have e4 := @i32_le x 0 hx (by omega)
  have e5 := @i32_le 0 x (by omega) hx
  rw [← i32_0] at e1 e2 e3 e4 e5
  refine lv_if_ge C.1 C.2.1 hd ht (fun q => ?_) (fun q => ?_)
  · have q : 0 ≤ x := by simp only [e1, e2, e3, e4, e5, ne_eq, ge_iff_le, gt_iff_lt] at q; omega
    exact (kt q p lch e R s mi args below meth c H locs cells slots ls C P S L)
  · have q : x < 0 := by simp only [e1, e2, e3, e4, e5, ne_eq, ge_iff_le, gt_iff_lt] at q; omega
    exact (kf q p lch e R s mi args below meth c H locs cells slots ls C P S L)
theorem V_if_gt {x : Int} {off : Int} {tgt : Nat} (hd : decode m.2.1 pc = .ok (.ifCond .gt off, 3)) (ht : (pc : Int) + off = (tgt : Int)) (hx : -2147483648 ≤ x ∧ x ≤ 2147483647) (kt : 0 < x → V g m d Q h tgt lc st) (kf : x ≤ 0 → V g m d Q h (pc + 3) lc st) : V g m d Q h pc lc (xI x :: st) := by
  intro p lch e R s mi args below meth c H locs cells slots ls C P S L
  have e1 := @i32_eq x 0 hx (by omega)
  have e2 := @i32_lt x 0 hx (by omega)
  have e3 := @i32_lt 0 x (by omega) hx
  have e4 := @i32_le x 0 hx (by omega)
  have e5 := @i32_le 0 x (by omega) hx
  rw [← i32_0] at e1 e2 e3 e4 e5
  refine lv_if_gt C.1 C.2.1 hd ht (fun q => ?_) (fun q => ?_)
  · have q : 0 < x := by simp only [e1, e2, e3, e4, e5, ne_eq, ge_iff_le, gt_iff_lt] at q; omega
    exact (kt q p lch e R s mi args below meth c H locs cells slots ls C P S L)
  · have q : x ≤ 0 := by simp only [e1, e2, e3, e4, e5, ne_eq, ge_iff_le, gt_iff_lt] at q; omega
    exact (kf q p lch e R s mi args below meth c H locs cells slots ls C P S L)
theorem V_if_le {x : Int} {off : Int} {tgt : Nat} (hd : decode m.2.1 pc = .ok (.ifCond .le off, 3)) (ht : (pc : Int) + off = (tgt : Int)) (hx : -2147483648 ≤ x ∧ x ≤ 2147483647) (kt : x ≤ 0 → V g m d Q h tgt lc st) (kf : 0 < x → V g m d Q h (pc + 3) lc st) : V g m d Q h pc lc (xI x :: st) := by
  intro p lch e R s mi args below meth c H locs cells slots ls C P S L
  have e1 := @i32_eq x 0 hx (by omega)
  have e2 := @i32_lt x 0 hx (by omega)
  have e3 := @i32_lt 0 x (by omega) hx
  have e4 := @i32_le x 0 hx (by omega)
  have e5 := @i32_le 0 x (by omega) hx
  rw [← i32_0] at e1 e2 e3 e4 e5
  refine lv_if_le C.1 C.2.1 hd ht (fun q => ?_) (fun q => ?_)
  · have q : x ≤ 0 := by simp only [e1, e2, e3, e4, e5, ne_eq, ge_iff_le, gt_iff_lt] at q; omega
    exact (kt q p lch e R s mi args below meth c H locs cells slots ls C P S L)
  · have q : 0 < x := by simp only [e1, e2, e3, e4, e5, ne_eq, ge_iff_le, gt_iff_lt] at q; omega
    exact (kf q p lch e R s mi args below meth c H locs cells slots ls C P S L)
theorem V_icmp_eq {x y : Int} {off : Int} {tgt : Nat} (hd : decode m.2.1 pc = .ok (.if_icmp .eq off, 3)) (ht : (pc : Int) + off = (tgt : Int)) (hx : -2147483648 ≤ x ∧ x ≤ 2147483647) (hy : -2147483648 ≤ y ∧ y ≤ 2147483647) (kt : x = y → V g m d Q h tgt lc st) (kf : x ≠ y → V g m d Q h (pc + 3) lc st) : V g m d Q h pc lc (xI y :: xI x :: st) := by
  intro p lch e R s mi args below meth c H locs cells slots ls C P S L
  have e1 := @i32_eq x y hx hy
  have e2 := @i32_lt x y hx hy
  have e3 := @i32_lt y x hy hx
  have e4 := @i32_le x y hx hy
  have e5 := @i32_le y x hy hx
  refine lv_icmp_eq C.1 C.2.1 hd ht (fun q => ?_) (fun q => ?_)
  · have q : x = y := by simp only [e1, e2, e3, e4, e5, ne_eq, ge_iff_le, gt_iff_lt] at q; omega
    exact (kt q p lch e R s mi args below meth c H locs cells slots ls C P S L)
  · have q : x ≠ y := by simp only [e1, e2, e3, e4, e5, ne_eq, ge_iff_le, gt_iff_lt] at q; omega
    exact (kf q p lch e R s mi args below meth c H locs cells slots ls C P S L)
theorem V_icmp_ne {x y : Int} {off : Int} {tgt : Nat} (hd : decode m.2.1 pc = .ok (.if_icmp .ne off, 3)) (ht : (pc : Int) + off = (tgt : Int)) (hx : -2147483648 ≤ x ∧ x ≤ 2147483647) (hy : -2147483648 ≤ y ∧ y ≤ 2147483647) (kt : x ≠ y → V g m d Q h tgt lc st) (kf : x = y → V g m d Q h (pc + 3) lc st) : V g m d Q h pc lc (xI y :: xI x :: st) := by
  intro p lch e R s mi args below meth c H locs cells slots ls C P S L
  have e1 := @i32_eq x y hx hy
  have e2 := @i32_lt x y hx hy
  have e3 := @i32_lt y x hy hx
  have e4 := @i32_le x y hx hy
  have e5 := @i32_le y x hy hx
  refine lv_icmp_ne C.1 C.2.1 hd ht (fun q => ?_) (fun q => ?_)
  · have q : x ≠ y := by simp only [e1, e2, e3, e4, e5, ne_eq, ge_iff_le, gt_iff_lt] at q; omega
    exact (kt q p lch e R s mi args below meth c H locs cells slots ls C P S L)
  · have q : x = y := by simp only [e1, e2, e3, e4, e5, ne_eq, ge_iff_le, gt_iff_lt] at q; omega
    exact (kf q p lch e R s mi args below meth c H locs cells slots ls C P S L)
theorem V_icmp_lt {x y : Int} {off : Int} {tgt : Nat} (hd : decode m.2.1 pc = .ok (.if_icmp .lt off, 3)) (ht : (pc : Int) + off = (tgt : Int)) (hx : -2147483648 ≤ x ∧ x ≤ 2147483647) (hy : -2147483648 ≤ y ∧ y ≤ 2147483647) (kt : x < y → V g m d Q h tgt lc st) (kf : y ≤ x → V g m d Q h (pc + 3) lc st) : V g m d Q h pc lc (xI y :: xI x :: st) := by
  intro p lch e R s mi args below meth c H locs cells slots ls C P S L
  have e1 := @i32_eq x y hx hy
  have e2 := @i32_lt x y hx hy
  have e3 := @i32_lt y x hy hx
  have e4 := @i32_le x y hx hy
  have e5 := @i32_le y x hy hx
  refine lv_icmp_lt C.1 C.2.1 hd ht (fun q => ?_) (fun q => ?_)
  · have q : x < y := by simp only [e1, e2, e3, e4, e5, ne_eq, ge_iff_le, gt_iff_lt] at q; omega
    exact (kt q p lch e R s mi args below meth c H locs cells slots ls C P S L)
  · have q : y ≤ x := by simp only [e1, e2, e3, e4, e5, ne_eq, ge_iff_le, gt_iff_lt] at q; omega
    exact (kf q p lch e R s mi args below meth c H locs cells slots ls C P S L)
theorem V_icmp_ge {x y : Int} {off : Int} {tgt : Nat} (hd : decode m.2.1 pc = .ok (.if_icmp .ge off, 3)) (ht : (pc : Int) + off = (tgt : Int)) (hx : -2147483648 ≤ x ∧ x ≤ 2147483647) (hy : -2147483648 ≤ y ∧ y ≤ 2147483647) (kt : y ≤ x → V g m d Q h tgt lc st) (kf : x < y → V g m d Q h (pc + 3) lc st) : V g m d Q h pc lc (xI y :: xI x :: st) := by
  intro p lch e R s mi args below meth c H locs cells slots ls C P S L
  have e1 := @i32_eq x y hx hy
  have e2 := @i32_lt x y hx hy
  have e3 := @i32_lt y x hy hx
  have e4 := @i32_le x y hx hy
  have e5 := @i32_le y x hy hx
  refine lv_icmp_ge C.1 C.2.1 hd ht (fun q => ?_) (fun q => ?_)
  · have q : y ≤ x := by simp only [e1, e2, e3, e4, e5, ne_eq, ge_iff_le, gt_iff_lt] at q; omega
    exact (kt q p lch e R s mi args below meth c H locs cells slots ls C P S L)
  · have q : x < y := by simp only [e1, e2, e3, e4, e5, ne_eq, ge_iff_le, gt_iff_lt] at q; omega
    exact (kf q p lch e R s mi args below meth c H locs cells slots ls C P S L)
theorem V_icmp_gt {x y : Int} {off : Int} {tgt : Nat} (hd : decode m.2.1 pc = .ok (.if_icmp .gt off, 3)) (ht : (pc : Int) + off = (tgt : Int)) (hx : -2147483648 ≤ x ∧ x ≤ 2147483647) (hy : -2147483648 ≤ y ∧ y ≤ 2147483647) (kt : y < x → V g m d Q h tgt lc st) (kf : x ≤ y → V g m d Q h (pc + 3) lc st) : V g m d Q h pc lc (xI y :: xI x :: st) := by
  intro p lch e R s mi args below meth c H locs cells slots ls C P S L
  have e1 := @i32_eq x y hx hy
  have e2 := @i32_lt x y hx hy
  have e3 := @i32_lt y x hy hx
  have e4 := @i32_le x y hx hy
  have e5 := @i32_le y x hy hx
  refine lv_icmp_gt C.1 C.2.1 hd ht (fun q => ?_) (fun q => ?_)
  · have q : y < x := by simp only [e1, e2, e3, e4, e5, ne_eq, ge_iff_le, gt_iff_lt] at q; omega
    exact (kt q p lch e R s mi args below meth c H locs cells slots ls C P S L)
  · have q : x ≤ y := by simp only [e1, e2, e3, e4, e5, ne_eq, ge_iff_le, gt_iff_lt] at q; omega
    exact (kf q p lch e R s mi args below meth c H locs cells slots ls C P S L)
theorem V_icmp_le {x y : Int} {off : Int} {tgt : Nat} (hd : decode m.2.1 pc = .ok (.if_icmp .le off, 3)) (ht : (pc : Int) + off = (tgt : Int)) (hx : -2147483648 ≤ x ∧ x ≤ 2147483647) (hy : -2147483648 ≤ y ∧ y ≤ 2147483647) (kt : x ≤ y → V g m d Q h tgt lc st) (kf : y < x → V g m d Q h (pc + 3) lc st) : V g m d Q h pc lc (xI y :: xI x :: st) := by
  intro p lch e R s mi args below meth c H locs cells slots ls C P S L
  have e1 := @i32_eq x y hx hy
  have e2 := @i32_lt x y hx hy
  have e3 := @i32_lt y x hy hx
  have e4 := @i32_le x y hx hy
  have e5 := @i32_le y x hy hx
  refine lv_icmp_le C.1 C.2.1 hd ht (fun q => ?_) (fun q => ?_)
  · have q : x ≤ y := by simp only [e1, e2, e3, e4, e5, ne_eq, ge_iff_le, gt_iff_lt] at q; omega
    exact (kt q p lch e R s mi args below meth c H locs cells slots ls C P S L)
  · have q : y < x := by simp only [e1, e2, e3, e4, e5, ne_eq, ge_iff_le, gt_iff_lt] at q; omega
    exact (kf q p lch e R s mi args below meth c H locs cells slots ls C P S L)
end V1
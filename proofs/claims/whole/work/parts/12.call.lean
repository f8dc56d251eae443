section V4
variable {g : GP} {m m' : MT} {d d' : Nat} {Q Q' : Res → AH → Prop} {h : AH} {pc : Nat} {lc lc' st as : List AV}
def rmV (d n0 u0 : Nat) : Room := { frames := d, cells := z_CC - n0, slots := z_CS - u0, locals := 100 * d }
def PcV (g : GP) (as : List AV) (h : AH) (n0 u0 : Nat) : Array Value → State → Prop := fun v U => v = (as.map (cv g)).toArray ∧ Rp g h U.heap ∧ g_b g ≤ U.heap.size ∧ U.heap.size - g_b g = n0 ∧ z_s (g_b g) U.heap = u0 ∧ va_K (g_D g) vwCl (g_t g) U ∧ SF g U
def wsV0 (m : MT) : List Cond := Cond.code m.1 m.2.1 m.2.2.1 m.2.2.2.1 :: GW
/-- the method m, called with 'as' in the world h, d frames deep at most, comes to an end that Q allows -/
def Tr (g : GP) (m : MT) (d : Nat) (as : List AV) (h : AH) (Q : Res → AH → Prop) : Prop :=
  ∀ lch : Launch, lch.stackTraces = false → ∀ n0 u0 : Nat, vx_Met lch m.1 (wsV0 m) (rmV d n0 u0) (PcV g as h n0 u0) (QcV g Q) (XCV g Q) (z_CC - n0) (z_CS - u0) (fun q => g_b g ≤ q)
/-- .. that throws nothing (for constructors and super calls) -/
def TrI (g : GP) (m : MT) (d : Nat) (as : List AV) (h : AH) (Q : Res → AH → Prop) : Prop :=
  ∀ lch : Launch, lch.stackTraces = false → ∀ n0 u0 : Nat, Met lch m.1 (wsV0 m) (rmV d n0 u0) (PcV g as h n0 u0) (QcV g Q) (z_CC - n0) (z_CS - u0) (fun q => g_b g ≤ q)
theorem args_mem : ∀ (as : List AV) (k i : Nat) (v : AV), (∀ v ∈ as, (cv g v).category = 1) → as[i]? = some v → (k + i, cv g v) ∈ lv_args k (as.map (cv g))
  | [], k, i, v, _, h => by simp at h
  | a :: as, k, 0, v, hc, h => by
    cases Option.some.inj h
    exact List.mem_cons_self
  | a :: as, k, i + 1, v, hc, h => by
    have h1 := hc a List.mem_cons_self
    simp only [List.map_cons, lv_args, h1]
    refine List.mem_cons_of_mem _ ?_
    have := args_mem as (k + 1) i v (fun v hv => hc v (List.mem_cons_of_mem _ hv)) h
    rw [show k + (i + 1) = k + 1 + i by omega]
    simpa using this
/-- the locals at the entry -/
def l_0 (n : Nat) (as : List AV) : List AV := as ++ List.replicate (n - as.length) xU
theorem LH.entry {n : Nat} (hc : ∀ v ∈ as, (cv g v).category = 1) (hn : as.length ≤ n) {ls : Array Slot} (hl : lv_has ls n (lv_args 0 (as.map (cv g)))) : LH g ls n (l_0 n as) := by
  refine ⟨hl.1, hl.2.1, by simp [l_0]; omega, fun i v h hv => ?_⟩
  by_cases hi : i < as.length
  · rw [l_0, List.getElem?_append_left hi] at h
    have := args_mem (g := g) as 0 i v hc h
    rw [Nat.zero_add] at this
    exact hl.2.2 _ this
  · rw [l_0, List.getElem?_append_right (by omega)] at h
    have h2 := List.mem_of_getElem? h
    exact absurd (List.mem_replicate.mp h2).2 hv
theorem sl_len : ∀ (as : List AV), (∀ v ∈ as, (cv g v).category = 1) → (lg_sl (as.map (cv g))).length = as.length
  | [], _ => rfl
  | a :: as, hc => by
    have h1 := hc a List.mem_cons_self
    have := sl_len as (fun v hv => hc v (List.mem_cons_of_mem _ hv))
    simp only [lg_sl, List.map_cons, List.flatMap_cons, h1] at this ⊢
    simp [this]
theorem W_mono {p : Program} {lch : Launch} {e : Env} {R : Room} {s : State} {mi : MethodId} {args : Array Value} {below : List Frame} {meth : Method} {c : Code} {H : Heap} {locs : List Loc} {cells slots : Nat} {Q1 Q2 : State → Prop} {fr : JFrame} (h : ∀ t, Q1 t → Q2 t) (k : W p lch e R s mi args below meth c H locs cells slots Q1 fr) : W p lch e R s mi args below meth c H locs cells slots Q2 fr := by
  intro T hT X
  obtain ⟨t, a, b⟩ := k T hT X
  exact ⟨t, a, h t b⟩
/-- the body's walk, from the entry -/
theorem V.body (hc : ∀ v ∈ as, (cv g v).category = 1) (hn : as.length ≤ m.2.2.1) (k : V g m d Q h 0 (l_0 m.2.2.1 as) [])
    {lch : Launch} (hfl : lch.stackTraces = false) {n0 u0 : Nat} {p : Program} {e : Env} {s : State} {mi : MethodId} {args : Array Value} {below : List Frame} {meth : Method} {c : Code} {s₁ : State} {ws : List Cond} (hws : ∀ w ∈ GW, w ∈ ws)
    (B : BodyLoose p lch m.1 (headSpec ws (rmV d n0 u0)) m.2.1 m.2.2.1 m.2.2.2.1 e s mi args below meth c s₁) (hml : c.maxLocals = m.2.2.1) (htab : c.exceptionTable.toList = tableOf m.2.2.2.2) (hP : PcV g as h n0 u0 args s) :
    W p lch e (headSpec ws (rmV d n0 u0)).room s mi args below meth c s.heap [] 0 0 (vx_MQ below (QcV g Q) (XCV g Q) args s (z_CC - n0) (z_CS - u0) (fun q => g_b g ≤ q)) (entryFrame mi args m.2.2.1) := by
  obtain ⟨ha, hR, hb, h0, h1, hK, hF⟩ := hP
  have hts : ∀ w ∈ GW, w.before args s = true := fun w hw => atoms_spec (ws := ws) B.pre w (hws w hw)
  have hown : s.vm.findClass m.1.cls = some mi.cls := findClass_of_methodNamed B.named
  have hname : meth.name = m.1.name := (name_of_methodNamed B.named B.method).1
  subst ha
  have hl := lv_entry (as.map (cv g)) (n := m.2.2.1) (by rw [sl_len as hc]; exact hn)
  rw [lg_entry_eq]
  generalize (lg_sl (as.map (cv g)) ++ List.replicate (m.2.2.1 - (lg_sl (as.map (cv g))).length) Slot.unset).toArray = ls at hl ⊢
  have := k p lch e (rmV d n0 u0) s mi _ below meth c s.heap [] 0 0 ls
    ⟨B.exec, B.bytes, hml, hown, hts, hK, B.returns, hname, B.notSynchronized, hfl, ⟨Nat.le_refl _, Nat.le_refl _, by show z_CC - n0 = _; rw [h0], by show z_CS - u0 = _; rw [h1]⟩, hb, hF, htab⟩ hR va_S.rf (LH.entry hc hn hl)
  exact this
theorem Tr.ofV (hpl : plainName m.1.cls = true) (hh : m.2.2.2.2 = []) (hc : ∀ v ∈ as, (cv g v).category = 1) (hn : as.length ≤ m.2.2.1) (k : V g m d Q h 0 (l_0 m.2.2.1 as) []) : Tr g m d as h Q := by
  intro lch hfl n0 u0
  refine vx_ofW (cc := m.2.1) (maxL := m.2.2.1) (ret := m.2.2.2.1) hpl rfl fun p e s mi args below meth c s₁ B hml ht hP => ?_
  refine V.body hc hn k hfl (fun w hw => List.mem_cons_of_mem _ hw) B hml ?_ hP
  rw [hh]
  exact List.eq_nil_iff_forall_not_mem.mpr fun x hx => ht x hx
theorem TrI.ofTr (hT : Tr g m d as h Q) (hx : ∀ E h', ¬ Q (.inr E) h') : TrI g m d as h Q := by
  intro lch hfl n0 u0
  intro p e ha hc hk s mi args below hf hfit hP htr
  obtain ⟨k, o, h1, h2, h3, h4⟩ := hT lch hfl n0 u0 p e ha hc hk s mi args below hf hfit hP htr
  refine ⟨k, o, h1, h2, h3, ?_⟩
  rcases h4 with h4 | ⟨q, rfl, E, ce, L, ⟨⟨h', -, hq⟩, -⟩, -⟩
  · exact h4
  · exact absurd hq (hx E h')
theorem PcV.blind {n0 u0 : Nat} : FrameBlind (PcV g as h n0 u0) := by
  intro a U fr mk q
  obtain ⟨q1, q2, q3, q4, q5, q6, q7⟩ := q
  exact ⟨q1, q2, q3, q4, q5, va_K.moved (u := U) (U := U.calling fr mk a) (Vm.Alike.refl U.vm) q6, SF.moved (u := U) (U := U.calling fr mk a) (State.WarmedH.refl U) (fun _ _ => rfl) q7⟩
theorem PcV.at {p : Program} {lch : Launch} {R : Room} {s : State} {mi : MethodId} {args : Array Value} {meth : Method} {c : Code} {H : Heap} {locs : List Loc} (C : Cx g m d p lch R s mi args meth c) (P : Rp g h H) (S : va_S (fun q => g_b g ≤ q) s.heap H locs) {U : State} (hU : U.heap = H) (hW : s.WarmedH U.vm) : PcV g as h (H.size - g_b g) (z_s (g_b g) H) (as.map (cv g)).toArray U := by
  have hb := C.2.2.2.2.2.2.2.2.2.2.2.1
  have F := C.2.2.2.2.2.2.2.2.2.2.2.2.1
  subst hU
  exact ⟨rfl, P, by have := S.1; omega, rfl, rfl, va_K.moved hW.alike C.2.2.2.2.2.1, SF.moved hW (fun q hq => S.2.1 q (by omega) (by omega)) F⟩
theorem GW.good : GoodIn GW GW := fun w hw => ⟨hw, good_of_word (List.mem_filter.mp hw).2⟩
theorem wsV0.good (hcode : Cond.code m.1 m.2.1 m.2.2.1 m.2.2.2.1 ∈ GW) : GoodIn GW (wsV0 m) := by
  intro w hw
  rcases List.mem_cons.mp hw with rfl | hw
  · exact GW.good _ hcode
  · exact GW.good _ hw
/-- a call's words, but how it is chosen -/
def CaB (own : String) (idx : Nat) (m' : MT) (n : Nat) : Prop :=
  Cond.methodLink own idx m'.1 ∈ GW ∧ Cond.initialized m'.1.cls ∈ GW ∧ Cond.code m'.1 m'.2.1 m'.2.2.1 m'.2.2.2.1 ∈ GW ∧ (m'.1.cls ≠ "java/lang/invoke/MethodHandle" ∧ m'.1.cls ≠ "java/lang/invoke/VarHandle") ∧ (parseMethodDescriptor m'.1.desc).map (fun d => d.parameters.length) = some n ∧ m'.2.2.1 ≤ 60
def CaS (own : String) (idx : Nat) (m' : MT) (n : Nat) : Prop := CaB own idx m' n ∧ Cond.static m'.1 ∈ GW
def CaV (own : String) (idx : Nat) (m' : MT) (n ci : Nat) : Prop := CaB own idx m' n ∧ Cond.instanceMethod m'.1 ∈ GW ∧ ci < 10 ∧ ∃ q : vw_C, vwCl[ci]? = some q ∧ (Cond.selects q.1 m'.1 m'.1 ∈ GW ∨ ∃ k : Nat, Cond.instantiable q.1 k ∈ GW ∧ Cond.privateMethod m'.1 ∈ GW ∧ Cond.sameMethod m'.1.cls m'.1.cls m'.1.name m'.1.desc ∈ GW)
/-- a private method is chosen as it is, whatever the receiver's class -/
theorem sel_priv {C : String} {y : MethodName} {s : State} {args : Array Value} {n : Nat} (hy : y.cls ≠ "java/lang/invoke/MethodHandle" ∧ y.cls ≠ "java/lang/invoke/VarHandle")
    (hins : (Cond.instantiable C n).before args s = true) (hpriv : (Cond.privateMethod y).before args s = true) (hinst : (Cond.instanceMethod y).before args s = true) (hsm : (Cond.sameMethod y.cls y.cls y.name y.desc).before args s = true) : (Cond.selects C y y).before args s = true := by
  obtain ⟨cn, ck, r1, hcn, hck, hni, hf, hn1⟩ := Cond.sameMethod_found hsm
  obtain ⟨c, k, hc, hk, -, hniab, -, -⟩ := Cond.instantiable_spec hins
  obtain ⟨mk, methM, hnamed, hmethM, -, -⟩ := Cond.instanceMethod_spec hinst
  have hfound : s.methodFound? y.cls y.name y.desc = some mk := State.methodFound?_of_named hnamed hy
  have hsel : selectMethod {} s.vm c mk = .method mk := selectMethod_private hmethM (Cond.privateMethod_at hpriv mk methM hnamed hmethM)
  have hmc : mk.cls = cn := Option.some.inj ((findClass_of_methodNamed hnamed).symm.trans hcn)
  simp only [Cond.before, Cond.holds, Cond.value, hc, hfound, hnamed, hsel, hmc, hck]
  simp; exact hni
def CaI (own : String) (idx : Nat) (m' : MT) (n : Nat) : Prop := CaB own idx m' n ∧ Cond.instanceMethod m'.1 ∈ GW ∧ m'.1.name = "<init>"
theorem CaB.use {p : Program} {lch : Launch} {R : Room} {s : State} {mi : MethodId} {args : Array Value} {meth : Method} {c : Code} {idx n n0 u0 : Nat} (C : Cx g m d p lch R s mi args meth c) (hd' : d' + 1 ≤ d) (hw : CaB m.1.cls idx m' n) :
    CallB R s args m.1.cls idx m'.1 m'.2.1 m'.2.2.1 m'.2.2.2.1 (wsV0 m') (rmV d' n0 u0) (z_CC - n0) (z_CS - u0) n := by
  obtain ⟨w1, w2, w3, w4, w5, w6⟩ := hw
  have hts := C.2.2.2.2.1
  have hR := C.2.2.2.2.2.2.2.2.2.2.1
  refine ⟨rfl, rfl, ?_, ?_, pay_in hts (wsV0.good w3), List.mem_cons_self, hts _ w3, hts _ w2, w4, fun sig hs => ?_, hts _ w1⟩
  · show d' + 1 ≤ R.frames
    omega
  · show 8 + (m'.2.2.1 + 11) + 100 * d' ≤ R.locals
    omega
  · rw [hs] at w5
    exact (Option.some.inj w5).symm
theorem st_cat (hst : (st.map (fun v => (cv g v).category)).sum ≤ 8) : ((st.map (cv g)).map fun v => v.category).sum ≤ 8 := by
  rw [List.map_map]
  exact hst
/-- what follows a call that has come back -/
theorem V.back {p : Program} {lch : Launch} {e : Env} {R : Room} {s : State} {mi : MethodId} {args : Array Value} {below : List Frame} {meth : Method} {c : Code} {H : Heap} {locs : List Loc} {ls : Array Slot} (C : Cx g m d p lch R s mi args meth c) (S : va_S (fun q => g_b g ≤ q) s.heap H locs) (L : LH g ls m.2.2.1 lc)
    (kr : ∀ (v : Option AV) (h' : AH), Q' (.inl v) h' → V g m d Q h' (pc + 3) lc (v.toList ++ st))
    {T T' t st₀ : State} {v : Option Value} {Ls : List Loc} {c2 s2 : Nat} {fr : JFrame} {a : Array Value} (h0 : st₀.heap = H) (X' : Stand p lch e R s mi args below meth c T' (locs ++ Ls) c2 s2) (hL : ∀ q ∈ Ls, g_b g ≤ q.base) (e1 : T'.heap = t.heap) (hQ : QcV g Q' a st₀ (.returned v) t)
    (hst : Goes p e below T fr T' (F0 mi (pc + 3) ls (v.toList ++ st.map (cv g)))) : ∃ t, Steps p.tables e below (T.setTop fr) t ∧ EV g Q R below args s t := by
  obtain ⟨⟨v', h', ho, hRp, hq⟩, hF⟩ := hQ
  cases ho
  obtain ⟨k1, k2, k3⟩ := vx_keep (A1 := fun q => g_b g ≤ q) h0 e1 S (fun _ _ z => z) (fun _ z => z) hL hF
  have kk := kr v' h' hq p lch e R s mi args below meth c T'.heap (locs ++ Ls) c2 s2 ls C (by rw [e1]; exact hRp) k3 L T' rfl X'
  obtain ⟨t2, a1, b1⟩ := kk
  refine ⟨t2, hst t2 ?_, b1⟩
  have e9 : (v'.map (cv g)).toList ++ st.map (cv g) = (v'.toList ++ st).map (cv g) := by cases v' <;> simp
  rw [e9]
  exact a1
/-- .. that has thrown, nothing caught here -/
theorem V.out {p : Program} {lch : Launch} {e : Env} {R : Room} {s : State} {mi : MethodId} {args : Array Value} {below : List Frame} {meth : Method} {c : Code} {H : Heap} {locs : List Loc} {ls : Array Slot} {rest : List Value} (C : Cx g m d p lch R s mi args meth c) (S : va_S (fun q => g_b g ≤ q) s.heap H locs) (hh : m.2.2.2.2 = [])
    (kx : ∀ (E : String) (h' : AH), Q' (.inr E) h' → Q (.inr E) h')
    {T' t st₀ : State} {q : Addr} {E : String} {ce : Cell} {Ls : List Loc} {c2 s2 : Nat} {fr : JFrame} {T : State} (h0 : st₀.heap = H) (X' : Stand p lch e R s mi args below meth c T' (locs ++ Ls) c2 s2) (hL : ∀ q ∈ Ls, g_b g ≤ q.base) (e1 : T'.heap = t.heap) (hQ : XCV g Q' E st₀ t)
    (hce : t.heap[q]? = some ce) (hcv : ce.vm = .none) (hcl : s.vm.findClass E = some ce.cls) (hst : Steps p.tables e below (T.setTop fr) ((T'.setTop (F0 mi pc ls rest)).pushFrame (.throwing q))) : ∃ t, Steps p.tables e below (T.setTop fr) t ∧ EV g Q R below args s t := by
  obtain ⟨⟨h', hRp, hq⟩, hF⟩ := hQ
  obtain ⟨k1, k2, k3⟩ := vx_keep (A1 := fun q => g_b g ≤ q) h0 e1 S (fun _ _ z => z) (fun _ z => z) hL hF
  rw [← e1] at hRp hce
  obtain ⟨X2, -, -⟩ := C.tight (a := 0) (b := 0) hRp X' hRp.2.2.2.2.1 hRp.2.2.2.2.2
  have hout : ∀ x ∈ c.exceptionTable.toList, covers x pc = false := by
    rw [C.2.2.2.2.2.2.2.2.2.2.2.2.2, hh]
    intro x hx
    cases hx
  have kk := vx_out (Qc := QcV g Q) (XC := XCV g Q) (args := args) (below := below) (p := p) (l := lch) (e := e) (R := R) (m := mi) (meth := meth) (free := fun q => g_b g ≤ q) (rest := rest) (ls := ls) (pc := pc) (mc := R.cells) (ms := R.slots) hout C.2.2.2.2.2.2.2.2.1 hce hcv hcl (fun t9 h9 _ => ⟨⟨h', by rw [h9]; exact hRp, kx E h' hq⟩, k3.F h9⟩) k3.2.2 (Nat.sub_le _ _) (Nat.sub_le _ _) T' rfl X2
  obtain ⟨t2, a1, b1⟩ := kk
  exact ⟨t2, hst.trans a1, b1⟩
theorem Cx.exact {p : Program} {lch : Launch} {e : Env} {R : Room} {s : State} {mi : MethodId} {args : Array Value} {below : List Frame} {meth : Method} {c : Code} {T : State} {locs : List Loc} {cells slots : Nat} (C : Cx g m d p lch R s mi args meth c) (P : Rp g h T.heap) (X : Stand p lch e R s mi args below meth c T locs cells slots) :
    Stand p lch e R s mi args below meth c T locs (T.heap.size - s.heap.size) (z_s (g_b g) T.heap - z_s (g_b g) s.heap) ∧ (T.heap.size - s.heap.size) + (z_CC - (T.heap.size - g_b g)) ≤ R.cells ∧ (z_s (g_b g) T.heap - z_s (g_b g) s.heap) + (z_CS - z_s (g_b g) T.heap) ≤ R.slots := by
  have hb := C.2.2.2.2.2.2.2.2.2.2.2.1
  obtain ⟨-, -, r3, r4⟩ := C.2.2.2.2.2.2.2.2.2.2.1
  obtain ⟨p1, p2, -, p4, p5, p6⟩ := P
  have hs := st_sum X hb
  have hsz : s.heap.size ≤ T.heap.size := X.same.2.1
  refine ⟨st_tight X ?_ ?_, ?_, ?_⟩ <;> omega
theorem V_callS {idx n : Nat} (hd : decode m.2.1 pc = .ok (.invokestatic idx, 3)) (hw : CaS m.1.cls idx m' n) (hh : m.2.2.2.2 = []) (hd' : d' + 1 ≤ d) (hn : as.length = n) (hst : (st.map (fun v => (cv g v).category)).sum ≤ 8) (hT : Tr g m' d' as h Q')
    (kx : ∀ (E : String) (h' : AH), Q' (.inr E) h' → Q (.inr E) h') (kr : ∀ (v : Option AV) (h' : AH), Q' (.inl v) h' → V g m d Q h' (pc + 3) lc (v.toList ++ st)) : V g m d Q h pc lc (as.reverse ++ st) := by
  intro p lch e R s mi args below meth c H locs cells slots ls C P S L
  intro T hT9 X
  subst hT9
  obtain ⟨X2, b1, b2⟩ := C.exact P X
  have hr := vx_runS (Ts := GW) (H := T.heap) (locs := locs) (rest := st.map (cv g)) (g := F0 mi pc ls ((as.reverse ++ st).map (cv g))) (e := e) (below := below) (meth := meth) (As := as.map (cv g)) ⟨C.1, C.2.1, C.2.2.1, C.2.2.2.1, C.2.2.2.2.1⟩ (hT lch C.2.2.2.2.2.2.2.2.2.1 (T.heap.size - g_b g) (z_s (g_b g) T.heap)) ⟨hw.1.use C hd', C.2.2.2.2.1 _ hw.2⟩ ⟨PcV.blind, fun U hU hW => PcV.at C P S hU hW⟩ rfl (by simpa using hn) L.1 (by simp) (lv_room (st_cat hst)) hd ⟨b1, b2⟩
  rcases hr T rfl X2 with ⟨v, st₀, t, T', Ls, h0, X', hL, e1, e2, hQ, hg⟩ | ⟨q, st₀, t, T', Ls, E, ce, h0, X', hL, e1, e2, hQ, hce, hcv, hcl, hg⟩
  · exact V.back C S L kr h0 X' hL e1 hQ hg
  · exact V.out C S hh kx h0 X' hL e1 hQ hce hcv hcl hg
theorem V_callV {idx n ci a : Nat} (hd : decode m.2.1 pc = .ok (.invokevirtual idx, 3)) (hw : CaV m.1.cls idx m' n ci) (hh : m.2.2.2.2 = []) (hd' : d' + 1 ≤ d) (hn : as.length = n) (hst : (st.map (fun v => (cv g v).category)).sum ≤ 8) (ha : h_k h a = ci + 1) (hT : Tr g m' d' (xR a :: as) h Q')
    (kx : ∀ (E : String) (h' : AH), Q' (.inr E) h' → Q (.inr E) h') (kr : ∀ (v : Option AV) (h' : AH), Q' (.inl v) h' → V g m d Q h' (pc + 3) lc (v.toList ++ st)) : V g m d Q h pc lc (as.reverse ++ xR a :: st) := by
  intro p lch e R s mi args below meth c H locs cells slots ls C P S L
  intro T hT9 X
  subst hT9
  obtain ⟨X2, b1, b2⟩ := C.exact P X
  obtain ⟨w1, w2, hci, q, hq, w3⟩ := hw
  obtain ⟨cell, q1, q2, q3, -⟩ := P.obj ha hci
  have ea : cv g (xR a) = .ref (g_a g a) := P.rv (a := a) (by omega)
  have hse : (Cond.selects q.1 m'.1 m'.1).before args s = true := by
    rcases w3 with w3 | ⟨k9, w3, w4, w5⟩
    · exact C.2.2.2.2.1 _ w3
    · exact sel_priv w1.2.2.2.1 (C.2.2.2.2.1 _ w3) (C.2.2.2.2.1 _ w4) (C.2.2.2.2.1 _ w2) (C.2.2.2.2.1 _ w5)
  have hr := vx_runV (Ts := GW) (H := T.heap) (locs := locs) (rest := st.map (cv g)) (g := F0 mi pc ls ((as.reverse ++ xR a :: st).map (cv g))) (e := e) (below := below) (meth := meth) (As := as.map (cv g)) (C := q.1) (b := g_a g a) ⟨C.1, C.2.1, C.2.2.1, C.2.2.2.1, C.2.2.2.2.1⟩ (hT lch C.2.2.2.2.2.2.2.2.2.1 (T.heap.size - g_b g) (z_s (g_b g) T.heap)) ⟨w1.use C hd', C.2.2.2.2.1 _ w2, hse⟩ ⟨PcV.blind, ⟨cell, q1, by rw [q3]; rfl, by rw [q2]; exact (C.2.2.2.2.2.1.1 ci q hq).2.1⟩, fun U hU hW => by
      have := PcV.at (as := xR a :: as) C P S hU hW
      rw [List.map_cons, ea] at this
      exact this⟩ rfl (by simpa using hn) L.1 (by show List.map (cv g) (as.reverse ++ xR a :: st) = _; rw [List.map_append, List.map_cons, ea, List.map_reverse]) (lv_room (st_cat hst)) hd ⟨b1, b2⟩
  rcases hr T rfl X2 with ⟨v, st₀, t, T', Ls, h0, X', hL, e1, e2, hQ, hg⟩ | ⟨q, st₀, t, T', Ls, E, ce, h0, X', hL, e1, e2, hQ, hce, hcv, hcl, hg⟩
  · exact V.back C S L kr h0 X' hL e1 hQ hg
  · exact V.out C S hh kx h0 X' hL e1 hQ hce hcv hcl hg
theorem V_callI {idx n a : Nat} (hd : decode m.2.1 pc = .ok (.invokespecial idx, 3)) (hw : CaI m.1.cls idx m' n) (hnone : m'.2.2.2.1 = none) (hd' : d' + 1 ≤ d) (hn : as.length = n) (hst : (st.map (fun v => (cv g v).category)).sum ≤ 8) (ha : a ≠ 0) (hT : TrI g m' d' (xR a :: as) h Q')
    (kr : ∀ (v : Option AV) (h' : AH), Q' (.inl v) h' → V g m d Q h' (pc + 3) lc (v.toList ++ st)) : V g m d Q h pc lc (as.reverse ++ xR a :: st) := by
  intro p lch e R s mi args below meth c H locs cells slots ls C P S L
  intro T hT9 X
  subst hT9
  obtain ⟨X2, b1, b2⟩ := C.exact P X
  obtain ⟨w1, w2, w3⟩ := hw
  have ea : cv g (xR a) = .ref (g_a g a) := rv_pos ha
  have hcb := w1.use (n0 := T.heap.size - g_b g) (u0 := z_s (g_b g) T.heap) C hd'
  have hr := va_runI (Ts := GW) (H := T.heap) (locs := locs) (rest := st.map (cv g)) (g := F0 mi pc ls ((as.reverse ++ xR a :: st).map (cv g))) (e := e) (below := below) (meth := meth) (As := as.map (cv g)) (b := g_a g a) ⟨C.1, C.2.1, C.2.2.1, C.2.2.2.1, C.2.2.2.2.1⟩ (hT lch C.2.2.2.2.2.2.2.2.2.1 (T.heap.size - g_b g) (z_s (g_b g) T.heap)) ⟨by rw [hnone] at hcb; exact hcb, w3, C.2.2.2.2.1 _ w2⟩ ⟨PcV.blind, fun U hU hW => by
      have := PcV.at (as := xR a :: as) C P S hU hW
      rw [List.map_cons, ea] at this
      exact this⟩ rfl (by simpa using hn) L.1 (by show List.map (cv g) (as.reverse ++ xR a :: st) = _; rw [List.map_append, List.map_cons, ea, List.map_reverse]) (lv_room (st_cat hst)) hd ⟨b1, b2⟩
  obtain ⟨v, st₀, t, T', Ls, h0, X', hL, e1, e2, hQ, hg⟩ := hr T rfl X2
  exact V.back C S L kr h0 X' hL e1 hQ hg
theorem V_objInit {idx a : Nat} (hd : decode m.2.1 pc = .ok (.invokespecial idx, 3)) (w1 : Cond.methodLink m.1.cls idx Lib.objectInit ∈ GW) (w2 : Cond.instanceMethod Lib.objectInit ∈ GW) (w3 : Cond.code Lib.objectInit ⟨#[0xb1]⟩ 1 none ∈ GW) (hd1 : 1 ≤ d) (hst : (st.map (fun v => (cv g v).category)).sum ≤ 8) (ha : a ≠ 0) (k : V g m d Q h (pc + 3) lc st) : V g m d Q h pc lc (xR a :: st) := by
  intro p lch e R s mi args below meth c H locs cells slots ls C P S L
  have hts := C.2.2.2.2.1
  have hR := C.2.2.2.2.2.2.2.2.2.2.1
  change W _ _ _ _ _ _ _ _ _ _ _ _ _ _ _ (F0 _ _ _ (rv g a :: _))
  rw [rv_pos ha]
  have h8 := st_cat hst
  refine W.objInit C.1 C.2.1 C.2.2.2.1 (hts _ w1) (hts _ w2) (hts _ w3) rfl (L.1.trans C.2.2.1.symm) rfl hd (by omega) ?_ (k p lch e R s mi args below meth c H locs cells slots ls C P S L)
  show 2 * 0 + _ + 12 ≤ _
  omega
end V4

section V6
variable {g : GP} {m m' : MT} {d d' : Nat} {Q Q' : Res → AH → Prop} {h : AH} {pc : Nat} {lc lc' st as : List AV}
/-- super calls -/
def CaU (own : String) (idx : Nat) (m' : MT) (n ci : Nat) : Prop := CaB own idx m' n ∧ Cond.sameMethod m'.1.cls m'.1.cls m'.1.name m'.1.desc ∈ GW ∧ Cond.superclass own m'.1.cls ∈ GW ∧ Cond.instanceMethod m'.1 ∈ GW ∧ m'.1.name ≠ "<init>" ∧ ci < 10 ∧ ∃ q : vw_C, vwCl[ci]? = some q
theorem V_callU {idx n ci a : Nat} (hd : decode m.2.1 pc = .ok (.invokespecial idx, 3)) (hw : CaU m.1.cls idx m' n ci) (hd' : d' + 1 ≤ d) (hn : as.length = n) (hst : (st.map (fun v => (cv g v).category)).sum ≤ 8) (ha : h_k h a = ci + 1) (hT : TrI g m' d' (xR a :: as) h Q')
    (kr : ∀ (v : Option AV) (h' : AH), Q' (.inl v) h' → V g m d Q h' (pc + 3) lc (v.toList ++ st)) : V g m d Q h pc lc (as.reverse ++ xR a :: st) := by
  intro p lch e R s mi args below meth c H locs cells slots ls C P S L
  intro T hT9 X
  subst hT9
  obtain ⟨X2, b1, b2⟩ := C.exact P X
  obtain ⟨w1, w2, w3, w4, w5, hci, q, hq⟩ := hw
  obtain ⟨cell, q1, q2, q3, -⟩ := P.obj ha hci
  have hts := C.2.2.2.2.1
  have ea : cv g (xR a) = .ref (g_a g a) := P.rv (a := a) (by omega)
  obtain ⟨r1, r2, r3, r4, r5, r6, r7, r8, r9, r10, r11⟩ := w1.use (n0 := T.heap.size - g_b g) (u0 := z_s (g_b g) T.heap) C hd'
  have hKn := (C.2.2.2.2.2.1.1 ci q hq).2
  have hr := va_runSU (C := q.1) (cC := (g_D g).1 ci) hKn (Ts := GW) (H := T.heap) (locs := locs) (rest := st.map (cv g)) (g := F0 mi pc ls ((as.reverse ++ xR a :: st).map (cv g))) (e := e) (below := below) (meth := meth) (As := as.map (cv g)) (b := g_a g a) ⟨C.1, C.2.1, C.2.2.1, C.2.2.2.1, hts⟩ (hT lch C.2.2.2.2.2.2.2.2.2.1 (T.heap.size - g_b g) (z_s (g_b g) T.heap)) ⟨⟨r1, r2, r3, r4, r5, r6⟩, r11, hts _ w2, hts _ w3, hts _ w4, r8, r7, w5, r10⟩ ⟨PcV.blind, ⟨cell, q1, by rw [q3]; rfl, by rw [q2]; exact hKn.1⟩, fun U hU hW => by
      have := PcV.at (as := xR a :: as) C P S hU hW
      rw [List.map_cons, ea] at this
      exact this⟩ rfl (by simpa using hn) L.1 (by show List.map (cv g) (as.reverse ++ xR a :: st) = _; rw [List.map_append, List.map_cons, ea, List.map_reverse]) (lv_room (st_cat hst)) hd ⟨b1, b2⟩
  obtain ⟨v, st₀, t, T', Ls, h0, X', hL, e1, e2, hQ, hg⟩ := hr T rfl X2
  exact V.back C S L kr h0 X' hL e1 hQ hg
/-- a method with handlers -/
def wsVH (m : MT) : List Cond := Cond.codeWith m.1 m.2.1 m.2.2.1 m.2.2.2.1 m.2.2.2.2 :: GW
def TrH (g : GP) (m : MT) (d : Nat) (as : List AV) (h : AH) (Q : Res → AH → Prop) : Prop :=
  ∀ lch : Launch, lch.stackTraces = false → ∀ n0 u0 : Nat, vx_Met lch m.1 (wsVH m) (rmV d n0 u0) (PcV g as h n0 u0) (QcV g Q) (XCV g Q) (z_CC - n0) (z_CS - u0) (fun q => g_b g ≤ q)
theorem TrH.ofV (hpl : plainName m.1.cls = true) (hc : ∀ v ∈ as, (cv g v).category = 1) (hn : as.length ≤ m.2.2.1) (k : V g m d Q h 0 (l_0 m.2.2.1 as) []) : TrH g m d as h Q := by
  intro lch hfl n0 u0
  refine vx_ofWH (cc := m.2.1) (maxL := m.2.2.1) (ret := m.2.2.2.1) (hh := m.2.2.2.2) hpl rfl fun p e s mi args below meth c s₁ B hml hP => ?_
  exact V.body hc hn k hfl (fun w hw => List.mem_cons_of_mem _ hw) B hml (by have hcw : (Cond.codeWith m.1 m.2.1 m.2.2.1 m.2.2.2.1 m.2.2.2.2).before args s = true := atoms_spec (ws := wsVH m) B.pre _ List.mem_cons_self; exact vx_table (x := m.1) (y := m.1) B hcw) hP
def CaH (own : String) (idx : Nat) (m' : MT) (n : Nat) : Prop := (Cond.methodLink own idx m'.1 ∈ GW ∧ Cond.initialized m'.1.cls ∈ GW ∧ Cond.codeWith m'.1 m'.2.1 m'.2.2.1 m'.2.2.2.1 m'.2.2.2.2 ∈ GW ∧ (m'.1.cls ≠ "java/lang/invoke/MethodHandle" ∧ m'.1.cls ≠ "java/lang/invoke/VarHandle") ∧ (parseMethodDescriptor m'.1.desc).map (fun d => d.parameters.length) = some n ∧ m'.2.2.1 ≤ 60) ∧ Cond.static m'.1 ∈ GW
theorem V_callH {idx n : Nat} (hd : decode m.2.1 pc = .ok (.invokestatic idx, 3)) (hw : CaH m.1.cls idx m' n) (hh : m.2.2.2.2 = []) (hd' : d' + 1 ≤ d) (hn : as.length = n) (hst : (st.map (fun v => (cv g v).category)).sum ≤ 8) (hT : TrH g m' d' as h Q')
    (kx : ∀ (E : String) (h' : AH), Q' (.inr E) h' → Q (.inr E) h') (kr : ∀ (v : Option AV) (h' : AH), Q' (.inl v) h' → V g m d Q h' (pc + 3) lc (v.toList ++ st)) : V g m d Q h pc lc (as.reverse ++ st) := by
  intro p lch e R s mi args below meth c H locs cells slots ls C P S L
  intro T hT9 X
  subst hT9
  obtain ⟨X2, b1, b2⟩ := C.exact P X
  obtain ⟨⟨w1, w2, w3, w4, w5, w6⟩, w7⟩ := hw
  have hts := C.2.2.2.2.1
  have hR := C.2.2.2.2.2.2.2.2.2.2.1
  have hgood : GoodIn GW (wsVH m') := by
    intro w hw
    rcases List.mem_cons.mp hw with rfl | hw
    · exact GW.good _ w3
    · exact GW.good _ hw
  have hr := vx_runSX (Ts := GW) (H := T.heap) (locs := locs) (rest := st.map (cv g)) (g := F0 mi pc ls ((as.reverse ++ st).map (cv g))) (e := e) (below := below) (meth := meth) (As := as.map (cv g)) ⟨C.1, C.2.1, C.2.2.1, C.2.2.2.1, hts⟩ (hT lch C.2.2.2.2.2.2.2.2.2.1 (T.heap.size - g_b g) (z_s (g_b g) T.heap)) ⟨⟨rfl, rfl, by show d' + 1 ≤ R.frames; omega, by show 8 + (m'.2.2.1 + 11) + 100 * d' ≤ R.locals; omega, pay_in hts hgood, List.mem_cons_self⟩, hts _ w3, hts _ w2, w4, fun sig hs => by rw [hs] at w5; exact (Option.some.inj w5).symm, hts _ w1, hts _ w7⟩ ⟨PcV.blind, fun U hU hW => PcV.at C P S hU hW⟩ rfl (by simpa using hn) L.1 (by simp) (lv_room (st_cat hst)) hd ⟨b1, b2⟩
  rcases hr T rfl X2 with ⟨v, st₀, t, T', Ls, h0, X', hL, e1, e2, hQ, hg⟩ | ⟨q, st₀, t, T', Ls, E, ce, h0, X', hL, e1, e2, hQ, hce, hcv, hcl, hg⟩
  · exact V.back C S L kr h0 X' hL e1 hQ hg
  · exact V.out C S hh kx h0 X' hL e1 hQ hce hcv hcl hg
/-- what catches E at pc -/
def Catch (g : GP) (m : MT) (d : Nat) (Q : Res → AH → Prop) (pc : Nat) (lc : List AV) (E : String) (h' : AH) : Prop :=
  ∃ (pre : List (Nat × Nat × Nat × Nat)) (x : Nat × Nat × Nat × Nat) (suf : List (Nat × Nat × Nat × Nat)) (name : String), m.2.2.2.2 = pre ++ x :: suf ∧ (∀ z ∈ pre, z.2.2.2 ≠ 0 ∧ ∃ nm : String, Cond.classLink m.1.cls z.2.2.2 nm ∈ GW ∧ (E, nm) ∈ z_ncast) ∧
    (x.1 ≤ pc ∧ pc < x.2.1) ∧ x.2.2.2 ≠ 0 ∧ Cond.classLink m.1.cls x.2.2.2 name ∈ GW ∧ (E, name) ∈ z_cast ∧ ∀ q : Nat, V g m d Q h' x.2.2.1 lc [xV (.ref q)]
theorem V_callVC {idx n ci a : Nat} (hd : decode m.2.1 pc = .ok (.invokevirtual idx, 3)) (hw : CaV m.1.cls idx m' n ci) (hd' : d' + 1 ≤ d) (hn : as.length = n) (hst : (st.map (fun v => (cv g v).category)).sum ≤ 8) (ha : h_k h a = ci + 1) (hT : Tr g m' d' (xR a :: as) h Q')
    (kx : ∀ (E : String) (h' : AH), Q' (.inr E) h' → Catch g m d Q pc lc E h') (kr : ∀ (v : Option AV) (h' : AH), Q' (.inl v) h' → V g m d Q h' (pc + 3) lc (v.toList ++ st)) : V g m d Q h pc lc (as.reverse ++ xR a :: st) := by
  intro p lch e R s mi args below meth c H locs cells slots ls C P S L
  intro T hT9 X
  subst hT9
  obtain ⟨X2, b1, b2⟩ := C.exact P X
  obtain ⟨w1, w2, hci, q, hq, w3⟩ := hw
  obtain ⟨cell, q1, q2, q3, -⟩ := P.obj ha hci
  have hts := C.2.2.2.2.1
  have F := C.2.2.2.2.2.2.2.2.2.2.2.2.1
  have ea : cv g (xR a) = .ref (g_a g a) := P.rv (a := a) (by omega)
  have hse : (Cond.selects q.1 m'.1 m'.1).before args s = true := by
    rcases w3 with w3 | ⟨k9, w3, w4, w5⟩
    · exact hts _ w3
    · exact sel_priv w1.2.2.2.1 (hts _ w3) (hts _ w4) (hts _ w2) (hts _ w5)
  have hr := vx_runV (Ts := GW) (H := T.heap) (locs := locs) (rest := st.map (cv g)) (g := F0 mi pc ls ((as.reverse ++ xR a :: st).map (cv g))) (e := e) (below := below) (meth := meth) (As := as.map (cv g)) (C := q.1) (b := g_a g a) ⟨C.1, C.2.1, C.2.2.1, C.2.2.2.1, C.2.2.2.2.1⟩ (hT lch C.2.2.2.2.2.2.2.2.2.1 (T.heap.size - g_b g) (z_s (g_b g) T.heap)) ⟨w1.use C hd', hts _ w2, hse⟩ ⟨PcV.blind, ⟨cell, q1, by rw [q3]; rfl, by rw [q2]; exact (C.2.2.2.2.2.1.1 ci q hq).2.1⟩, fun U hU hW => by
      have := PcV.at (as := xR a :: as) C P S hU hW
      rw [List.map_cons, ea] at this
      exact this⟩ rfl (by simpa using hn) L.1 (by show List.map (cv g) (as.reverse ++ xR a :: st) = _; rw [List.map_append, List.map_cons, ea, List.map_reverse]) (lv_room (st_cat hst)) hd ⟨b1, b2⟩
  rcases hr T rfl X2 with ⟨v, st₀, t, T', Ls, h0, X', hL, e1, e2, hQ, hg⟩ | ⟨q9, st₀, t, T', Ls, E, ce, h0, X', hL, e1, e2, hQ, hce, hcv, hcl, hg⟩
  · exact V.back C S L kr h0 X' hL e1 hQ hg
  · obtain ⟨⟨h', hRp, hq'⟩, hF⟩ := hQ
    obtain ⟨k1, k2, k3⟩ := vx_keep (A1 := fun q => g_b g ≤ q) h0 e1 S (fun _ _ z => z) (fun _ z => z) hL hF
    rw [← e1] at hRp hce
    obtain ⟨pre, x, suf, name, hsp, hpre, hcov, hx0, hxl, hcast, kh⟩ := kx E h' hq'
    have htab : c.exceptionTable.toList = tableOf pre ++ ⟨x.1, x.2.1, x.2.2.1, x.2.2.2⟩ :: tableOf suf := by
      rw [C.2.2.2.2.2.2.2.2.2.2.2.2.2, hsp]
      simp [tableOf]
    obtain ⟨t2, a1, b1⟩ := vx_catch (own := m.1.cls) (name := name) (E := E) C.2.2.2.1 (tableOf pre) ⟨x.1, x.2.1, x.2.2.1, x.2.2.2⟩ (tableOf suf) htab (pc := pc) (rest := st.map (cv g)) (fun z hz => by
        obtain ⟨z', hz', rfl⟩ := List.mem_map.mp hz
        obtain ⟨z0, nm, n1, n2⟩ := hpre z' hz'
        exact Or.inr ⟨z0, nm, hts _ n1, F.2.2.2.2.2.2.2.1 _ n2⟩) (by simp [covers, hcov.1, hcov.2]) hx0 (hts _ hxl) (va_Nw.use rfl (F.2.2.2.2.2.2.1 _ hcast)) hce hcv hcl (kh q9 p lch e R s mi args below meth c T'.heap (locs ++ Ls) _ _ ls C hRp k3 L) T' rfl X'
    exact ⟨t2, hg.trans a1, b1⟩
end V6


/-- a class that the worlds speak of -/
def ClOK (ci : Nat) (C : String) (T : u_T) (N : Nat) (tf : Nat → FieldType) : Prop :=
  vwCl[ci]? = some (C, T, N) ∧ N = c_N ci ∧ ci < 10 ∧ (∀ w ∈ u_ws C T N, w ∈ GW) ∧ (∀ k, k < N → parseFieldDescriptor (T k).2.2.1 = some (tf k)) ∧ (∀ a, a < N → ∀ b, b < N → a ≠ b → (T a).2.1 ≠ (T b).2.1)
/-- a field by its pool entry -/
def Fl (own : String) (idx ci k : Nat) (ty : FieldType) (fin : Bool) : Prop :=
  ∃ (C : String) (T : u_T) (N : Nat) (tf : Nat → FieldType) (ref : String), ClOK ci C T N tf ∧ k < N ∧ Cond.fieldLink own idx ref (T k).2.1 (T k).2.2.1 ∈ GW ∧ (ref = (T k).1 ∨ Cond.sameField ref (T k).1 (T k).2.1 (T k).2.2.1 ∈ GW) ∧ tf k = ty ∧ (T k).2.2.2 = fin ∧ (fin = true → (T k).1 = own)
def FlG (own : String) (idx ci k : Nat) : Prop :=
  ∃ (C : String) (T : u_T) (N : Nat) (tf : Nat → FieldType) (ref : String), ClOK ci C T N tf ∧ k < N ∧ Cond.fieldLink own idx ref (T k).2.1 (T k).2.2.1 ∈ GW ∧ (ref = (T k).1 ∨ Cond.sameField ref (T k).1 (T k).2.1 (T k).2.2.1 ∈ GW)
/-- a class that is made -/
def Nw (own : String) (idx ci N : Nat) : Prop := ∃ (C : String) (T : u_T) (tf : Nat → FieldType), ClOK ci C T N tf ∧ Cond.classLink own idx C ∈ GW ∧ Cond.instantiable C N ∈ GW ∧ Cond.initialized C ∈ GW ∧ ∀ k, k < N → defaultValue (tf k) = if c_R ci k = true then Value.null else .int 0
section V2
variable {g : GP} {m : MT} {d : Nat} {Q : Res → AH → Prop} {h : AH} {pc : Nat} {lc lc' st : List AV}
theorem hsi_ne {a j q i : Nat} {z : Int} (hq : q ≠ a ∨ i ≠ j) : h_i (h_si h a j z) q i = h_i h q i ∧ h_r (h_si h a j z) q i = h_r h q i := by
  refine ⟨?_, rfl⟩
  rcases hq with hq | hq
  · exact u2_a hq
  · exact u2_j hq
theorem hsr_ne {a j q i z : Nat} (hq : q ≠ a ∨ i ≠ j) : h_i (h_sr h a j z) q i = h_i h q i ∧ h_r (h_sr h a j z) q i = h_r h q i := by
  refine ⟨rfl, ?_⟩
  rcases hq with hq | hq
  · exact u2_a hq
  · exact u2_j hq
theorem fl_same {s : State} {args : Array Value} {ref C n dd : String} (hts : ∀ w ∈ GW, w.before args s = true) (h : ref = C ∨ Cond.sameField ref C n dd ∈ GW) : ∀ x, s.fieldFound? C n dd = some x → s.fieldFound? ref n dd = some x := by
  rcases h with h | h
  · rw [h]; exact fun _ h => h
  · exact fun x hx => u_same (hts _ h) x hx

theorem V_getI {idx ci j a : Nat} (hd : decode m.2.1 pc = .ok (.getfield idx, 3)) (hf : FlG m.1.cls idx ci j) (hr : c_R ci j = false) (ha : h_k h a = ci + 1) (k : V g m d Q h (pc + 3) lc (xI (h_i h a j) :: st)) : V g m d Q h pc lc (xR a :: st) := by
  intro p lch e R s mi args below meth c H locs cells slots ls C P S L
  obtain ⟨C0, T, N, tf, ref, ⟨hc, hN, hci, hin, hty, hnm⟩, hk, hl, hsame⟩ := hf
  obtain ⟨cell, q1, q2, q3, q4⟩ := P.obj ha hci
  have hK := C.2.2.2.2.2.1
  obtain ⟨hS, hfc, kC, hkC, hkind⟩ := hK.1 ci _ hc
  obtain ⟨cf, kf, fi, f, hi, hsl⟩ := hS j hk
  have kk := k p lch e R s mi args below meth c H locs cells slots ls C P S L
  change W _ _ _ _ _ _ _ _ _ _ _ _ _ _ _ (F0 _ _ _ (rv g a :: _))
  rw [P.rv (a := a) (by omega)]
  refine W.getf C.1 C.2.1 C.2.2.2.1 (C.2.2.2.2.1 _ hl) (fl_same C.2.2.2.2.1 hsame _ hi) (u_facts hfc hkC (u_lays C.2.2.2.2.1 hin hk) hi).1 q1 (by rw [q3]; exact fun h => by cases h) (v := .int (Int32.ofInt (h_i h a j))) ?_ rfl rfl hd kk
  rw [hsl, q4 j (by omega)]
  simp [f_v, hr]
theorem V_getR {idx ci j a : Nat} (hd : decode m.2.1 pc = .ok (.getfield idx, 3)) (hf : FlG m.1.cls idx ci j) (hr : c_R ci j = true) (ha : h_k h a = ci + 1) (k : V g m d Q h (pc + 3) lc (xR (h_r h a j) :: st)) : V g m d Q h pc lc (xR a :: st) := by
  intro p lch e R s mi args below meth c H locs cells slots ls C P S L
  obtain ⟨C0, T, N, tf, ref, ⟨hc, hN, hci, hin, hty, hnm⟩, hk, hl, hsame⟩ := hf
  obtain ⟨cell, q1, q2, q3, q4⟩ := P.obj ha hci
  have hK := C.2.2.2.2.2.1
  obtain ⟨hS, hfc, kC, hkC, hkind⟩ := hK.1 ci _ hc
  obtain ⟨cf, kf, fi, f, hi, hsl⟩ := hS j hk
  have kk := k p lch e R s mi args below meth c H locs cells slots ls C P S L
  change W _ _ _ _ _ _ _ _ _ _ _ _ _ _ _ (F0 _ _ _ (rv g a :: _))
  rw [P.rv (a := a) (by omega)]
  refine W.getf C.1 C.2.1 C.2.2.2.1 (C.2.2.2.2.1 _ hl) (fl_same C.2.2.2.2.1 hsame _ hi) (u_facts hfc hkC (u_lays C.2.2.2.2.1 hin hk) hi).1 q1 (by rw [q3]; exact fun h => by cases h) (v := rv g (h_r h a j)) ?_ rfl rfl hd kk
  rw [hsl, q4 j (by omega)]
  simp [f_v, hr]
theorem setSlot_size (cell : Cell) (i : Nat) (v : Value) : (cell.setSlot i v).slots.size = cell.slots.size := by simp [Cell.setSlot]
/-- the world behind a store in an object's slot -/
theorem Rp.put {H H' : Heap} {a ci j : Nat} {cell : Cell} {h' : AH} {v : Value} {iS : Nat → Nat} (P : Rp g h H) (ha : h_k h a = ci + 1) (hci : ci < 10) (hj : j < c_N ci) (q1 : H[g_a g a]? = some cell) (q2 : cell.cls = (g_D g).1 ci) (q3 : cell.vm = .none) (q4 : ∀ j, j < c_N ci → cell.slots[(g_D g).2 ci j]? = some (f_v g (c_R ci j) (h_i h a j) (h_r h a j)))
    (hap : ∀ x y, x < c_N ci → y < c_N ci → x ≠ y → (g_D g).2 ci x ≠ (g_D g).2 ci y) (e1 : H'[g_a g a]? = some (cell.setSlot ((g_D g).2 ci j) v)) (e2 : H'.size = H.size) (e3 : ∀ q, q ≠ g_a g a → H'[q]? = H[q]?)
    (hv : v = f_v g (c_R ci j) (h_i h' a j) (h_r h' a j)) (k1 : h_k h' = h_k h) (kl : h_l h' = h_l h) (k2 : ∀ q i, q ≠ a ∨ i ≠ j → h_i h' q i = h_i h q i ∧ h_r h' q i = h_r h q i) (k3 : h_n h' = h_n h) (k4 : h_u h' = h_u h) : Rp g h' H' := by
  refine P.upd (a := a) (by omega) q1 e1 e2 e3 (setSlot_size _ _ _) (Or.inl ?_) k1 (fun q hq => ⟨by rw [kl], fun i => (k2 q i (Or.inl hq)).1, fun i => (k2 q i (Or.inl hq)).2⟩) k3 k4
  rw [k1, ha]
  refine ⟨by omega, q2, q3, fun i hi => ?_⟩
  rw [show ci + 1 - 1 = ci by omega] at hi ⊢
  have := t_set q4 hap hj v i hi
  rw [this]
  by_cases e : i = j
  · subst e
    simp [updV, ← hv]
  · simp [updV, e, (k2 a i (Or.inr e)).1, (k2 a i (Or.inr e)).2]

theorem nf_z {z : Int} (hz : z = 0 ∨ z = 1) : narrow .boolean (.int (Int32.ofInt z)) = .int (Int32.ofInt z) ∧ fits .boolean (.int (Int32.ofInt z)) = true := by
  rcases hz with rfl | rfl <;> exact ⟨by decide, by decide⟩
theorem nf_i {z : Int} : narrow .int (.int (Int32.ofInt z)) = .int (Int32.ofInt z) ∧ fits .int (.int (Int32.ofInt z)) = true := ⟨rfl, rfl⟩
theorem nf_c {z : Int} (hz : 0 ≤ z ∧ z < 65536) : narrow .char (.int (Int32.ofInt z)) = .int (Int32.ofInt z) ∧ fits .char (.int (Int32.ofInt z)) = true := by
  obtain ⟨n, rfl⟩ := Int.eq_ofNat_of_zero_le hz.1
  have e : Int32.ofInt (n : Int) = nI n := Int32.ofInt_eq_ofNat
  rw [e]
  exact pk_charN (by omega)
theorem nf_b {z : Int} (hz : -128 ≤ z ∧ z < 128) : narrow .byte (.int (Int32.ofInt z)) = .int (Int32.ofInt z) ∧ fits .byte (.int (Int32.ofInt z)) = true := by
  have e : (Int32.ofInt z).toInt8.toInt32 = Int32.ofInt z := by
    apply Int32.toInt_inj.mp
    rw [Int8.toInt_toInt32, Int32.toInt_toInt8, i32_i (by omega)]
    exact Int.bmod_eq_of_le (by omega) (by omega)
  have h1 := pk_nb (Int32.ofInt z)
  have h2 := pk_fb (Int32.ofInt z)
  rw [e] at h1 h2
  exact ⟨h1, h2⟩
theorem nf_r {ty : FieldType} {n : Nat} (hty : ty.isReference = true) : narrow ty (rv g n) = rv g n ∧ fits ty (rv g n) = true := by
  unfold rv
  cases ty <;> first | (cases hty; done) | (split <;> exact ⟨rfl, rfl⟩)
theorem V_putI {idx ci j a : Nat} {z : Int} (hd : decode m.2.1 pc = .ok (.putfield idx, 3)) (hf : Fl m.1.cls idx ci j .int false)  (hr : c_R ci j = false) (ha : h_k h a = ci + 1) (k : V g m d Q (h_si h a j z) (pc + 3) lc st) : V g m d Q h pc lc (xI z :: xR a :: st) := by
  intro p lch e R s mi args below meth c H locs cells slots ls C P S L
  obtain ⟨C0, T, N, tf, ref, ⟨hc, hN, hci, hin, hty, hnm⟩, hk, hl, hsame, htk, hfin, hdecl⟩ := hf
  obtain ⟨cell, q1, q2, q3, q4⟩ := P.obj ha hci
  have hK := C.2.2.2.2.2.1
  have hap := va_apart (own := m.1.cls) C.2.2.2.2.1 hin tf hty hnm hK hc
  obtain ⟨hS, hfc, kC, hkC, hkind⟩ := hK.1 ci _ hc
  obtain ⟨cf, kf, fi, f, hi, hsl⟩ := hS j hk
  have hlay := C.2.2.2.2.1 _ (hin _ (u_in_lay hk))
  unfold u_lay at hlay
  rw [if_neg (by rw [hfin]; decide)] at hlay
  have hst := (u_facts hfc hkC (u_lays C.2.2.2.2.1 hin hk) hi).1
  have hty0 := hty j hk
  rw [htk] at hty0
  have hnf : narrow _ (.int (Int32.ofInt z)) = .int (Int32.ofInt z) ∧ fits _ (.int (Int32.ofInt z)) = true := nf_i
  change W _ _ _ _ _ _ _ _ _ _ _ _ _ _ _ (F0 _ _ _ (.int (Int32.ofInt z) :: rv g a :: _))
  rw [P.rv (a := a) (by omega)]
  have h6 := u_store hfc hkC hkind hlay hi hty0 hnf.1 hnf.2
  refine W.putK C.1 C.2.1 (f := f) ⟨C.2.2.2.1, C.2.2.2.2.1 _ hl, ⟨_, _, _, fl_same C.2.2.2.2.1 hsame _ hi⟩, hst⟩ (by rw [q2]; exact h6) q1 q3 (by rw [hsl]; exact k2_hasslot (q4 j (by omega))) rfl rfl hd fun H' e1 e2 e3 => ?_
  rw [hsl] at e1 ⊢
  refine k p lch e R s mi args below meth c H' _ cells slots ls C (P.put ha hci (by omega) q1 q2 q3 q4 (fun x y hx hy => hap x y (by omega) (by omega)) e1 e2 e3 (iS := (g_D g).2 ci) ?_ rfl rfl ?_ rfl rfl) (S.put e2 e3 (P.base (by omega))) L
  · simp [f_v, hr, h_si, h_sr, h_i, h_r, u2_s]
  · exact fun q i hq => by first | exact hsi_ne hq | exact hsr_ne hq
theorem V_putIF {idx ci j a : Nat} {z : Int} (hd : decode m.2.1 pc = .ok (.putfield idx, 3)) (hf : Fl m.1.cls idx ci j .int true) (hini : m.1.name = "<init>")  (hr : c_R ci j = false) (ha : h_k h a = ci + 1) (k : V g m d Q (h_si h a j z) (pc + 3) lc st) : V g m d Q h pc lc (xI z :: xR a :: st) := by
  intro p lch e R s mi args below meth c H locs cells slots ls C P S L
  obtain ⟨C0, T, N, tf, ref, ⟨hc, hN, hci, hin, hty, hnm⟩, hk, hl, hsame, htk, hfin, hdecl⟩ := hf
  obtain ⟨cell, q1, q2, q3, q4⟩ := P.obj ha hci
  have hK := C.2.2.2.2.2.1
  have hap := va_apart (own := m.1.cls) C.2.2.2.2.1 hin tf hty hnm hK hc
  obtain ⟨hS, hfc, kC, hkC, hkind⟩ := hK.1 ci _ hc
  obtain ⟨cf, kf, fi, f, hi, hsl⟩ := hS j hk
  have hlay := C.2.2.2.2.1 _ (hin _ (u_in_lay hk))
  unfold u_lay at hlay
  rw [if_pos hfin] at hlay
  have hst := (u_facts hfc hkC (u_lays C.2.2.2.2.1 hin hk) hi).1
  have hty0 := hty j hk
  rw [htk] at hty0
  have hnf : narrow _ (.int (Int32.ofInt z)) = .int (Int32.ofInt z) ∧ fits _ (.int (Int32.ofInt z)) = true := nf_i
  change W _ _ _ _ _ _ _ _ _ _ _ _ _ _ _ (F0 _ _ _ (.int (Int32.ofInt z) :: rv g a :: _))
  rw [P.rv (a := a) (by omega)]
  have hcf : mi.cls = cf := by
    obtain ⟨_, _, c', _, _, _, -, -, hf', -, -, -, hown2, -⟩ := Cond.laysFinal_spec hlay
    have e1 : c' = cf := by have := hi.symm.trans hf'; simp at this; exact this.1.symm
    rw [hdecl rfl] at hown2
    rw [← e1]; exact Option.some.inj (C.2.2.2.1.symm.trans hown2)
  have h6 := u_fits hfc hkC hkind (Or.inr hlay) hi hty0 hnf.1 hnf.2
  refine W.putFinK C.1 C.2.1 C.2.2.2.1 (C.2.2.2.2.1 _ hl) (fl_same C.2.2.2.2.1 hsame _ hi) hst hcf (C.2.2.2.2.2.2.2.1.trans hini) (by rw [q2]; exact h6) q1 q3 (by rw [hsl]; exact k2_hasslot (q4 j (by omega))) rfl rfl hd fun H' e1 e2 e3 => ?_
  rw [hsl] at e1 ⊢
  refine k p lch e R s mi args below meth c H' _ cells slots ls C (P.put ha hci (by omega) q1 q2 q3 q4 (fun x y hx hy => hap x y (by omega) (by omega)) e1 e2 e3 (iS := (g_D g).2 ci) ?_ rfl rfl ?_ rfl rfl) (S.put e2 e3 (P.base (by omega))) L
  · simp [f_v, hr, h_si, h_sr, h_i, h_r, u2_s]
  · exact fun q i hq => by first | exact hsi_ne hq | exact hsr_ne hq
theorem V_putZ {idx ci j a : Nat} {z : Int} (hd : decode m.2.1 pc = .ok (.putfield idx, 3)) (hf : Fl m.1.cls idx ci j .boolean false) (hz : z = 0 ∨ z = 1)  (hr : c_R ci j = false) (ha : h_k h a = ci + 1) (k : V g m d Q (h_si h a j z) (pc + 3) lc st) : V g m d Q h pc lc (xI z :: xR a :: st) := by
  intro p lch e R s mi args below meth c H locs cells slots ls C P S L
  obtain ⟨C0, T, N, tf, ref, ⟨hc, hN, hci, hin, hty, hnm⟩, hk, hl, hsame, htk, hfin, hdecl⟩ := hf
  obtain ⟨cell, q1, q2, q3, q4⟩ := P.obj ha hci
  have hK := C.2.2.2.2.2.1
  have hap := va_apart (own := m.1.cls) C.2.2.2.2.1 hin tf hty hnm hK hc
  obtain ⟨hS, hfc, kC, hkC, hkind⟩ := hK.1 ci _ hc
  obtain ⟨cf, kf, fi, f, hi, hsl⟩ := hS j hk
  have hlay := C.2.2.2.2.1 _ (hin _ (u_in_lay hk))
  unfold u_lay at hlay
  rw [if_neg (by rw [hfin]; decide)] at hlay
  have hst := (u_facts hfc hkC (u_lays C.2.2.2.2.1 hin hk) hi).1
  have hty0 := hty j hk
  rw [htk] at hty0
  have hnf : narrow _ (.int (Int32.ofInt z)) = .int (Int32.ofInt z) ∧ fits _ (.int (Int32.ofInt z)) = true := nf_z hz
  change W _ _ _ _ _ _ _ _ _ _ _ _ _ _ _ (F0 _ _ _ (.int (Int32.ofInt z) :: rv g a :: _))
  rw [P.rv (a := a) (by omega)]
  have h6 := u_store hfc hkC hkind hlay hi hty0 hnf.1 hnf.2
  refine W.putK C.1 C.2.1 (f := f) ⟨C.2.2.2.1, C.2.2.2.2.1 _ hl, ⟨_, _, _, fl_same C.2.2.2.2.1 hsame _ hi⟩, hst⟩ (by rw [q2]; exact h6) q1 q3 (by rw [hsl]; exact k2_hasslot (q4 j (by omega))) rfl rfl hd fun H' e1 e2 e3 => ?_
  rw [hsl] at e1 ⊢
  refine k p lch e R s mi args below meth c H' _ cells slots ls C (P.put ha hci (by omega) q1 q2 q3 q4 (fun x y hx hy => hap x y (by omega) (by omega)) e1 e2 e3 (iS := (g_D g).2 ci) ?_ rfl rfl ?_ rfl rfl) (S.put e2 e3 (P.base (by omega))) L
  · simp [f_v, hr, h_si, h_sr, h_i, h_r, u2_s]
  · exact fun q i hq => by first | exact hsi_ne hq | exact hsr_ne hq
theorem V_putZF {idx ci j a : Nat} {z : Int} (hd : decode m.2.1 pc = .ok (.putfield idx, 3)) (hf : Fl m.1.cls idx ci j .boolean true) (hini : m.1.name = "<init>") (hz : z = 0 ∨ z = 1)  (hr : c_R ci j = false) (ha : h_k h a = ci + 1) (k : V g m d Q (h_si h a j z) (pc + 3) lc st) : V g m d Q h pc lc (xI z :: xR a :: st) := by
  intro p lch e R s mi args below meth c H locs cells slots ls C P S L
  obtain ⟨C0, T, N, tf, ref, ⟨hc, hN, hci, hin, hty, hnm⟩, hk, hl, hsame, htk, hfin, hdecl⟩ := hf
  obtain ⟨cell, q1, q2, q3, q4⟩ := P.obj ha hci
  have hK := C.2.2.2.2.2.1
  have hap := va_apart (own := m.1.cls) C.2.2.2.2.1 hin tf hty hnm hK hc
  obtain ⟨hS, hfc, kC, hkC, hkind⟩ := hK.1 ci _ hc
  obtain ⟨cf, kf, fi, f, hi, hsl⟩ := hS j hk
  have hlay := C.2.2.2.2.1 _ (hin _ (u_in_lay hk))
  unfold u_lay at hlay
  rw [if_pos hfin] at hlay
  have hst := (u_facts hfc hkC (u_lays C.2.2.2.2.1 hin hk) hi).1
  have hty0 := hty j hk
  rw [htk] at hty0
  have hnf : narrow _ (.int (Int32.ofInt z)) = .int (Int32.ofInt z) ∧ fits _ (.int (Int32.ofInt z)) = true := nf_z hz
  change W _ _ _ _ _ _ _ _ _ _ _ _ _ _ _ (F0 _ _ _ (.int (Int32.ofInt z) :: rv g a :: _))
  rw [P.rv (a := a) (by omega)]
  have hcf : mi.cls = cf := by
    obtain ⟨_, _, c', _, _, _, -, -, hf', -, -, -, hown2, -⟩ := Cond.laysFinal_spec hlay
    have e1 : c' = cf := by have := hi.symm.trans hf'; simp at this; exact this.1.symm
    rw [hdecl rfl] at hown2
    rw [← e1]; exact Option.some.inj (C.2.2.2.1.symm.trans hown2)
  have h6 := u_fits hfc hkC hkind (Or.inr hlay) hi hty0 hnf.1 hnf.2
  refine W.putFinK C.1 C.2.1 C.2.2.2.1 (C.2.2.2.2.1 _ hl) (fl_same C.2.2.2.2.1 hsame _ hi) hst hcf (C.2.2.2.2.2.2.2.1.trans hini) (by rw [q2]; exact h6) q1 q3 (by rw [hsl]; exact k2_hasslot (q4 j (by omega))) rfl rfl hd fun H' e1 e2 e3 => ?_
  rw [hsl] at e1 ⊢
  refine k p lch e R s mi args below meth c H' _ cells slots ls C (P.put ha hci (by omega) q1 q2 q3 q4 (fun x y hx hy => hap x y (by omega) (by omega)) e1 e2 e3 (iS := (g_D g).2 ci) ?_ rfl rfl ?_ rfl rfl) (S.put e2 e3 (P.base (by omega))) L
  · simp [f_v, hr, h_si, h_sr, h_i, h_r, u2_s]
  · exact fun q i hq => by first | exact hsi_ne hq | exact hsr_ne hq
theorem V_putC {idx ci j a : Nat} {z : Int} (hd : decode m.2.1 pc = .ok (.putfield idx, 3)) (hf : Fl m.1.cls idx ci j .char false) (hz : 0 ≤ z ∧ z < 65536)  (hr : c_R ci j = false) (ha : h_k h a = ci + 1) (k : V g m d Q (h_si h a j z) (pc + 3) lc st) : V g m d Q h pc lc (xI z :: xR a :: st) := by
  intro p lch e R s mi args below meth c H locs cells slots ls C P S L
  obtain ⟨C0, T, N, tf, ref, ⟨hc, hN, hci, hin, hty, hnm⟩, hk, hl, hsame, htk, hfin, hdecl⟩ := hf
  obtain ⟨cell, q1, q2, q3, q4⟩ := P.obj ha hci
  have hK := C.2.2.2.2.2.1
  have hap := va_apart (own := m.1.cls) C.2.2.2.2.1 hin tf hty hnm hK hc
  obtain ⟨hS, hfc, kC, hkC, hkind⟩ := hK.1 ci _ hc
  obtain ⟨cf, kf, fi, f, hi, hsl⟩ := hS j hk
  have hlay := C.2.2.2.2.1 _ (hin _ (u_in_lay hk))
  unfold u_lay at hlay
  rw [if_neg (by rw [hfin]; decide)] at hlay
  have hst := (u_facts hfc hkC (u_lays C.2.2.2.2.1 hin hk) hi).1
  have hty0 := hty j hk
  rw [htk] at hty0
  have hnf : narrow _ (.int (Int32.ofInt z)) = .int (Int32.ofInt z) ∧ fits _ (.int (Int32.ofInt z)) = true := nf_c hz
  change W _ _ _ _ _ _ _ _ _ _ _ _ _ _ _ (F0 _ _ _ (.int (Int32.ofInt z) :: rv g a :: _))
  rw [P.rv (a := a) (by omega)]
  have h6 := u_store hfc hkC hkind hlay hi hty0 hnf.1 hnf.2
  refine W.putK C.1 C.2.1 (f := f) ⟨C.2.2.2.1, C.2.2.2.2.1 _ hl, ⟨_, _, _, fl_same C.2.2.2.2.1 hsame _ hi⟩, hst⟩ (by rw [q2]; exact h6) q1 q3 (by rw [hsl]; exact k2_hasslot (q4 j (by omega))) rfl rfl hd fun H' e1 e2 e3 => ?_
  rw [hsl] at e1 ⊢
  refine k p lch e R s mi args below meth c H' _ cells slots ls C (P.put ha hci (by omega) q1 q2 q3 q4 (fun x y hx hy => hap x y (by omega) (by omega)) e1 e2 e3 (iS := (g_D g).2 ci) ?_ rfl rfl ?_ rfl rfl) (S.put e2 e3 (P.base (by omega))) L
  · simp [f_v, hr, h_si, h_sr, h_i, h_r, u2_s]
  · exact fun q i hq => by first | exact hsi_ne hq | exact hsr_ne hq
theorem V_putCF {idx ci j a : Nat} {z : Int} (hd : decode m.2.1 pc = .ok (.putfield idx, 3)) (hf : Fl m.1.cls idx ci j .char true) (hini : m.1.name = "<init>") (hz : 0 ≤ z ∧ z < 65536)  (hr : c_R ci j = false) (ha : h_k h a = ci + 1) (k : V g m d Q (h_si h a j z) (pc + 3) lc st) : V g m d Q h pc lc (xI z :: xR a :: st) := by
  intro p lch e R s mi args below meth c H locs cells slots ls C P S L
  obtain ⟨C0, T, N, tf, ref, ⟨hc, hN, hci, hin, hty, hnm⟩, hk, hl, hsame, htk, hfin, hdecl⟩ := hf
  obtain ⟨cell, q1, q2, q3, q4⟩ := P.obj ha hci
  have hK := C.2.2.2.2.2.1
  have hap := va_apart (own := m.1.cls) C.2.2.2.2.1 hin tf hty hnm hK hc
  obtain ⟨hS, hfc, kC, hkC, hkind⟩ := hK.1 ci _ hc
  obtain ⟨cf, kf, fi, f, hi, hsl⟩ := hS j hk
  have hlay := C.2.2.2.2.1 _ (hin _ (u_in_lay hk))
  unfold u_lay at hlay
  rw [if_pos hfin] at hlay
  have hst := (u_facts hfc hkC (u_lays C.2.2.2.2.1 hin hk) hi).1
  have hty0 := hty j hk
  rw [htk] at hty0
  have hnf : narrow _ (.int (Int32.ofInt z)) = .int (Int32.ofInt z) ∧ fits _ (.int (Int32.ofInt z)) = true := nf_c hz
  change W _ _ _ _ _ _ _ _ _ _ _ _ _ _ _ (F0 _ _ _ (.int (Int32.ofInt z) :: rv g a :: _))
  rw [P.rv (a := a) (by omega)]
  have hcf : mi.cls = cf := by
    obtain ⟨_, _, c', _, _, _, -, -, hf', -, -, -, hown2, -⟩ := Cond.laysFinal_spec hlay
    have e1 : c' = cf := by have := hi.symm.trans hf'; simp at this; exact this.1.symm
    rw [hdecl rfl] at hown2
    rw [← e1]; exact Option.some.inj (C.2.2.2.1.symm.trans hown2)
  have h6 := u_fits hfc hkC hkind (Or.inr hlay) hi hty0 hnf.1 hnf.2
  refine W.putFinK C.1 C.2.1 C.2.2.2.1 (C.2.2.2.2.1 _ hl) (fl_same C.2.2.2.2.1 hsame _ hi) hst hcf (C.2.2.2.2.2.2.2.1.trans hini) (by rw [q2]; exact h6) q1 q3 (by rw [hsl]; exact k2_hasslot (q4 j (by omega))) rfl rfl hd fun H' e1 e2 e3 => ?_
  rw [hsl] at e1 ⊢
  refine k p lch e R s mi args below meth c H' _ cells slots ls C (P.put ha hci (by omega) q1 q2 q3 q4 (fun x y hx hy => hap x y (by omega) (by omega)) e1 e2 e3 (iS := (g_D g).2 ci) ?_ rfl rfl ?_ rfl rfl) (S.put e2 e3 (P.base (by omega))) L
  · simp [f_v, hr, h_si, h_sr, h_i, h_r, u2_s]
  · exact fun q i hq => by first | exact hsi_ne hq | exact hsr_ne hq
theorem V_putB {idx ci j a : Nat} {z : Int} (hd : decode m.2.1 pc = .ok (.putfield idx, 3)) (hf : Fl m.1.cls idx ci j .byte false) (hz : -128 ≤ z ∧ z < 128)  (hr : c_R ci j = false) (ha : h_k h a = ci + 1) (k : V g m d Q (h_si h a j z) (pc + 3) lc st) : V g m d Q h pc lc (xI z :: xR a :: st) := by
  intro p lch e R s mi args below meth c H locs cells slots ls C P S L
  obtain ⟨C0, T, N, tf, ref, ⟨hc, hN, hci, hin, hty, hnm⟩, hk, hl, hsame, htk, hfin, hdecl⟩ := hf
  obtain ⟨cell, q1, q2, q3, q4⟩ := P.obj ha hci
  have hK := C.2.2.2.2.2.1
  have hap := va_apart (own := m.1.cls) C.2.2.2.2.1 hin tf hty hnm hK hc
  obtain ⟨hS, hfc, kC, hkC, hkind⟩ := hK.1 ci _ hc
  obtain ⟨cf, kf, fi, f, hi, hsl⟩ := hS j hk
  have hlay := C.2.2.2.2.1 _ (hin _ (u_in_lay hk))
  unfold u_lay at hlay
  rw [if_neg (by rw [hfin]; decide)] at hlay
  have hst := (u_facts hfc hkC (u_lays C.2.2.2.2.1 hin hk) hi).1
  have hty0 := hty j hk
  rw [htk] at hty0
  have hnf : narrow _ (.int (Int32.ofInt z)) = .int (Int32.ofInt z) ∧ fits _ (.int (Int32.ofInt z)) = true := nf_b hz
  change W _ _ _ _ _ _ _ _ _ _ _ _ _ _ _ (F0 _ _ _ (.int (Int32.ofInt z) :: rv g a :: _))
  rw [P.rv (a := a) (by omega)]
  have h6 := u_store hfc hkC hkind hlay hi hty0 hnf.1 hnf.2
  refine W.putK C.1 C.2.1 (f := f) ⟨C.2.2.2.1, C.2.2.2.2.1 _ hl, ⟨_, _, _, fl_same C.2.2.2.2.1 hsame _ hi⟩, hst⟩ (by rw [q2]; exact h6) q1 q3 (by rw [hsl]; exact k2_hasslot (q4 j (by omega))) rfl rfl hd fun H' e1 e2 e3 => ?_
  rw [hsl] at e1 ⊢
  refine k p lch e R s mi args below meth c H' _ cells slots ls C (P.put ha hci (by omega) q1 q2 q3 q4 (fun x y hx hy => hap x y (by omega) (by omega)) e1 e2 e3 (iS := (g_D g).2 ci) ?_ rfl rfl ?_ rfl rfl) (S.put e2 e3 (P.base (by omega))) L
  · simp [f_v, hr, h_si, h_sr, h_i, h_r, u2_s]
  · exact fun q i hq => by first | exact hsi_ne hq | exact hsr_ne hq
theorem V_putBF {idx ci j a : Nat} {z : Int} (hd : decode m.2.1 pc = .ok (.putfield idx, 3)) (hf : Fl m.1.cls idx ci j .byte true) (hini : m.1.name = "<init>") (hz : -128 ≤ z ∧ z < 128)  (hr : c_R ci j = false) (ha : h_k h a = ci + 1) (k : V g m d Q (h_si h a j z) (pc + 3) lc st) : V g m d Q h pc lc (xI z :: xR a :: st) := by
  intro p lch e R s mi args below meth c H locs cells slots ls C P S L
  obtain ⟨C0, T, N, tf, ref, ⟨hc, hN, hci, hin, hty, hnm⟩, hk, hl, hsame, htk, hfin, hdecl⟩ := hf
  obtain ⟨cell, q1, q2, q3, q4⟩ := P.obj ha hci
  have hK := C.2.2.2.2.2.1
  have hap := va_apart (own := m.1.cls) C.2.2.2.2.1 hin tf hty hnm hK hc
  obtain ⟨hS, hfc, kC, hkC, hkind⟩ := hK.1 ci _ hc
  obtain ⟨cf, kf, fi, f, hi, hsl⟩ := hS j hk
  have hlay := C.2.2.2.2.1 _ (hin _ (u_in_lay hk))
  unfold u_lay at hlay
  rw [if_pos hfin] at hlay
  have hst := (u_facts hfc hkC (u_lays C.2.2.2.2.1 hin hk) hi).1
  have hty0 := hty j hk
  rw [htk] at hty0
  have hnf : narrow _ (.int (Int32.ofInt z)) = .int (Int32.ofInt z) ∧ fits _ (.int (Int32.ofInt z)) = true := nf_b hz
  change W _ _ _ _ _ _ _ _ _ _ _ _ _ _ _ (F0 _ _ _ (.int (Int32.ofInt z) :: rv g a :: _))
  rw [P.rv (a := a) (by omega)]
  have hcf : mi.cls = cf := by
    obtain ⟨_, _, c', _, _, _, -, -, hf', -, -, -, hown2, -⟩ := Cond.laysFinal_spec hlay
    have e1 : c' = cf := by have := hi.symm.trans hf'; simp at this; exact this.1.symm
    rw [hdecl rfl] at hown2
    rw [← e1]; exact Option.some.inj (C.2.2.2.1.symm.trans hown2)
  have h6 := u_fits hfc hkC hkind (Or.inr hlay) hi hty0 hnf.1 hnf.2
  refine W.putFinK C.1 C.2.1 C.2.2.2.1 (C.2.2.2.2.1 _ hl) (fl_same C.2.2.2.2.1 hsame _ hi) hst hcf (C.2.2.2.2.2.2.2.1.trans hini) (by rw [q2]; exact h6) q1 q3 (by rw [hsl]; exact k2_hasslot (q4 j (by omega))) rfl rfl hd fun H' e1 e2 e3 => ?_
  rw [hsl] at e1 ⊢
  refine k p lch e R s mi args below meth c H' _ cells slots ls C (P.put ha hci (by omega) q1 q2 q3 q4 (fun x y hx hy => hap x y (by omega) (by omega)) e1 e2 e3 (iS := (g_D g).2 ci) ?_ rfl rfl ?_ rfl rfl) (S.put e2 e3 (P.base (by omega))) L
  · simp [f_v, hr, h_si, h_sr, h_i, h_r, u2_s]
  · exact fun q i hq => by first | exact hsi_ne hq | exact hsr_ne hq
theorem V_putR {idx ci j a : Nat} {n : Nat} {ty : FieldType} (hd : decode m.2.1 pc = .ok (.putfield idx, 3)) (hf : Fl m.1.cls idx ci j ty false) (htr : ty.isReference = true)  (hr : c_R ci j = true) (ha : h_k h a = ci + 1) (k : V g m d Q (h_sr h a j n) (pc + 3) lc st) : V g m d Q h pc lc (xR n :: xR a :: st) := by
  intro p lch e R s mi args below meth c H locs cells slots ls C P S L
  obtain ⟨C0, T, N, tf, ref, ⟨hc, hN, hci, hin, hty, hnm⟩, hk, hl, hsame, htk, hfin, hdecl⟩ := hf
  obtain ⟨cell, q1, q2, q3, q4⟩ := P.obj ha hci
  have hK := C.2.2.2.2.2.1
  have hap := va_apart (own := m.1.cls) C.2.2.2.2.1 hin tf hty hnm hK hc
  obtain ⟨hS, hfc, kC, hkC, hkind⟩ := hK.1 ci _ hc
  obtain ⟨cf, kf, fi, f, hi, hsl⟩ := hS j hk
  have hlay := C.2.2.2.2.1 _ (hin _ (u_in_lay hk))
  unfold u_lay at hlay
  rw [if_neg (by rw [hfin]; decide)] at hlay
  have hst := (u_facts hfc hkC (u_lays C.2.2.2.2.1 hin hk) hi).1
  have hty0 := hty j hk
  rw [htk] at hty0
  have hnf : narrow _ (rv g n) = rv g n ∧ fits _ (rv g n) = true := nf_r htr
  change W _ _ _ _ _ _ _ _ _ _ _ _ _ _ _ (F0 _ _ _ (rv g n :: rv g a :: _))
  rw [P.rv (a := a) (by omega)]
  have h6 := u_store hfc hkC hkind hlay hi hty0 hnf.1 hnf.2
  refine W.putK C.1 C.2.1 (f := f) ⟨C.2.2.2.1, C.2.2.2.2.1 _ hl, ⟨_, _, _, fl_same C.2.2.2.2.1 hsame _ hi⟩, hst⟩ (by rw [q2]; exact h6) q1 q3 (by rw [hsl]; exact k2_hasslot (q4 j (by omega))) rfl rfl hd fun H' e1 e2 e3 => ?_
  rw [hsl] at e1 ⊢
  refine k p lch e R s mi args below meth c H' _ cells slots ls C (P.put ha hci (by omega) q1 q2 q3 q4 (fun x y hx hy => hap x y (by omega) (by omega)) e1 e2 e3 (iS := (g_D g).2 ci) ?_ rfl rfl ?_ rfl rfl) (S.put e2 e3 (P.base (by omega))) L
  · simp [f_v, hr, h_si, h_sr, h_i, h_r, u2_s]
  · exact fun q i hq => by first | exact hsi_ne hq | exact hsr_ne hq
theorem V_putRF {idx ci j a : Nat} {n : Nat} {ty : FieldType} (hd : decode m.2.1 pc = .ok (.putfield idx, 3)) (hf : Fl m.1.cls idx ci j ty true) (hini : m.1.name = "<init>") (htr : ty.isReference = true)  (hr : c_R ci j = true) (ha : h_k h a = ci + 1) (k : V g m d Q (h_sr h a j n) (pc + 3) lc st) : V g m d Q h pc lc (xR n :: xR a :: st) := by
  intro p lch e R s mi args below meth c H locs cells slots ls C P S L
  obtain ⟨C0, T, N, tf, ref, ⟨hc, hN, hci, hin, hty, hnm⟩, hk, hl, hsame, htk, hfin, hdecl⟩ := hf
  obtain ⟨cell, q1, q2, q3, q4⟩ := P.obj ha hci
  have hK := C.2.2.2.2.2.1
  have hap := va_apart (own := m.1.cls) C.2.2.2.2.1 hin tf hty hnm hK hc
  obtain ⟨hS, hfc, kC, hkC, hkind⟩ := hK.1 ci _ hc
  obtain ⟨cf, kf, fi, f, hi, hsl⟩ := hS j hk
  have hlay := C.2.2.2.2.1 _ (hin _ (u_in_lay hk))
  unfold u_lay at hlay
  rw [if_pos hfin] at hlay
  have hst := (u_facts hfc hkC (u_lays C.2.2.2.2.1 hin hk) hi).1
  have hty0 := hty j hk
  rw [htk] at hty0
  have hnf : narrow _ (rv g n) = rv g n ∧ fits _ (rv g n) = true := nf_r htr
  change W _ _ _ _ _ _ _ _ _ _ _ _ _ _ _ (F0 _ _ _ (rv g n :: rv g a :: _))
  rw [P.rv (a := a) (by omega)]
  have hcf : mi.cls = cf := by
    obtain ⟨_, _, c', _, _, _, -, -, hf', -, -, -, hown2, -⟩ := Cond.laysFinal_spec hlay
    have e1 : c' = cf := by have := hi.symm.trans hf'; simp at this; exact this.1.symm
    rw [hdecl rfl] at hown2
    rw [← e1]; exact Option.some.inj (C.2.2.2.1.symm.trans hown2)
  have h6 := u_fits hfc hkC hkind (Or.inr hlay) hi hty0 hnf.1 hnf.2
  refine W.putFinK C.1 C.2.1 C.2.2.2.1 (C.2.2.2.2.1 _ hl) (fl_same C.2.2.2.2.1 hsame _ hi) hst hcf (C.2.2.2.2.2.2.2.1.trans hini) (by rw [q2]; exact h6) q1 q3 (by rw [hsl]; exact k2_hasslot (q4 j (by omega))) rfl rfl hd fun H' e1 e2 e3 => ?_
  rw [hsl] at e1 ⊢
  refine k p lch e R s mi args below meth c H' _ cells slots ls C (P.put ha hci (by omega) q1 q2 q3 q4 (fun x y hx hy => hap x y (by omega) (by omega)) e1 e2 e3 (iS := (g_D g).2 ci) ?_ rfl rfl ?_ rfl rfl) (S.put e2 e3 (P.base (by omega))) L
  · simp [f_v, hr, h_si, h_sr, h_i, h_r, u2_s]
  · exact fun q i hq => by first | exact hsi_ne hq | exact hsr_ne hq
theorem V_iald {a j : Nat} {z : Int} (hd : decode m.2.1 pc = .ok (.iaload, 1)) (ha : h_k h a = 22) (hz : z = (j : Int)) (hj : j < h_l h a) (hb : h_l h a ≤ 2147483647) (k : V g m d Q h (pc + 1) lc (xI (h_i h a j) :: st)) : V g m d Q h pc lc (xI z :: xR a :: st) := by
  intro p lch e R s mi args below meth c H locs cells slots ls C P S L
  have q1 := P.arr (t := 2) ha
  have hK := k_ty C.2.2.2.2.2.1 (t := 2) (by omega)
  obtain ⟨h1, h2⟩ := i32_in hz hj hb
  have kk := k p lch e R s mi args below meth c H locs cells slots ls C P S L
  change W _ _ _ _ _ _ _ _ _ _ _ _ _ _ _ (F0 _ _ _ (Value.int (Int32.ofInt z) :: rv g a :: _))
  rw [P.rv (a := a) (by omega)]
  refine W.iald C.1 C.2.1 q1 (hK.1 _ _) (fun h => by cases h) (by rw [arrV_size]; exact h1) (v := .int (Int32.ofInt (h_i h a j))) ?_ rfl rfl hd kk
  rw [h2, arrV_read _ _ hj]
  rfl
theorem V_bald {a j : Nat} {z : Int} (hd : decode m.2.1 pc = .ok (.baload, 1)) (ha : h_k h a = 20) (hz : z = (j : Int)) (hj : j < h_l h a) (hb : h_l h a ≤ 2147483647) (k : V g m d Q h (pc + 1) lc (xI (h_i h a j) :: st)) : V g m d Q h pc lc (xI z :: xR a :: st) := by
  intro p lch e R s mi args below meth c H locs cells slots ls C P S L
  have q1 := P.arr (t := 0) ha
  have hK := k_ty C.2.2.2.2.2.1 (t := 0) (by omega)
  obtain ⟨h1, h2⟩ := i32_in hz hj hb
  have kk := k p lch e R s mi args below meth c H locs cells slots ls C P S L
  change W _ _ _ _ _ _ _ _ _ _ _ _ _ _ _ (F0 _ _ _ (Value.int (Int32.ofInt z) :: rv g a :: _))
  rw [P.rv (a := a) (by omega)]
  refine W.bald C.1 C.2.1 q1 (hK.1 _ _) (fun h => by cases h) (by rw [arrV_size]; exact h1) (v := .int (Int32.ofInt (h_i h a j))) ?_ rfl rfl hd kk
  rw [h2, arrV_read _ _ hj]
  rfl
theorem V_zald {a j : Nat} {z : Int} (hd : decode m.2.1 pc = .ok (.baload, 1)) (ha : h_k h a = 23) (hz : z = (j : Int)) (hj : j < h_l h a) (hb : h_l h a ≤ 2147483647) (k : V g m d Q h (pc + 1) lc (xI (h_i h a j) :: st)) : V g m d Q h pc lc (xI z :: xR a :: st) := by
  intro p lch e R s mi args below meth c H locs cells slots ls C P S L
  have q1 := P.arr (t := 3) ha
  have hK := k_ty C.2.2.2.2.2.1 (t := 3) (by omega)
  obtain ⟨h1, h2⟩ := i32_in hz hj hb
  have kk := k p lch e R s mi args below meth c H locs cells slots ls C P S L
  change W _ _ _ _ _ _ _ _ _ _ _ _ _ _ _ (F0 _ _ _ (Value.int (Int32.ofInt z) :: rv g a :: _))
  rw [P.rv (a := a) (by omega)]
  refine W.zald C.1 C.2.1 q1 (hK.1 _ _) (fun h => by cases h) (by rw [arrV_size]; exact h1) (v := .int (Int32.ofInt (h_i h a j))) ?_ rfl rfl hd kk
  rw [h2, arrV_read _ _ hj]
  rfl
theorem V_cald {a j : Nat} {z : Int} (hd : decode m.2.1 pc = .ok (.caload, 1)) (ha : h_k h a = 21) (hz : z = (j : Int)) (hj : j < h_l h a) (hb : h_l h a ≤ 2147483647) (k : V g m d Q h (pc + 1) lc (xI (h_i h a j) :: st)) : V g m d Q h pc lc (xI z :: xR a :: st) := by
  intro p lch e R s mi args below meth c H locs cells slots ls C P S L
  have q1 := P.arr (t := 1) ha
  have hK := k_ty C.2.2.2.2.2.1 (t := 1) (by omega)
  obtain ⟨h1, h2⟩ := i32_in hz hj hb
  have kk := k p lch e R s mi args below meth c H locs cells slots ls C P S L
  change W _ _ _ _ _ _ _ _ _ _ _ _ _ _ _ (F0 _ _ _ (Value.int (Int32.ofInt z) :: rv g a :: _))
  rw [P.rv (a := a) (by omega)]
  refine W.cald C.1 C.2.1 q1 (hK.1 _ _) (fun h => by cases h) (by rw [arrV_size]; exact h1) (v := .int (Int32.ofInt (h_i h a j))) ?_ rfl rfl hd kk
  rw [h2, arrV_read _ _ hj]
  rfl
theorem V_lald {a j : Nat} {z : Int} (hd : decode m.2.1 pc = .ok (.laload, 1)) (ha : h_k h a = 25) (hz : z = (j : Int)) (hj : j < h_l h a) (hb : h_l h a ≤ 2147483647) (k : V g m d Q h (pc + 1) lc (xV (.long (Int64.ofInt (h_i h a j))) :: st)) : V g m d Q h pc lc (xI z :: xR a :: st) := by
  intro p lch e R s mi args below meth c H locs cells slots ls C P S L
  have q1 := P.arr (t := 5) ha
  have hK := k_ty C.2.2.2.2.2.1 (t := 5) (by omega)
  obtain ⟨h1, h2⟩ := i32_in hz hj hb
  have kk := k p lch e R s mi args below meth c H locs cells slots ls C P S L
  change W _ _ _ _ _ _ _ _ _ _ _ _ _ _ _ (F0 _ _ _ (Value.int (Int32.ofInt z) :: rv g a :: _))
  rw [P.rv (a := a) (by omega)]
  refine W.lald C.1 C.2.1 q1 (hK.1 _ _) (fun h => by cases h) (by rw [arrV_size]; exact h1) (v := .long (Int64.ofInt (h_i h a j))) ?_ rfl rfl hd kk
  rw [h2, arrV_read _ _ hj]
  rfl
theorem V_dald {a j : Nat} {z : Int} (hd : decode m.2.1 pc = .ok (.daload, 1)) (ha : h_k h a = 26) (hz : z = (j : Int)) (hj : j < h_l h a) (hb : h_l h a ≤ 2147483647) (k : V g m d Q h (pc + 1) lc (xV (.double (UInt64.ofNat (h_i h a j).toNat)) :: st)) : V g m d Q h pc lc (xI z :: xR a :: st) := by
  intro p lch e R s mi args below meth c H locs cells slots ls C P S L
  have q1 := P.arr (t := 6) ha
  have hK := k_ty C.2.2.2.2.2.1 (t := 6) (by omega)
  obtain ⟨h1, h2⟩ := i32_in hz hj hb
  have kk := k p lch e R s mi args below meth c H locs cells slots ls C P S L
  change W _ _ _ _ _ _ _ _ _ _ _ _ _ _ _ (F0 _ _ _ (Value.int (Int32.ofInt z) :: rv g a :: _))
  rw [P.rv (a := a) (by omega)]
  refine W.dald C.1 C.2.1 q1 (hK.1 _ _) (fun h => by cases h) (by rw [arrV_size]; exact h1) (v := .double (UInt64.ofNat (h_i h a j).toNat)) ?_ rfl rfl hd kk
  rw [h2, arrV_read _ _ hj]
  rfl
theorem V_aald {a j : Nat} {z : Int} (hd : decode m.2.1 pc = .ok (.aaload, 1)) (ha : h_k h a = 24) (hz : z = (j : Int)) (hj : j < h_l h a) (hb : h_l h a ≤ 2147483647) (k : V g m d Q h (pc + 1) lc (xR (h_r h a j) :: st)) : V g m d Q h pc lc (xI z :: xR a :: st) := by
  intro p lch e R s mi args below meth c H locs cells slots ls C P S L
  have q1 := P.arr (t := 4) ha
  have hK := k_ty C.2.2.2.2.2.1 (t := 4) (by omega)
  obtain ⟨h1, h2⟩ := i32_in hz hj hb
  have kk := k p lch e R s mi args below meth c H locs cells slots ls C P S L
  change W _ _ _ _ _ _ _ _ _ _ _ _ _ _ _ (F0 _ _ _ (Value.int (Int32.ofInt z) :: rv g a :: _))
  rw [P.rv (a := a) (by omega)]
  refine W.aald C.1 C.2.1 q1 (hK.1 _ _) rfl (fun h => by cases h) (by rw [arrV_size]; exact h1) (v := rv g (h_r h a j)) ?_ rfl rfl hd kk
  rw [h2, arrV_read _ _ hj]
  rfl
theorem V_alen {a t : Nat} (hd : decode m.2.1 pc = .ok (.arraylength, 1)) (ha : h_k h a = 20 + t) (ht : t ≤ 6) (k : V g m d Q h (pc + 1) lc (xI (h_l h a : Int) :: st)) : V g m d Q h pc lc (xR a :: st) := by
  intro p lch e R s mi args below meth c H locs cells slots ls C P S L
  have q1 := P.arr (t := t) ha
  have hK := k_ty C.2.2.2.2.2.1 (t := t) ht
  have kk := k p lch e R s mi args below meth c H locs cells slots ls C P S L
  change W _ _ _ _ _ _ _ _ _ _ _ _ _ _ _ (F0 _ _ _ (rv g a :: _))
  rw [P.rv (a := a) (by omega)]
  refine W.alen (n := Int32.ofInt (h_l h a : Int)) C.1 C.2.1 q1 (hK.1 _ _) ?_ rfl rfl hd kk
  rw [arrV_size]
  exact (Int32.ofInt_eq_ofNat).symm
theorem V_alenE (hd : decode m.2.1 pc = .ok (.arraylength, 1)) (k : V g m d Q h (pc + 1) lc (xI 0 :: st)) : V g m d Q h pc lc (xR 1 :: st) := by
  intro p lch e R s mi args below meth c H locs cells slots ls C P S L
  have kk := k p lch e R s mi args below meth c H locs cells slots ls C P S L
  change W _ _ _ _ _ _ _ _ _ _ _ _ _ _ _ (F0 _ _ _ (rv g 1 :: _))
  rw [rv_pos (by omega), show g_a g 1 = g_s g 1 from rfl]
  have F := C.2.2.2.2.2.2.2.2.2.2.2.2.1
  exact va_tlen C.1 C.2.1 F.1.2 S rfl hd kk
theorem Rp.ast {H H' : Heap} {a j t : Nat} {v : Value} {h' : AH} (P : Rp g h H) (ha : h_k h a = 20 + t) (ht : t ≤ 6) (e1 : H'[g_a g a]? = some ((arrV (g_A g t) (h_l h a) (fun j => a_v g t (h_i h a j) (h_r h a j))).setSlot j v)) (e2 : H'.size = H.size) (e3 : ∀ q, q ≠ g_a g a → H'[q]? = H[q]?)
    (hv : v = a_v g t (h_i h' a j) (h_r h' a j)) (k1 : h_k h' = h_k h) (kl : h_l h' = h_l h) (k2 : ∀ q i, q ≠ a ∨ i ≠ j → h_i h' q i = h_i h q i ∧ h_r h' q i = h_r h q i) (k3 : h_n h' = h_n h) (k4 : h_u h' = h_u h) : Rp g h' H' := by
  refine P.upd (a := a) (by omega) (P.arr ha) e1 e2 e3 (setSlot_size _ _ _) (Or.inr ?_) k1 (fun q hq => ⟨by rw [kl], fun i => (k2 q i (Or.inl hq)).1, fun i => (k2 q i (Or.inl hq)).2⟩) k3 k4
  rw [k1, kl, ha]
  refine ⟨by omega, by omega, ?_⟩
  rw [arrV_store, show 20 + t - 20 = t by omega]
  congr 1
  funext i
  by_cases e : i = j
  · subst e
    simp [updV, hv]
  · simp [updV, e, (k2 a i (Or.inr e)).1, (k2 a i (Or.inr e)).2]
theorem V_iast {a j : Nat} {z y : Int} (hd : decode m.2.1 pc = .ok (.iastore, 1)) (ha : h_k h a = 22) (hy : y = (j : Int)) (hj : j < h_l h a) (hb : h_l h a ≤ 2147483647) (k : V g m d Q (h_si h a j z) (pc + 1) lc st) : V g m d Q h pc lc (xI z :: xI y :: xR a :: st) := by
  intro p lch e R s mi args below meth c H locs cells slots ls C P S L
  have q1 := P.arr (t := 2) ha
  have hK := k_ty C.2.2.2.2.2.1 (t := 2) (by omega)
  obtain ⟨h1, h2⟩ := i32_in hy hj hb
  change W _ _ _ _ _ _ _ _ _ _ _ _ _ _ _ (F0 _ _ _ (.int (Int32.ofInt z) :: Value.int (Int32.ofInt y) :: rv g a :: _))
  rw [P.rv (a := a) (by omega)]
  refine W.iast C.1 C.2.1 q1 (hK.1 _ _) (fun h => by cases h) (by rw [arrV_size]; exact h1) rfl rfl hd fun H' e1 e2 e3 => ?_
  rw [h2] at e1 ⊢
  skip
  refine k p lch e R s mi args below meth c H' _ cells slots ls C (P.ast (t := 2) ha (by omega) e1 e2 e3 ?_ rfl rfl ?_ rfl rfl) (S.put e2 e3 (P.base (by omega))) L
  · simp [a_v, h_si, h_i, u2_s]
  · exact fun q i hq => hsi_ne hq
theorem V_bast {a j : Nat} {z y : Int} (hd : decode m.2.1 pc = .ok (.bastore, 1)) (ha : h_k h a = 20) (hy : y = (j : Int)) (hj : j < h_l h a) (hb : h_l h a ≤ 2147483647) (hv : -128 ≤ z ∧ z < 128) (k : V g m d Q (h_si h a j z) (pc + 1) lc st) : V g m d Q h pc lc (xI z :: xI y :: xR a :: st) := by
  intro p lch e R s mi args below meth c H locs cells slots ls C P S L
  have q1 := P.arr (t := 0) ha
  have hK := k_ty C.2.2.2.2.2.1 (t := 0) (by omega)
  obtain ⟨h1, h2⟩ := i32_in hy hj hb
  change W _ _ _ _ _ _ _ _ _ _ _ _ _ _ _ (F0 _ _ _ (.int (Int32.ofInt z) :: Value.int (Int32.ofInt y) :: rv g a :: _))
  rw [P.rv (a := a) (by omega)]
  refine W.bast C.1 C.2.1 q1 (hK.1 _ _) (fun h => by cases h) (by rw [arrV_size]; exact h1) rfl rfl hd fun H' e1 e2 e3 => ?_
  rw [h2] at e1 ⊢
  rw [(nf_b hv).1] at e1
  refine k p lch e R s mi args below meth c H' _ cells slots ls C (P.ast (t := 0) ha (by omega) e1 e2 e3 ?_ rfl rfl ?_ rfl rfl) (S.put e2 e3 (P.base (by omega))) L
  · simp [a_v, h_si, h_i, u2_s]
  · exact fun q i hq => hsi_ne hq
theorem V_zast {a j : Nat} {z y : Int} (hd : decode m.2.1 pc = .ok (.bastore, 1)) (ha : h_k h a = 23) (hy : y = (j : Int)) (hj : j < h_l h a) (hb : h_l h a ≤ 2147483647) (hv : z = 0 ∨ z = 1) (k : V g m d Q (h_si h a j z) (pc + 1) lc st) : V g m d Q h pc lc (xI z :: xI y :: xR a :: st) := by
  intro p lch e R s mi args below meth c H locs cells slots ls C P S L
  have q1 := P.arr (t := 3) ha
  have hK := k_ty C.2.2.2.2.2.1 (t := 3) (by omega)
  obtain ⟨h1, h2⟩ := i32_in hy hj hb
  change W _ _ _ _ _ _ _ _ _ _ _ _ _ _ _ (F0 _ _ _ (.int (Int32.ofInt z) :: Value.int (Int32.ofInt y) :: rv g a :: _))
  rw [P.rv (a := a) (by omega)]
  refine W.zast C.1 C.2.1 q1 (hK.1 _ _) (fun h => by cases h) (by rw [arrV_size]; exact h1) rfl rfl hd fun H' e1 e2 e3 => ?_
  rw [h2] at e1 ⊢
  rw [(nf_z hv).1] at e1
  refine k p lch e R s mi args below meth c H' _ cells slots ls C (P.ast (t := 3) ha (by omega) e1 e2 e3 ?_ rfl rfl ?_ rfl rfl) (S.put e2 e3 (P.base (by omega))) L
  · simp [a_v, h_si, h_i, u2_s]
  · exact fun q i hq => hsi_ne hq
theorem V_cast {a j : Nat} {z y : Int} (hd : decode m.2.1 pc = .ok (.castore, 1)) (ha : h_k h a = 21) (hy : y = (j : Int)) (hj : j < h_l h a) (hb : h_l h a ≤ 2147483647) (hv : 0 ≤ z ∧ z < 65536) (k : V g m d Q (h_si h a j z) (pc + 1) lc st) : V g m d Q h pc lc (xI z :: xI y :: xR a :: st) := by
  intro p lch e R s mi args below meth c H locs cells slots ls C P S L
  have q1 := P.arr (t := 1) ha
  have hK := k_ty C.2.2.2.2.2.1 (t := 1) (by omega)
  obtain ⟨h1, h2⟩ := i32_in hy hj hb
  change W _ _ _ _ _ _ _ _ _ _ _ _ _ _ _ (F0 _ _ _ (.int (Int32.ofInt z) :: Value.int (Int32.ofInt y) :: rv g a :: _))
  rw [P.rv (a := a) (by omega)]
  refine W.cast C.1 C.2.1 q1 (hK.1 _ _) (fun h => by cases h) (by rw [arrV_size]; exact h1) rfl rfl hd fun H' e1 e2 e3 => ?_
  rw [h2] at e1 ⊢
  rw [(nf_c hv).1] at e1
  refine k p lch e R s mi args below meth c H' _ cells slots ls C (P.ast (t := 1) ha (by omega) e1 e2 e3 ?_ rfl rfl ?_ rfl rfl) (S.put e2 e3 (P.base (by omega))) L
  · simp [a_v, h_si, h_i, u2_s]
  · exact fun q i hq => hsi_ne hq
theorem V_last {a j : Nat} {y : Int} {x : Int64} (hd : decode m.2.1 pc = .ok (.lastore, 1)) (ha : h_k h a = 25) (hy : y = (j : Int)) (hj : j < h_l h a) (hb : h_l h a ≤ 2147483647) (k : V g m d Q (h_si h a j x.toInt) (pc + 1) lc st) : V g m d Q h pc lc (xV (.long x) :: xI y :: xR a :: st) := by
  intro p lch e R s mi args below meth c H locs cells slots ls C P S L
  have q1 := P.arr (t := 5) ha
  have hK := k_ty C.2.2.2.2.2.1 (t := 5) (by omega)
  obtain ⟨h1, h2⟩ := i32_in hy hj hb
  change W _ _ _ _ _ _ _ _ _ _ _ _ _ _ _ (F0 _ _ _ (.long x :: Value.int (Int32.ofInt y) :: rv g a :: _))
  rw [P.rv (a := a) (by omega)]
  refine W.last C.1 C.2.1 q1 (hK.1 _ _) (fun h => by cases h) (by rw [arrV_size]; exact h1) rfl rfl hd fun H' e1 e2 e3 => ?_
  rw [h2] at e1 ⊢
  skip
  refine k p lch e R s mi args below meth c H' _ cells slots ls C (P.ast (t := 5) ha (by omega) e1 e2 e3 ?_ rfl rfl ?_ rfl rfl) (S.put e2 e3 (P.base (by omega))) L
  · simp [a_v, h_si, h_i, u2_s]
  · exact fun q i hq => hsi_ne hq
theorem V_dast {a j : Nat} {y : Int} {x : UInt64} (hd : decode m.2.1 pc = .ok (.dastore, 1)) (ha : h_k h a = 26) (hy : y = (j : Int)) (hj : j < h_l h a) (hb : h_l h a ≤ 2147483647) (k : V g m d Q (h_si h a j (x.toNat : Int)) (pc + 1) lc st) : V g m d Q h pc lc (xV (.double x) :: xI y :: xR a :: st) := by
  intro p lch e R s mi args below meth c H locs cells slots ls C P S L
  have q1 := P.arr (t := 6) ha
  have hK := k_ty C.2.2.2.2.2.1 (t := 6) (by omega)
  obtain ⟨h1, h2⟩ := i32_in hy hj hb
  change W _ _ _ _ _ _ _ _ _ _ _ _ _ _ _ (F0 _ _ _ (.double x :: Value.int (Int32.ofInt y) :: rv g a :: _))
  rw [P.rv (a := a) (by omega)]
  refine W.dast C.1 C.2.1 q1 (hK.1 _ _) (fun h => by cases h) (by rw [arrV_size]; exact h1) rfl rfl hd fun H' e1 e2 e3 => ?_
  rw [h2] at e1 ⊢
  skip
  refine k p lch e R s mi args below meth c H' _ cells slots ls C (P.ast (t := 6) ha (by omega) e1 e2 e3 ?_ rfl rfl ?_ rfl rfl) (S.put e2 e3 (P.base (by omega))) L
  · simp [a_v, h_si, h_i, u2_s]
  · exact fun q i hq => hsi_ne hq
end V2
section V8
variable {g : GP} {m m' : MT} {d d' : Nat} {Q Q' : Res → AH → Prop} {h : AH} {pc : Nat} {lc lc' st as : List AV}
theorem nmV (k : ∀ h1, h1 = h → V g m d Q h1 pc lc st) : V g m d Q h pc lc st := k h rfl
theorem V_getIv {idx ci j a : Nat} {z : Int} (hd : decode m.2.1 pc = .ok (.getfield idx, 3)) (hf : FlG m.1.cls idx ci j) (hr : c_R ci j = false) (ha : h_k h a = ci + 1) (hv : h_i h a j = z) (k : V g m d Q h (pc + 3) lc (xI z :: st)) : V g m d Q h pc lc (xR a :: st) := by
  subst hv
  exact V_getI hd hf hr ha k
theorem V_getRv {idx ci j a v : Nat} (hd : decode m.2.1 pc = .ok (.getfield idx, 3)) (hf : FlG m.1.cls idx ci j) (hr : c_R ci j = true) (ha : h_k h a = ci + 1) (hv : h_r h a j = v) (k : V g m d Q h (pc + 3) lc (xR v :: st)) : V g m d Q h pc lc (xR a :: st) := by
  subst hv
  exact V_getR hd hf hr ha k
theorem V_ialdv {a j : Nat} {z z2 : Int} (hd : decode m.2.1 pc = .ok (.iaload, 1)) (ha : h_k h a = 22) (hz : z = (j : Int)) (hj : j < h_l h a) (hb : h_l h a ≤ 2147483647) (hv : h_i h a j = z2) (k : V g m d Q h (pc + 1) lc (xI z2 :: st)) : V g m d Q h pc lc (xI z :: xR a :: st) := by
  subst hv
  exact V_iald hd ha hz hj hb k
theorem V_baldv {a j : Nat} {z z2 : Int} (hd : decode m.2.1 pc = .ok (.baload, 1)) (ha : h_k h a = 20) (hz : z = (j : Int)) (hj : j < h_l h a) (hb : h_l h a ≤ 2147483647) (hv : h_i h a j = z2) (k : V g m d Q h (pc + 1) lc (xI z2 :: st)) : V g m d Q h pc lc (xI z :: xR a :: st) := by
  subst hv
  exact V_bald hd ha hz hj hb k
theorem V_zaldv {a j : Nat} {z z2 : Int} (hd : decode m.2.1 pc = .ok (.baload, 1)) (ha : h_k h a = 23) (hz : z = (j : Int)) (hj : j < h_l h a) (hb : h_l h a ≤ 2147483647) (hv : h_i h a j = z2) (k : V g m d Q h (pc + 1) lc (xI z2 :: st)) : V g m d Q h pc lc (xI z :: xR a :: st) := by
  subst hv
  exact V_zald hd ha hz hj hb k
theorem V_caldv {a j : Nat} {z z2 : Int} (hd : decode m.2.1 pc = .ok (.caload, 1)) (ha : h_k h a = 21) (hz : z = (j : Int)) (hj : j < h_l h a) (hb : h_l h a ≤ 2147483647) (hv : h_i h a j = z2) (k : V g m d Q h (pc + 1) lc (xI z2 :: st)) : V g m d Q h pc lc (xI z :: xR a :: st) := by
  subst hv
  exact V_cald hd ha hz hj hb k
theorem V_aaldv {a j v : Nat} {z : Int} (hd : decode m.2.1 pc = .ok (.aaload, 1)) (ha : h_k h a = 24) (hz : z = (j : Int)) (hj : j < h_l h a) (hb : h_l h a ≤ 2147483647) (hv : h_r h a j = v) (k : V g m d Q h (pc + 1) lc (xR v :: st)) : V g m d Q h pc lc (xI z :: xR a :: st) := by
  subst hv
  exact V_aald hd ha hz hj hb k
theorem st4 : ∀ {st : List AV}, st.length ≤ 4 → (st.map (fun v => (cv g v).category)).sum ≤ 8 := by
  have key : ∀ st : List AV, (st.map (fun v => (cv g v).category)).sum ≤ 2 * st.length := by
    intro st
    induction st with
    | nil => simp
    | cons a r ih =>
      have h1 : (cv g a).category ≤ 2 := by rcases lv_cat (cv g a) with q | q <;> omega
      simp only [List.map_cons, List.sum_cons, List.length_cons]
      omega
  intro st h
  have := key st
  omega
/-- a call that answers v and changes nothing -/
def TP (g : GP) (m : MT) (d : Nat) (as : List AV) (h : AH) (v : AV) : Prop := Tr g m d as h (fun r h' => r = .inl (some v) ∧ h' = h)
theorem TP.of (hpl : plainName m.1.cls = true) (hh : m.2.2.2.2 = []) (hc : ∀ v ∈ as, (cv g v).category = 1) (hn : as.length ≤ m.2.2.1) {v : AV} (k : V g m d (fun r h' => r = .inl (some v) ∧ h' = h) h 0 (l_0 m.2.2.1 as) []) : TP g m d as h v := Tr.ofV hpl hh hc hn k
theorem V_pV {idx n ci a : Nat} {v : AV} (hd : decode m.2.1 pc = .ok (.invokevirtual idx, 3)) (hw : CaV m.1.cls idx m' n ci) (hh : m.2.2.2.2 = []) (hd' : d' + 1 ≤ d) (hn : as.length = n) (hst : st.length ≤ 4) (ha : h_k h a = ci + 1) (hT : TP g m' d' (xR a :: as) h v) (k : V g m d Q h (pc + 3) lc (v :: st)) : V g m d Q h pc lc (as.reverse ++ xR a :: st) :=
  V_callV hd hw hh hd' hn (st4 hst) ha hT (fun _ _ z => nomatch z.1) (fun w h' z => by
    obtain ⟨z1, z2⟩ := z
    cases z1; subst z2
    exact k)
theorem V_pS {idx n : Nat} {v : AV} (hd : decode m.2.1 pc = .ok (.invokestatic idx, 3)) (hw : CaS m.1.cls idx m' n) (hh : m.2.2.2.2 = []) (hd' : d' + 1 ≤ d) (hn : as.length = n) (hst : st.length ≤ 4) (hT : TP g m' d' as h v) (k : V g m d Q h (pc + 3) lc (v :: st)) : V g m d Q h pc lc (as.reverse ++ st) :=
  V_callS hd hw hh hd' hn (st4 hst) hT (fun _ _ z => nomatch z.1) (fun w h' z => by
    obtain ⟨z1, z2⟩ := z
    cases z1; subst z2
    exact k)
theorem V_pU {idx n ci a : Nat} {v : AV} (hd : decode m.2.1 pc = .ok (.invokespecial idx, 3)) (hw : CaU m.1.cls idx m' n ci) (hd' : d' + 1 ≤ d) (hn : as.length = n) (hst : st.length ≤ 4) (ha : h_k h a = ci + 1) (hT : TP g m' d' (xR a :: as) h v) (k : V g m d Q h (pc + 3) lc (v :: st)) : V g m d Q h pc lc (as.reverse ++ xR a :: st) :=
  V_callU hd hw hd' hn (st4 hst) ha (TrI.ofTr hT (fun _ _ z => nomatch z.1)) (fun w h' z => by
    obtain ⟨z1, z2⟩ := z
    cases z1; subst z2
    exact k)
theorem V_cV {idx n ci a : Nat} (hd : decode m.2.1 pc = .ok (.invokevirtual idx, 3)) (hw : CaV m.1.cls idx m' n ci) (hh : m.2.2.2.2 = []) (hd' : d' + 1 ≤ d) (hn : as.length = n) (hst : st.length ≤ 4) (ha : h_k h a = ci + 1) (hT : Tr g m' d' (xR a :: as) h Q')
    (kx : ∀ (E : String) (h' : AH), Q' (.inr E) h' → Q (.inr E) h') (kr : ∀ (v : Option AV) (h' : AH), Q' (.inl v) h' → V g m d Q h' (pc + 3) lc (v.toList ++ st)) : V g m d Q h pc lc (as.reverse ++ xR a :: st) := V_callV hd hw hh hd' hn (st4 hst) ha hT kx kr
theorem V_cS {idx n : Nat} (hd : decode m.2.1 pc = .ok (.invokestatic idx, 3)) (hw : CaS m.1.cls idx m' n) (hh : m.2.2.2.2 = []) (hd' : d' + 1 ≤ d) (hn : as.length = n) (hst : st.length ≤ 4) (hT : Tr g m' d' as h Q')
    (kx : ∀ (E : String) (h' : AH), Q' (.inr E) h' → Q (.inr E) h') (kr : ∀ (v : Option AV) (h' : AH), Q' (.inl v) h' → V g m d Q h' (pc + 3) lc (v.toList ++ st)) : V g m d Q h pc lc (as.reverse ++ st) := V_callS hd hw hh hd' hn (st4 hst) hT kx kr
theorem V_cU {idx n ci a : Nat} (hd : decode m.2.1 pc = .ok (.invokespecial idx, 3)) (hw : CaU m.1.cls idx m' n ci) (hd' : d' + 1 ≤ d) (hn : as.length = n) (hst : st.length ≤ 4) (ha : h_k h a = ci + 1) (hT : TrI g m' d' (xR a :: as) h Q')
    (kr : ∀ (v : Option AV) (h' : AH), Q' (.inl v) h' → V g m d Q h' (pc + 3) lc (v.toList ++ st)) : V g m d Q h pc lc (as.reverse ++ xR a :: st) := V_callU hd hw hd' hn (st4 hst) ha hT kr
theorem V_cI {idx n a : Nat} (hd : decode m.2.1 pc = .ok (.invokespecial idx, 3)) (hw : CaI m.1.cls idx m' n) (hnone : m'.2.2.2.1 = none) (hd' : d' + 1 ≤ d) (hn : as.length = n) (hst : st.length ≤ 4) (ha : a ≠ 0) (hT : TrI g m' d' (xR a :: as) h Q')
    (kr : ∀ (v : Option AV) (h' : AH), Q' (.inl v) h' → V g m d Q h' (pc + 3) lc (v.toList ++ st)) : V g m d Q h pc lc (as.reverse ++ xR a :: st) := V_callI hd hw hnone hd' hn (st4 hst) ha hT kr
theorem V_cH {idx n : Nat} (hd : decode m.2.1 pc = .ok (.invokestatic idx, 3)) (hw : CaH m.1.cls idx m' n) (hh : m.2.2.2.2 = []) (hd' : d' + 1 ≤ d) (hn : as.length = n) (hst : st.length ≤ 4) (hT : TrH g m' d' as h Q')
    (kx : ∀ (E : String) (h' : AH), Q' (.inr E) h' → Q (.inr E) h') (kr : ∀ (v : Option AV) (h' : AH), Q' (.inl v) h' → V g m d Q h' (pc + 3) lc (v.toList ++ st)) : V g m d Q h pc lc (as.reverse ++ st) := V_callH hd hw hh hd' hn (st4 hst) hT kx kr
theorem V_cC {idx n ci a : Nat} (hd : decode m.2.1 pc = .ok (.invokevirtual idx, 3)) (hw : CaV m.1.cls idx m' n ci) (hd' : d' + 1 ≤ d) (hn : as.length = n) (hst : st.length ≤ 4) (ha : h_k h a = ci + 1) (hT : Tr g m' d' (xR a :: as) h Q')
    (kx : ∀ (E : String) (h' : AH), Q' (.inr E) h' → Catch g m d Q pc lc E h') (kr : ∀ (v : Option AV) (h' : AH), Q' (.inl v) h' → V g m d Q h' (pc + 3) lc (v.toList ++ st)) : V g m d Q h pc lc (as.reverse ++ xR a :: st) := V_callVC hd hw hd' hn (st4 hst) ha hT kx kr
/-- weaker posts -/
theorem V.mono {Q1 : Res → AH → Prop} (hq : ∀ r h', Q1 r h' → Q r h') (k : V g m d Q1 h pc lc st) : V g m d Q h pc lc st := by
  intro p lch e R s mi args below meth c H locs cells slots ls C P S L
  refine W_mono (fun t ht => ?_) (k p lch e R s mi args below meth c H locs cells slots ls C P S L)
  obtain ⟨o, o1, o2, o3⟩ := ht
  refine ⟨o, o1, o2, ?_⟩
  rcases o3 with ⟨⟨⟨v, h', o4, o5, o6⟩, o7⟩, o8⟩ | ⟨q, o4, E, ce, L9, ⟨⟨h', o5, o6⟩, o7⟩, o8⟩
  · exact Or.inl ⟨⟨⟨v, h', o4, o5, hq _ _ o6⟩, o7⟩, o8⟩
  · exact Or.inr ⟨q, o4, E, ce, L9, ⟨⟨h', o5, hq _ _ o6⟩, o7⟩, o8⟩
theorem Tr.mono {Q1 : Res → AH → Prop} (hq : ∀ r h', Q1 r h' → Q r h') (k : Tr g m d as h Q1) : Tr g m d as h Q := by
  intro lch hfl n0 u0 p e ha hc hk s mi args below hf hfit hP htr
  obtain ⟨k1, o, h1, h2, h3, o3⟩ := k lch hfl n0 u0 p e ha hc hk s mi args below hf hfit hP htr
  refine ⟨k1, o, h1, h2, h3, ?_⟩
  rcases o3 with ⟨⟨⟨v, h', o4, o5, o6⟩, o7⟩, o8⟩ | ⟨q, o4, E, ce, L9, ⟨⟨h', o5, o6⟩, o7⟩, o8⟩
  · exact Or.inl ⟨⟨⟨v, h', o4, o5, hq _ _ o6⟩, o7⟩, o8⟩
  · exact Or.inr ⟨q, o4, E, ce, L9, ⟨⟨h', o5, hq _ _ o6⟩, o7⟩, o8⟩
/-- the world's counts keep their bounds -/
theorem V_rp (k : h_n h ≤ z_CC → h_u h ≤ z_CS → 8 ≤ h_n h → (∀ a, h_k h a ≠ 0 → 8 ≤ a ∧ a < h_n h) → V g m d Q h pc lc st) : V g m d Q h pc lc st := by
  intro p lch e R s mi args below meth c H locs cells slots ls C P S L
  exact k P.2.2.2.2.1 P.2.2.2.2.2 P.2.1 (fun a ha => ⟨(P.2.2.1 a ha).1, (P.2.2.1 a ha).2.1⟩) p lch e R s mi args below meth c H locs cells slots ls C P S L
/-- truth as a number -/
def b2i (b : Bool) : Int := if b = true then 1 else 0
theorem b2i_t : b2i true = 1 := rfl
theorem b2i_f : b2i false = 0 := rfl
theorem b2i_01 (b : Bool) : b2i b = 0 ∨ b2i b = 1 := by cases b <;> simp [b2i]
theorem b2i_0 {b : Bool} : b2i b = 0 ↔ b = false := by cases b <;> simp [b2i]
theorem b2i_n0 {b : Bool} : b2i b ≠ 0 ↔ b = true := by cases b <;> simp [b2i]
theorem b2i_r (b : Bool) : -2147483648 ≤ b2i b ∧ b2i b ≤ 2147483647 := by cases b <;> decide
/-- a loop that counts up -/
theorem loop_up (W9 : Nat → Prop) (e9 : Nat) (hx : W9 e9) (hs : ∀ k, k < e9 → W9 (k + 1) → W9 k) : ∀ k, k ≤ e9 → W9 k := by
  intro k hk
  obtain ⟨n, hn⟩ : ∃ n, n = e9 - k := ⟨_, rfl⟩
  induction n generalizing k with
  | zero =>
    have : k = e9 := by omega
    rw [this]; exact hx
  | succ n ih =>
    exact hs k (by omega) (ih (k + 1) (by omega) (by omega))
theorem i2c_id {z : Int} (hz : 0 ≤ z ∧ z < 65536) : ((Int32.ofInt z).toUInt32 % 65536).toInt32 = Int32.ofInt z := by
  obtain ⟨n, rfl⟩ := Int.eq_ofNat_of_zero_le hz.1
  have e : Int32.ofInt (n : Int) = nI n := Int32.ofInt_eq_ofNat
  rw [e, pk_char, pk_tn (by omega), Nat.mod_eq_of_lt (by omega)]
theorem i2b_id {z : Int} (hz : -128 ≤ z ∧ z < 128) : (Int32.ofInt z).toInt8.toInt32 = Int32.ofInt z := by
  apply Int32.toInt_inj.mp
  rw [Int8.toInt_toInt32, Int32.toInt_toInt8, i32_i (by omega)]
  exact Int.bmod_eq_of_le (by omega) (by omega)
end V8

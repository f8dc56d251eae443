section V7
variable {g : GP} {m m' : MT} {d d' : Nat} {Q Q' : Res → AH → Prop} {h : AH} {pc : Nat} {lc lc' st as : List AV}
theorem av_i {t r : Nat} {z : Int} (ht : t ≤ 3) : a_v g t z r = .int (Int32.ofInt z) := by
  unfold a_v
  rw [if_neg (by omega), if_neg (by omega), if_neg (by omega)]
theorem cp_r (h : AH) (a b sp dp n j : Nat) : a_v g 4 (h_i (h_cr h a sp b dp n) b j) (h_r (h_cr h a sp b dp n) b j) = rv g (va_cpy (h_r h a) (h_r h b) sp dp n j) := by
  show rv g (if b = b ∧ dp ≤ j ∧ j < dp + n then h_r h a (sp + (j - dp)) else h_r h b j) = _
  unfold va_cpy
  by_cases q : dp ≤ j ∧ j < dp + n
  · rw [if_pos ⟨rfl, q.1, q.2⟩, if_pos q]
  · rw [if_neg (fun z => q z.2), if_neg q]
theorem cp_i (h : AH) (a b sp dp n j : Nat) {t : Nat} (ht : t ≤ 3) : a_v g t (h_i (h_ci h a sp b dp n) b j) (h_r (h_ci h a sp b dp n) b j) = .int (Int32.ofInt (va_cpy (h_i h a) (h_i h b) sp dp n j)) := by
  rw [av_i ht]
  show Value.int (Int32.ofInt (if b = b ∧ dp ≤ j ∧ j < dp + n then h_i h a (sp + (j - dp)) else h_i h b j)) = _
  unfold va_cpy
  by_cases q : dp ≤ j ∧ j < dp + n
  · rw [if_pos ⟨rfl, q.1, q.2⟩, if_pos q]
  · rw [if_neg (fun z => q z.2), if_neg q]
theorem V_cpR {idx a b sp dp n : Nat} {zs zd zn : Int} (hd : decode m.2.1 pc = .ok (.invokestatic idx, 3)) (hw : Cond.methodLink m.1.cls idx arraycopyName ∈ GW) (w1 : Cond.native arraycopyName ∈ GW) (w2 : Cond.static arraycopyName ∈ GW) (w3 : Cond.initialized "java/lang/System" ∈ GW) (hd1 : 1 ≤ d) (hst : (st.map (fun v => (cv g v).category)).sum ≤ 8)
    (ha : h_k h a = 20 + 4) (hb : h_k h b = 20 + 4) (hzs : zs = (sp : Int)) (hzd : zd = (dp : Int)) (hzn : zn = (n : Int)) (h4 : sp + n ≤ h_l h a) (h5 : dp + n ≤ h_l h b) (hla : h_l h a ≤ 2147483647) (hlb : h_l h b ≤ 2147483647) (hel : ∀ i, i < n → h_r h a (sp + i) = 0 ∨ h_k h (h_r h a (sp + i)) = 6 ∨ h_k h (h_r h a (sp + i)) = 7 ∨ h_k h (h_r h a (sp + i)) = 8)
    (k : V g m d Q (h_cr h a sp b dp n) (pc + 3) lc st) : V g m d Q h pc lc (xI zn :: xI zd :: xR b :: xI zs :: xR a :: st) := by
  intro p lch e R s mi args below meth c H locs cells slots ls C P S L
  subst hzs; subst hzd; subst hzn
  have hts := C.2.2.2.2.1
  have hR := C.2.2.2.2.2.2.2.2.2.2.1
  have hca := P.arr ha
  have hcb := P.arr hb
  have hK := k_ty C.2.2.2.2.2.1 (t := 4) (by omega)
  obtain ⟨-, k0, hk0, cm0, hkk0⟩ := hK.1 (h_l h a) (fun j => a_v g 4 (h_i h a j) (h_r h a j))
  obtain ⟨-, k1, hk1, cm1, hkk1⟩ := hK.1 (h_l h b) (fun j => a_v g 4 (h_i h b j) (h_r h b j))
  have n1 := i32_n (j := sp) (by omega)
  have n2 := i32_n (j := dp) (by omega)
  have n3 := i32_n (j := n) (by omega)
  have t1 := @i32_i (sp : Int) (by omega)
  have t2 := @i32_i (dp : Int) (by omega)
  have t3 := @i32_i (n : Int) (by omega)
  change W _ _ _ _ _ _ _ _ _ _ _ _ _ _ _ (F0 _ _ _ (Value.int (Int32.ofInt (n : Int)) :: Value.int (Int32.ofInt (dp : Int)) :: rv g b :: Value.int (Int32.ofInt (sp : Int)) :: rv g a :: _))
  rw [P.rv (a := a) (by omega), P.rv (a := b) (by omega)]
  have h8 := st_cat hst
  intro T hT X
  subst hT
  obtain ⟨vm', X', step⟩ := X.arraycopy C.1 C.2.2.2.1 (hts _ hw) (hts _ w1) (hts _ w2) (hts _ w3) (src := g_a g a) (dst := g_a g b) (srcPos := Int32.ofInt (sp : Int)) (destPos := Int32.ofInt (dp : Int)) (n := Int32.ofInt (n : Int)) hca hcb
    (fun _ h => by cases h) (fun _ h => by cases h) (fun h => by cases h) (fun h => by cases h) hk0 hk1 hkk0 hkk1 rfl (by rw [i32_0, i32_lt (by omega) (by omega)]; omega) (by rw [i32_0, i32_lt (by omega) (by omega)]; omega) (by rw [i32_0, i32_lt (by omega) (by omega)]; omega)
    (by rw [t1, t3, arrV_size]; omega) (by rw [t2, t3, arrV_size]; omega)
    (fun vm₁ hal i hi => by
      have hi' : i < n := by rw [n3] at hi; exact hi
      rw [n1]
      have e : (arrV (g_A g 4) (h_l h a) (fun j => a_v g 4 (h_i h a j) (h_r h a j))).slots.getD (sp + i) .null = rv g (h_r h a (sp + i)) := by
        rw [Array.getD_eq_getD_getElem?, arrV_read _ _ (by omega)]
        rfl
      rw [e]
      rcases hel i hi' with h0 | h0
      · rw [h0]; exact ⟨rfl, trivial⟩
      · obtain ⟨cellV, g1, g2, ⟨kC, hkC⟩, hasg⟩ := C.any P h0
        rw [P.rv (a := h_r h a (sp + i)) (by omega)]
        obtain ⟨kA, comp, r1, r2, r3, -⟩ := hK.2
        cases hk1.symm.trans r1
        cases hkk1.symm.trans r2
        obtain ⟨kE, hkE, -⟩ := Vm.findClass_spec r3
        obtain ⟨kC', hkC', -⟩ := hal.2.2 _ _ hkC
        obtain ⟨kE', hkE', -⟩ := hal.2.2 _ _ hkE
        refine ⟨rfl, cellV, (show T.heap[g_a g (h_r h a (sp + i))]? = some cellV from g1), (fun q h => by rw [h] at g2; cases g2), ⟨kC', hkC'⟩, ?_, ?_⟩
        · exact ⟨kE', hkE'⟩
        · show vm₁.assignable _ _ = true
          rw [hal.assignable]
          exact hasg _ r3)
    (g := F0 mi pc ls (Value.int (Int32.ofInt (n : Int)) :: Value.int (Int32.ofInt (dp : Int)) :: .ref (g_a g b) :: Value.int (Int32.ofInt (sp : Int)) :: .ref (g_a g a) :: st.map (cv g))) rfl (L.1.trans C.2.2.1.symm) (rest := st.map (cv g)) rfl (by rw [C.2.1]; exact hd) (by omega) (by show 2 * 0 + _ + (7 + 11) ≤ _; omega)
  have ea : (fun j => a_v g 4 (h_i h a j) (h_r h a j)) = fun j => (fun r : Nat => rv g r) ((h_r h a) j) := rfl
  have eb : (fun j => a_v g 4 (h_i h b j) (h_r h b j)) = fun j => (fun r : Nat => rv g r) ((h_r h b) j) := rfl
  have e1 : copied (arrV (g_A g 4) (h_l h a) (fun j => a_v g 4 (h_i h a j) (h_r h a j))) (arrV (g_A g 4) (h_l h b) (fun j => a_v g 4 (h_i h b j) (h_r h b j))) (Int32.ofInt (sp : Int)) (Int32.ofInt (dp : Int)) (Int32.ofInt (n : Int)) = arrV (g_A g 4) (h_l h b) (fun j => (fun r : Nat => rv g r) (va_cpy (h_r h a) (h_r h b) sp dp n j)) := by
    unfold copied
    rw [n1, n2, n3, ea, eb]
    exact va_copied (fun r : Nat => rv g r) _ _ _ _ h4
  rw [e1] at X' step
  have hl : g_a g b < T.heap.size := (Array.getElem?_eq_some_iff.mp hcb).1
  have oq : ∀ q : Nat, q ≠ g_a g b → (T.heap.setIfInBounds (g_a g b) (arrV (g_A g 4) (h_l h b) (fun j => (fun r : Nat => rv g r) (va_cpy (h_r h a) (h_r h b) sp dp n j))))[q]? = T.heap[q]? := fun q hq => by simp [Array.getElem?_setIfInBounds, Ne.symm hq]
  obtain ⟨t9, a1, b1⟩ := k p lch e R s mi args below meth c (T.heap.setIfInBounds (g_a g b) (arrV (g_A g 4) (h_l h b) (fun j => (fun r : Nat => rv g r) (va_cpy (h_r h a) (h_r h b) sp dp n j)))) _ cells slots ls C
    (P.upd (h' := h_cr h a sp b dp n) (a := b) (by omega) hcb (cell' := arrV (g_A g 4) (h_l h b) (fun j => (fun r : Nat => rv g r) (va_cpy (h_r h a) (h_r h b) sp dp n j))) (by simp [Array.getElem?_setIfInBounds, hl]) (by simp) oq (by rw [arrV_size, arrV_size]) (Or.inr ⟨by show 20 ≤ h_k h b; omega, by show h_k h b ≤ 26; omega, by
        show _ = arrV (g_A g (h_k h b - 20)) (h_l h b) _
        rw [hb, show 20 + 4 - 20 = 4 by omega]
        congr 1
        funext j
        have ek : h_k (h_cr h a sp b dp n) b - 20 = 4 := by show h_k h b - 20 = 4; omega
        rw [ek]
        exact (cp_r h a b sp dp n j).symm⟩) rfl (fun q hq => ⟨rfl, fun j => rfl, fun j => if_neg (fun z => hq z.1)⟩) rfl rfl)
    ⟨by simp only [Array.size_setIfInBounds]; exact S.1, fun q g1 g2 => (oq q (fun e => g2 (by rw [e]; exact P.base (by omega)))).trans (S.2.1 q g1 g2), fun q hq => by
      rcases List.mem_append.mp hq with h1 | h1
      · exact S.2.2 q h1
      · obtain ⟨z, -, hz⟩ := List.mem_map.mp h1
        rw [← hz]
        exact P.base (by omega)⟩ L _ rfl X'
  exact ⟨t9, step t9 a1, b1⟩
theorem V_cpI {idx a b sp dp n : Nat} {t : Nat} (ht : t ≤ 3) {zs zd zn : Int} (hd : decode m.2.1 pc = .ok (.invokestatic idx, 3)) (hw : Cond.methodLink m.1.cls idx arraycopyName ∈ GW) (w1 : Cond.native arraycopyName ∈ GW) (w2 : Cond.static arraycopyName ∈ GW) (w3 : Cond.initialized "java/lang/System" ∈ GW) (hd1 : 1 ≤ d) (hst : (st.map (fun v => (cv g v).category)).sum ≤ 8)
    (ha : h_k h a = 20 + t) (hb : h_k h b = 20 + t) (hzs : zs = (sp : Int)) (hzd : zd = (dp : Int)) (hzn : zn = (n : Int)) (h4 : sp + n ≤ h_l h a) (h5 : dp + n ≤ h_l h b) (hla : h_l h a ≤ 2147483647) (hlb : h_l h b ≤ 2147483647) (hel : ∀ i, i < n → fits (g_ty t) (.int (Int32.ofInt (h_i h a (sp + i)))) = true)
    (k : V g m d Q (h_ci h a sp b dp n) (pc + 3) lc st) : V g m d Q h pc lc (xI zn :: xI zd :: xR b :: xI zs :: xR a :: st) := by
  intro p lch e R s mi args below meth c H locs cells slots ls C P S L
  subst hzs; subst hzd; subst hzn
  have hts := C.2.2.2.2.1
  have hR := C.2.2.2.2.2.2.2.2.2.2.1
  have hca := P.arr ha
  have hcb := P.arr hb
  have hK := k_ty C.2.2.2.2.2.1 (t := t) (by omega)
  obtain ⟨-, k0, hk0, cm0, hkk0⟩ := hK.1 (h_l h a) (fun j => a_v g t (h_i h a j) (h_r h a j))
  obtain ⟨-, k1, hk1, cm1, hkk1⟩ := hK.1 (h_l h b) (fun j => a_v g t (h_i h b j) (h_r h b j))
  have n1 := i32_n (j := sp) (by omega)
  have n2 := i32_n (j := dp) (by omega)
  have n3 := i32_n (j := n) (by omega)
  have t1 := @i32_i (sp : Int) (by omega)
  have t2 := @i32_i (dp : Int) (by omega)
  have t3 := @i32_i (n : Int) (by omega)
  change W _ _ _ _ _ _ _ _ _ _ _ _ _ _ _ (F0 _ _ _ (Value.int (Int32.ofInt (n : Int)) :: Value.int (Int32.ofInt (dp : Int)) :: rv g b :: Value.int (Int32.ofInt (sp : Int)) :: rv g a :: _))
  rw [P.rv (a := a) (by omega), P.rv (a := b) (by omega)]
  have h8 := st_cat hst
  intro T hT X
  subst hT
  obtain ⟨vm', X', step⟩ := X.arraycopy C.1 C.2.2.2.1 (hts _ hw) (hts _ w1) (hts _ w2) (hts _ w3) (src := g_a g a) (dst := g_a g b) (srcPos := Int32.ofInt (sp : Int)) (destPos := Int32.ofInt (dp : Int)) (n := Int32.ofInt (n : Int)) hca hcb
    (fun _ h => by cases h) (fun _ h => by cases h) (fun h => by cases h) (fun h => by cases h) hk0 hk1 hkk0 hkk1 (by match t, ht with
      | 0, _ => rfl
      | 1, _ => rfl
      | 2, _ => rfl
      | 3, _ => rfl) (by rw [i32_0, i32_lt (by omega) (by omega)]; omega) (by rw [i32_0, i32_lt (by omega) (by omega)]; omega) (by rw [i32_0, i32_lt (by omega) (by omega)]; omega)
    (by rw [t1, t3, arrV_size]; omega) (by rw [t2, t3, arrV_size]; omega)
    (fun vm₁ hal i hi => by
      have hi' : i < n := by rw [n3] at hi; exact hi
      rw [n1]
      have e : (arrV (g_A g t) (h_l h a) (fun j => a_v g t (h_i h a j) (h_r h a j))).slots.getD (sp + i) .null = .int (Int32.ofInt (h_i h a (sp + i))) := by
        rw [Array.getD_eq_getD_getElem?, arrV_read _ _ (by omega)]
        exact av_i ht
      rw [e]
      exact ⟨hel i hi', trivial⟩)
    (g := F0 mi pc ls (Value.int (Int32.ofInt (n : Int)) :: Value.int (Int32.ofInt (dp : Int)) :: .ref (g_a g b) :: Value.int (Int32.ofInt (sp : Int)) :: .ref (g_a g a) :: st.map (cv g))) rfl (L.1.trans C.2.2.1.symm) (rest := st.map (cv g)) rfl (by rw [C.2.1]; exact hd) (by omega) (by show 2 * 0 + _ + (7 + 11) ≤ _; omega)
  have ea : (fun j => a_v g t (h_i h a j) (h_r h a j)) = fun j => (fun z : Int => Value.int (Int32.ofInt z)) ((h_i h a) j) := funext fun j => av_i ht
  have eb : (fun j => a_v g t (h_i h b j) (h_r h b j)) = fun j => (fun z : Int => Value.int (Int32.ofInt z)) ((h_i h b) j) := funext fun j => av_i ht
  have e1 : copied (arrV (g_A g t) (h_l h a) (fun j => a_v g t (h_i h a j) (h_r h a j))) (arrV (g_A g t) (h_l h b) (fun j => a_v g t (h_i h b j) (h_r h b j))) (Int32.ofInt (sp : Int)) (Int32.ofInt (dp : Int)) (Int32.ofInt (n : Int)) = arrV (g_A g t) (h_l h b) (fun j => (fun z : Int => Value.int (Int32.ofInt z)) (va_cpy (h_i h a) (h_i h b) sp dp n j)) := by
    unfold copied
    rw [n1, n2, n3, ea, eb]
    exact va_copied (fun z : Int => Value.int (Int32.ofInt z)) _ _ _ _ h4
  rw [e1] at X' step
  have hl : g_a g b < T.heap.size := (Array.getElem?_eq_some_iff.mp hcb).1
  have oq : ∀ q : Nat, q ≠ g_a g b → (T.heap.setIfInBounds (g_a g b) (arrV (g_A g t) (h_l h b) (fun j => (fun z : Int => Value.int (Int32.ofInt z)) (va_cpy (h_i h a) (h_i h b) sp dp n j))))[q]? = T.heap[q]? := fun q hq => by simp [Array.getElem?_setIfInBounds, Ne.symm hq]
  obtain ⟨t9, a1, b1⟩ := k p lch e R s mi args below meth c (T.heap.setIfInBounds (g_a g b) (arrV (g_A g t) (h_l h b) (fun j => (fun z : Int => Value.int (Int32.ofInt z)) (va_cpy (h_i h a) (h_i h b) sp dp n j)))) _ cells slots ls C
    (P.upd (h' := h_ci h a sp b dp n) (a := b) (by omega) hcb (cell' := arrV (g_A g t) (h_l h b) (fun j => (fun z : Int => Value.int (Int32.ofInt z)) (va_cpy (h_i h a) (h_i h b) sp dp n j))) (by simp [Array.getElem?_setIfInBounds, hl]) (by simp) oq (by rw [arrV_size, arrV_size]) (Or.inr ⟨by show 20 ≤ h_k h b; omega, by show h_k h b ≤ 26; omega, by
        show _ = arrV (g_A g (h_k h b - 20)) (h_l h b) _
        rw [hb, show 20 + t - 20 = t by omega]
        congr 1
        funext j
        have ek : h_k (h_ci h a sp b dp n) b - 20 = t := by show h_k h b - 20 = t; omega
        rw [ek]
        exact (cp_i h a b sp dp n j ht).symm⟩) rfl (fun q hq => ⟨rfl, fun j => if_neg (fun z => hq z.1), fun j => rfl⟩) rfl rfl)
    ⟨by simp only [Array.size_setIfInBounds]; exact S.1, fun q g1 g2 => (oq q (fun e => g2 (by rw [e]; exact P.base (by omega)))).trans (S.2.1 q g1 g2), fun q hq => by
      rcases List.mem_append.mp hq with h1 | h1
      · exact S.2.2 q h1
      · obtain ⟨z, -, hz⟩ := List.mem_map.mp h1
        rw [← hz]
        exact P.base (by omega)⟩ L _ rfl X'
  exact ⟨t9, step t9 a1, b1⟩
def h_cl (h : AH) (a : Nat) : AH := (u_1 h.1 h.2.2.2.2.1 (h.1 a), u_1 h.2.1 h.2.2.2.2.1 (h.2.1 a), (fun q j => if q = h.2.2.2.2.1 then h.2.2.1 a j else h.2.2.1 q j), (fun q j => if q = h.2.2.2.2.1 then h.2.2.2.1 a j else h.2.2.2.1 q j), h.2.2.2.2.1 + 1, h.2.2.2.2.2 + h.2.1 a)
/-- a row of ints cloned -/
theorem V_clone {idx a : Nat} (hd : decode m.2.1 pc = .ok (.invokevirtual idx, 3)) (hd1 : 1 ≤ d) (hst : (st.map (fun v => (cv g v).category)).sum ≤ 8) (w0 : Cond.methodLink m.1.cls idx ⟨"[I", "clone", "()Ljava/lang/Object;"⟩ ∈ GW) (w1 : Cond.sameMethod "[I" "java/lang/Object" "clone" "()Ljava/lang/Object;" ∈ GW) (w2 : Cond.native ⟨"java/lang/Object", "clone", "()Ljava/lang/Object;"⟩ ∈ GW) (w3 : Cond.instanceMethod ⟨"java/lang/Object", "clone", "()Ljava/lang/Object;"⟩ ∈ GW)
    (w4 : Cond.selects "[I" ⟨"[I", "clone", "()Ljava/lang/Object;"⟩ ⟨"java/lang/Object", "clone", "()Ljava/lang/Object;"⟩ ∈ GW) (ha : h_k h a = 22) (h1 : h_n h + 1 ≤ z_CC) (h2 : h_u h + h_l h a ≤ z_CS) (k : V g m d Q (h_cl h a) (pc + 3) lc (xR (h_n h) :: st)) : V g m d Q h pc lc (xR a :: st) := by
  intro p lch e R s mi args below meth c H locs cells slots ls C P S L
  have hts := C.2.2.2.2.1
  have hR := C.2.2.2.2.2.2.2.2.2.2.1
  have F := C.2.2.2.2.2.2.2.2.2.2.2.2.1
  have hca := P.arr (t := 2) ha
  have hK := k_ty C.2.2.2.2.2.1 (t := 2) (by omega)
  have h8 := st_cat hst
  have hcl : va_Nw (.castable "[I" "java/lang/Cloneable") s := F.2.2.2.2.2.2.1 ("[I", "java/lang/Cloneable") (by decide)
  obtain ⟨c0, t0', f1, f2, f3⟩ := Cond.castable_spec (va_Nw.use (A := args) rfl hcl)
  have hnm : s.vm.findClass "[I" = some (g_A g 2) := hK.2
  cases hnm.symm.trans f1
  change W _ _ _ _ _ _ _ _ _ _ _ _ _ _ _ (F0 _ _ _ (rv g a :: _))
  rw [P.rv (a := a) (by omega)]
  refine W_tight C P h1 h2 fun e1 e2 => ?_
  intro T hT X
  subst hT
  obtain ⟨-, kA, hkA, comp, hkind⟩ := State.isArrayOf_alike X.warmed.alike (hK.1 0 (fun _ => .null))
  obtain ⟨-, kS, hkS, compS, hkindS⟩ := hK.1 0 (fun _ => .null)
  obtain ⟨vm', X', st1⟩ := X.cloneArray C.1 C.2.2.2.1 (hts _ w0) (hts _ w1) (hts _ w2) (hts _ w3) (hts _ w4) (a := g_a g a) hca (fun k h => by cases h) (fun h => by cases h) hnm f2 f3
    (fun i v hv => by
      have hk' : T.vm.classes[g_A g 2]? = some kA := hkA
      have : ∃ z : Int32, v = .int z := by
        have hlt := (Array.getElem?_eq_some_iff.mp hv).1
        rw [arrV_size] at hlt
        rw [arrV_read _ _ hlt] at hv
        exact ⟨_, (Option.some.inj hv).symm⟩
      obtain ⟨z, rfl⟩ := this
      show T.fitsSlot (g_A g 2) .none i (.int z) = true
      simp [State.fitsSlot, State.slotType?, hk', hkind, fits, g_ty])
    (g := F0 mi pc ls (.ref (g_a g a) :: st.map (cv g))) rfl (L.1.trans C.2.2.1.symm) rfl (by rw [C.2.1]; exact hd) (by omega) (by show 2 * 0 + _ + 14 ≤ _; omega) (by omega) (by rw [arrV_size]; omega) (hloader := Vm.clonesLoader_of_array hkS hkindS)
  rw [arrV_size] at X'
  have z1 : (T.heap.push (arrV (g_A g 2) (h_l h a) (fun j => a_v g 2 (h_i h a j) (h_r h a j)))).size = T.heap.size + 1 := by rw [Array.size_push]
  have c1 : (T.heap.push (arrV (g_A g 2) (h_l h a) (fun j => a_v g 2 (h_i h a j) (h_r h a j))))[T.heap.size]? = some (arrV (g_A g 2) (h_l h a) (fun j => a_v g 2 (h_i h a j) (h_r h a j))) := Array.getElem?_push_size
  have o1 : ∀ q : Nat, q < T.heap.size → (T.heap.push (arrV (g_A g 2) (h_l h a) (fun j => a_v g 2 (h_i h a j) (h_r h a j))))[q]? = T.heap[q]? := fun q hq => by rw [Array.getElem?_push, if_neg (Nat.ne_of_lt hq)]
  have e9 : rv g (h_n h) = .ref T.heap.size := by
    have e7 := P.1
    have e6 := P.2.1
    have e8 : g_b g + (h_n h - 8) = T.heap.size := by omega
    rw [rv_pos (by omega), ga_own (by omega), e8]
  have kk := k p lch e R s mi args below meth c (T.heap.push (arrV (g_A g 2) (h_l h a) (fun j => a_v g 2 (h_i h a j) (h_r h a j)))) locs (R.cells - 1 + 1) (R.slots - h_l h a + h_l h a) ls C ?_ ⟨Nat.le_trans S.1 (by omega), fun q q1 q2 => (o1 q (Nat.lt_of_lt_of_le q1 S.1)).trans (S.2.1 q q1 q2), S.2.2⟩ L
  · simp only [List.map_cons] at kk
    change W _ _ _ _ _ _ _ _ _ _ _ _ _ _ _ (F0 _ _ _ (rv g (h_n h) :: _)) at kk
    rw [e9] at kk
    obtain ⟨t9, a1, b1⟩ := kk _ rfl X'
    exact ⟨t9, st1 t9 a1, b1⟩
  · refine P.mk c1 z1 o1 (N := h_l h a) (by rw [arrV_size]; omega) (fun _ => Or.inr ?_) (fun q hq => ⟨u1_n hq, u1_n hq, fun j => if_neg hq, fun j => if_neg hq⟩) rfl rfl h1 h2
    have ek : h_k (h_cl h a) (h_n h) = 22 := (u1_s).trans ha
    have el : h_l (h_cl h a) (h_n h) = h_l h a := u1_s
    have ei : ∀ j, h_i (h_cl h a) (h_n h) j = h_i h a j := fun j => if_pos rfl
    have er : ∀ j, h_r (h_cl h a) (h_n h) j = h_r h a j := fun j => if_pos rfl
    refine ⟨by omega, by omega, ?_⟩
    simp only [ek, el, ei, er]
end V7

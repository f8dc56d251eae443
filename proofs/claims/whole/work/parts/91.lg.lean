/-- settling touches the plans' rows alone -/
theorem sLgN_q {M : MS} {p : Int} : ∀ n : Nat, OnlyF [10, 11] M (sLgN p M n).1 := by
  intro n
  induction n with
  | zero => exact OnlyF.rf
  | succ n ih =>
    show OnlyF [10, 11] M (sLg1 p (sLgN p M n) n).1
    unfold sLg1
    split
    · exact ih.st (by decide)
    · exact ih
theorem sLg_q {M : MS} {p : Int} : OnlyF [10, 11] M (sLg p M) := by
  unfold sLg
  split
  · exact (sLgN_q _).st (by decide)
  · exact OnlyF.rf
theorem sL1_q {M : MS} : ∀ n : Nat, OnlyF [10, 11] M (sL1 M n) := by
  intro n
  induction n with
  | zero => exact OnlyF.rf
  | succ n ih => exact ih.tr sLg_q
theorem sFl1_q {M : MS} {p q : Int} : OnlyF [10, 11] M (sFl1 p M q) := by
  unfold sFl1
  split
  · exact (OnlyF.rf.st (by decide)).st (by decide)
  · exact OnlyF.rf
theorem sFlN_q {M : MS} {p : Int} : ∀ n : Nat, OnlyF [10, 11] M (sFlN p M n) := by
  intro n
  induction n with
  | zero => exact OnlyF.rf
  | succ n ih => exact ih.tr sFl1_q
theorem sL2_q {M : MS} : ∀ n : Nat, OnlyF [10, 11] M (sL2 M n) := by
  intro n
  induction n with
  | zero => exact OnlyF.rf
  | succ n ih => exact ih.tr (sFlN_q _)
theorem sSettle_q {M : MS} : OnlyF [10, 11] M (sSettle M) := (sL1_q _).tr (sL2_q _)
/-- the counts of answers -/
def K9 (c : Int) (M M' : MS) : Prop := M' 25 0 ≤ M 25 0 + c ∧ M' 26 0 ≤ M 26 0 + c
theorem K9.of {fs : List Nat} {c : Int} {M M' : MS} (o : OnlyF fs M M') (h : 25 ∉ fs ∧ 26 ∉ fs) (hc : 0 ≤ c) : K9 c M M' := ⟨by rw [o 25 0 h.1]; omega, by rw [o 26 0 h.2]; omega⟩
theorem K9.se {c : Int} {M M' : MS} (k : K9 c M M') : K9 c M (sSettle M') := ⟨by rw [sSettle_q 25 0 (by decide)]; exact k.1, by rw [sSettle_q 26 0 (by decide)]; exact k.2⟩
theorem K9.th {M : MS} {z : Int} : K9 1 M (mset M 27 0 z) := K9.of (fs := [27]) (OnlyF.rf.st (by decide)) (by decide) (by decide)
theorem K9.th2 {M : MS} {y z : Int} : K9 1 M (mset (mset M 27 0 y) 27 0 z) := K9.of (fs := [27]) ((OnlyF.rf.st (by decide)).st (by decide)) (by decide) (by decide)
theorem K9.p {c : Int} {M M' : MS} {f : Nat} {k z : Int} (h : K9 c M M') (hf : f ≠ 25 ∧ f ≠ 26) : K9 c M (mset M' f k z) := ⟨by rw [mset_n (fun w => hf.1 w.symm)]; exact h.1, by rw [mset_n (fun w => hf.2 w.symm)]; exact h.2⟩
theorem K9.o {c : Int} {M M1 M2 : MS} {fs : List Nat} (h : K9 c M M1) (o : OnlyF fs M1 M2) (hf : 25 ∉ fs ∧ 26 ∉ fs) : K9 c M M2 := ⟨by rw [o 25 0 hf.1]; exact h.1, by rw [o 26 0 hf.2]; exact h.2⟩
section K
variable {M : MS}
theorem k_type (w : Int) : K9 1 M (s_type M w).2 := by
  unfold s_type
  split
  · exact K9.th
  · split
    · exact K9.th
    · exact (K9.th.p (by decide)).p (by decide)
theorem k_level (q : Int) : K9 1 M (s_level M q).2 := by
  unfold s_level
  split <;> exact K9.th
theorem k_kind (q : Int) : K9 1 M (s_kind M q).2 := by
  unfold s_kind
  split <;> exact K9.th
theorem k_wordAt (q i : Int) : K9 1 M (s_wordAt M q i).2 := by
  unfold s_wordAt
  (repeat' split) <;> first | exact K9.th | exact K9.th2
theorem k_hitAt (f : Nat) (i : Int) : K9 1 M (s_hitAt M f i).2 := by
  unfold s_hitAt
  split <;> exact K9.th
theorem k_held (p : Int) : K9 1 M (s_held M p).2 := by
  unfold s_held
  split <;> exact K9.th
theorem k_heldAt (q i : Int) : K9 1 M (s_heldAt M q i).2 := by
  unfold s_heldAt
  (repeat' split) <;> first | exact K9.th | exact K9.th2
theorem k_lacks (p : Int) : K9 1 M (s_lacks M p).2 := by
  unfold s_lacks
  (repeat' split) <;> exact K9.th
theorem k_size (p : Int) : K9 1 M (s_size M p).2 := by
  unfold s_size
  split <;> exact K9.th
theorem k_stateOf (p : Int) : K9 1 M (s_stateOf M p).2 := by
  unfold s_stateOf
  split <;> exact K9.th
theorem k_questionAt (q i : Int) : K9 1 M (s_questionAt M q i).2 := by
  unfold s_questionAt
  (repeat' split) <;> first | exact K9.th | exact K9.th2
theorem k_nextWeek : K9 1 M (s_nextWeek M).2 := by
  unfold s_nextWeek
  split
  · exact K9.th
  · exact (K9.th.p (by decide)).se
theorem sCpN_q : ∀ n : Nat, OnlyF [1] M (sCpN M n) := by
  intro n
  induction n with
  | zero => exact OnlyF.rf
  | succ n ih => exact ih.st (by decide)
theorem sGrN_q {fr a : Int} : ∀ n : Nat, OnlyF [4] M (sGrN M fr a n) := by
  intro n
  induction n with
  | zero => exact OnlyF.rf
  | succ n ih =>
    unfold sGrN
    split
    · exact ih.st (by decide)
    · exact ih
theorem sCqN_q {p : Int} : ∀ n : Nat, OnlyF [16] M (sCqN M p n) := by
  intro n
  induction n with
  | zero => exact OnlyF.rf
  | succ n ih => exact ih.st (by decide)
theorem sPrN_q {s : Int} : ∀ n : Nat, OnlyF [5] M (sPrN M s n) := by
  intro n
  induction n with
  | zero => exact OnlyF.rf
  | succ n ih => exact ih.st (by decide)
theorem k_add (l : Int) : K9 1 M (s_add M l).2 := by
  unfold s_add
  (repeat' split) <;> first | exact K9.th | exact (((((((K9.th.o (sCpN_q _) (by decide)).p (by decide)).p (by decide)).p (by decide)).p (by decide)).p (by decide)).p (by decide)).se
theorem k_twin (a b : Int) : K9 1 M (s_twin M a b).2 := by
  unfold s_twin
  (repeat' split) <;> first | exact K9.th | exact (K9.th.o (sGrN_q _) (by decide)).se
theorem k_plan (w kd n : Int) : K9 1 M (s_plan M w kd n).2 := by
  unfold s_plan
  (repeat' split) <;> first | exact K9.th | exact ((((K9.th.p (by decide)).p (by decide)).p (by decide)).p (by decide)).se
theorem k_drop (p : Int) : K9 1 M (s_drop M p).2 := by
  unfold s_drop
  (repeat' split) <;> first | exact K9.th | exact (K9.th.p (by decide)).se
theorem k_cancel (p : Int) : K9 1 M (s_cancel M p).2 := by
  unfold s_cancel
  (repeat' split) <;> first | exact K9.th | exact K9.th2 | exact (K9.th.p (by decide)).se
theorem k_print : K9 1 M (s_print M).2 := by
  unfold s_print
  (repeat' split) <;> first | exact K9.th | exact ((K9.th.p (by decide)).o (sPrN_q _) (by decide)).se
theorem K9.made {c : Int} {M M' : MS} {z : Int} (k : K9 c M M') : K9 c M (sMade M' z) := ((k.p (by decide)).p (by decide)).p (by decide)
theorem k_quizOf (p : Int) : K9 1 M (s_quizOf M p).2 := by
  unfold s_quizOf
  (repeat' split) <;> first | exact K9.th | exact ((K9.th.o (sCqN_q _) (by decide)).p (by decide)).made.se
theorem sDr_q {f : Nat} (hf : f = 16 ∨ f = 30) {o sd e m : Int} : ∀ n : Nat, K9 1 M (sDr f o (sT M 0) sd e m n).1 := by
  intro n
  induction n with
  | zero => exact K9.th
  | succ n ih =>
    show K9 1 M (sDr1 f o (sT M 0 20 0) e m (sDr f o (sT M 0) sd e m n) n).1
    unfold sDr1
    (repeat' split) <;> first | exact ih | exact ih.p (by omega)
theorem k_quiz (sd e m n : Int) : K9 1 M (s_quiz M sd e m n).2 := by
  unfold s_quiz
  split
  · exact K9.th
  · split
    · exact (sDr_q (Or.inr rfl) _).p (by decide)
    · split
      · exact (sDr_q (Or.inl rfl) _).p (by decide)
      · exact (sDr_q (Or.inl rfl) _).made.se
theorem k_answer (s i : Int) (b : Prop) : K9 1 M (s_answer M s i b).2 := by
  unfold s_answer
  (repeat' split) <;> first | exact K9.th | exact K9.th2 | skip
  refine K9.se ⟨?_, ?_⟩
  · show M 25 0 + 1 ≤ _
    omega
  · show M 26 0 + pI b ≤ _
    unfold pI
    split <;> omega
theorem sPut_q {c : Int} : OnlyF [18, 28] M (sPut M c) := (OnlyF.rf.st (by decide)).st (by decide)
theorem sPutN_q {M : MS} {c : Int} : OnlyF [18, 28] M (sPutN M c) := by
  unfold sPutN
  split
  · exact sPut_q.tr sPut_q
  · exact sPut_q
theorem sTxN_q {M : MS} {s : Int} : ∀ n : Nat, OnlyF [18, 28] M (sTxN M s n) := by
  intro n
  induction n with
  | zero => exact OnlyF.rf
  | succ n ih =>
    unfold sTxN
    split
    · exact (ih.tr sPut_q).tr sPutN_q
    · exact ih.tr sPutN_q
theorem k_textOf (s i : Int) : K9 1 M (s_textOf M s i).2 := by
  have h : K9 1 M (sTx M s) := (K9.th.p (f := 28) (k := 0) (z := 0) (by decide)).o ((sPutN_q.tr sPut_q).tr (sTxN_q _)) (by decide)
  unfold s_textOf
  (repeat' split) <;> first | exact K9.th | exact h.p (by decide)
theorem k_search : K9 1 M (s_search M).2 := by
  have h := (sSearchN_o (M := mset (sT M 0) 21 0 0) mset_s (M 20 0).toNat).1
  unfold s_search
  split
  · exact K9.th
  · exact (K9.th.p (by decide)).o h (by decide)
end K
/-- what the law keeps -/
def LW (h : AH) (c : Int) : Prop := ∃ (D M : MS) (A : AD) (N U : Nat), DM D M ∧ DR h A D N U ∧ MR h M ∧ OW h ∧ (D 8 0 ≤ c ∧ D 9 0 ≤ c) ∧ (N : Int) ≤ 3200 + 4 * c ∧ (U : Int) ≤ 100000 + 200 * c
theorem nd1 {a : String} : ∀ (n n' : Nat) (e : String), [a][n]? = some e → [a][n']? = some e → n = n' := by
  intro n n' e h h'
  rcases n with _ | n <;> rcases n' with _ | n' <;> simp at h h' ⊢
theorem nd2 {a b : String} (ab : a ≠ b) : ∀ (n n' : Nat) (e : String), [a, b][n]? = some e → [a, b][n']? = some e → n = n' := by
  intro n n' e h h'
  rcases n with _ | _ | n <;> rcases n' with _ | _ | n' <;> simp at h h' ⊢
  · exact ab (h.trans h'.symm)
  · exact ab (h'.trans h.symm)
theorem nd3 {a b c : String} (ab : a ≠ b) (ac : a ≠ c) (bc : b ≠ c) : ∀ (n n' : Nat) (e : String), [a, b, c][n]? = some e → [a, b, c][n']? = some e → n = n' := by
  intro n n' e h h'
  rcases n with _ | _ | _ | n <;> rcases n' with _ | _ | _ | n' <;> simp at h h' ⊢
  · exact ab (h.trans h'.symm)
  · exact ac (h.trans h'.symm)
  · exact ab (h'.trans h.symm)
  · exact bc (h.trans h'.symm)
  · exact ac (h'.trans h.symm)
  · exact bc (h'.trans h.symm)
theorem AG.hx {es : List String} {x : Res × MS} {y : Int × MS} (a : AG es x y) : HX x es := by
  rcases a.2 with ⟨a, -⟩ | ⟨n, e, a, b, -⟩
  · exact Or.inl ⟨_, a⟩
  · exact Or.inr ⟨n, e, a, b⟩
/-- what both sides answer is the same -/
theorem cmpL {es : List String} {x : Res × MS} {y : Int × MS} {h1 : AH} {z : Int} (hl : es.length ≤ 3) (nd : ∀ (n n' : Nat) (e : String), es[n]? = some e → es[n']? = some e → n = n') (a : AG es x y) (q : (z = 0 ∧ ∃ v, x.1 = rI v ∧ h_i h1 39 0 = (Int32.ofInt v).toInt64.toInt) ∨ ∃ (n : Nat) (e : String), es[n]? = some e ∧ x.1 = .inr e ∧ z = n + 1) : z = y.2 27 0 ∧ (0 ≤ z ∧ z ≤ 3) ∧ (z = 0 → h_i h1 39 0 = (Int32.ofInt y.1).toInt64.toInt) := by
  rcases a.2 with ⟨a1, a2⟩ | ⟨n, e, a1, a2, a3⟩
  · rcases q with ⟨rfl, v, q1, q2⟩ | ⟨n, e, -, q1, -⟩
    · rw [a1] at q1
      have : y.1 = v := by
        injection q1 with q1
        injection q1 with q1
        injection q1 with q1
      rw [this]
      exact ⟨a2.symm, by decide, fun _ => q2⟩
    · rw [a1] at q1
      cases q1
  · rcases q with ⟨rfl, v, q1, q2⟩ | ⟨n', e', q0, q1, rfl⟩
    · rw [a2] at q1
      cases q1
    · rw [a2] at q1
      cases q1
      have := nd n n' _ a1 q0
      subst this
      have hn := (List.getElem?_eq_some_iff.mp a1).1
      exact ⟨a3.symm, by omega, fun w => by omega⟩

section SW
variable {g : GP} {m : MT} {d : Nat} {Q : Res → AH → Prop} {h : AH} {pc : Nat} {lc st : List AV}
/-- the script -/
theorem V_slen (hd : decode m.2.1 pc = .ok (.arraylength, 1)) (k : V g m d Q h (pc + 1) lc (xI (g_l g : Int) :: st)) : V g m d Q h pc lc (xR 5 :: st) := by
  intro p lch e R s mi args below meth c H locs cells slots ls C P S L
  have kk := k p lch e R s mi args below meth c H locs cells slots ls C P S L
  have F := C.2.2.2.2.2.2.2.2.2.2.2.2.1
  have hb := C.2.2.2.2.2.2.2.2.2.2.2.1
  obtain ⟨x1, x2, -⟩ := F.2.2.2.2.2.1
  change W _ _ _ _ _ _ _ _ _ _ _ _ _ _ _ (F0 _ _ _ (rv g 5 :: _))
  rw [rv_pos (by omega), show g_a g 5 = g_s g 5 from rfl]
  refine va_slen C.1 C.2.1 x1 (by omega) (by show ¬ (g_b g ≤ g_s g 5); omega) S hd ?_
  have e9 : Int32.ofNat (g_l g) = Int32.ofInt (g_l g : Int) := (Int32.ofInt_eq_ofNat).symm
  rw [e9]
  exact kk
theorem V_sld {j : Nat} {z : Int} (hd : decode m.2.1 pc = .ok (.iaload, 1)) (hz : z = (j : Int)) (hj : j < g_l g) (hb9 : g_l g ≤ 2147483647) (k : V g m d Q h (pc + 1) lc (xI (g_x g j).toInt :: st)) : V g m d Q h pc lc (xI z :: xR 5 :: st) := by
  intro p lch e R s mi args below meth c H locs cells slots ls C P S L
  have kk := k p lch e R s mi args below meth c H locs cells slots ls C P S L
  have F := C.2.2.2.2.2.2.2.2.2.2.2.2.1
  have hb := C.2.2.2.2.2.2.2.2.2.2.2.1
  obtain ⟨x1, x2, -⟩ := F.2.2.2.2.2.1
  obtain ⟨h1, h2⟩ := i32_in hz hj hb9
  change W _ _ _ _ _ _ _ _ _ _ _ _ _ _ _ (F0 _ _ _ (Value.int (Int32.ofInt z) :: rv g 5 :: _))
  rw [rv_pos (by omega), show g_a g 5 = g_s g 5 from rfl]
  refine va_sld C.1 C.2.1 x1 (by omega) (by show ¬ (g_b g ≤ g_s g 5); omega) S h1 hd ?_
  rw [h2]
  have e9 : g_x g j = Int32.ofInt (g_x g j).toInt := by rw [Int32.ofInt_toInt]
  have kk : W _ _ _ _ _ _ _ _ _ _ _ _ _ _ _ (F0 _ _ _ (Value.int (Int32.ofInt (g_x g j).toInt) :: _)) := kk
  rw [← e9] at kk
  exact kk
theorem V_tblO {z dflt lo hi : Int} {offs : Array Int} {len tgt : Nat} (hd : decode m.2.1 pc = .ok (.tableswitch dflt lo hi offs, len)) (hz : -2147483648 ≤ z ∧ z ≤ 2147483647) (h9 : z < lo ∨ hi < z) (ht : (pc : Int) + dflt = (tgt : Int)) (k : V g m d Q h tgt lc st) : V g m d Q h pc lc (xI z :: st) := by
  intro p lch e R s mi args below meth c H locs cells slots ls C P S L
  exact lv_tableOut C.1 C.2.1 hd (by rw [i32_i hz]; exact h9) ht (k p lch e R s mi args below meth c H locs cells slots ls C P S L)
theorem V_tblI {z dflt lo hi : Int} {offs : Array Int} {len tgt : Nat} {off : Int} (hd : decode m.2.1 pc = .ok (.tableswitch dflt lo hi offs, len)) (hz : -2147483648 ≤ z ∧ z ≤ 2147483647) (h1 : lo ≤ z) (h2 : z ≤ hi) (ho : offs[(z - lo).toNat]? = some off) (ht : (pc : Int) + off = (tgt : Int)) (k : V g m d Q h tgt lc st) : V g m d Q h pc lc (xI z :: st) := by
  intro p lch e R s mi args below meth c H locs cells slots ls C P S L
  exact lv_tableIn C.1 C.2.1 hd (by rw [i32_i hz]; omega) (by rw [i32_i hz]; omega) (by rw [i32_i hz]; exact ho) ht (k p lch e R s mi args below meth c H locs cells slots ls C P S L)
end SW
theorem i32_63 {w : Int32} : ∃ z : Int, (0 ≤ z ∧ z ≤ 63) ∧ Int32.ofInt w.toInt &&& Int32.ofInt 63 = Int32.ofInt z := by
  refine ⟨(w.toUInt32.toNat % 64 : Nat), by omega, ?_⟩
  rw [Int32.ofInt_toInt]
  have e1 : w = Int32.ofInt (w.toUInt32.toNat : Int) := by
    rw [Int32.ofInt_eq_ofNat]
    apply Int32.toBitVec_inj.mp
    rw [Int32.toBitVec_ofNat']
    show w.toBitVec = BitVec.ofNat 32 w.toBitVec.toNat
    rw [BitVec.ofNat_toNat, BitVec.setWidth_eq]
  rw [show (Int32.ofInt 63 : Int32) = Int32.ofInt ((63 : Nat) : Int) from rfl]
  conv => lhs; rw [e1]
  rw [i32_and, show (63 : Nat) = 2 ^ 6 - 1 by decide, Nat.and_two_pow_sub_one_eq_mod]
/-- the answers that are no whole numbers -/
def HF (x : Res × MS) : Prop := (∃ f : UInt32, x.1 = .inl (some (xV (.float f))) ∧ vf_n32 f) ∨ x.1 = .inr eAE
def HD9 (x : Res × MS) : Prop := (∃ f : UInt64, x.1 = .inl (some (xV (.double f))) ∧ vf_n64 f) ∨ x.1 = .inr eAE
def QF (h0 : AH) (N U : Nat) (x : Res × MS) : Res → AH → Prop := fun r h' => (∃ A', DR h' A' x.2 (N + 4) (U + 200)) ∧ FO h0 h' ∧ ∃ z : Int, r = .inl (some (xI z)) ∧ ((z = 0 ∧ ∃ y : UInt64, (x.1 = .inl (some (xV (.double y))) ∨ ∃ f, x.1 = .inl (some (xV (.float f))) ∧ y = FP.f2d f) ∧ h_i h' 40 0 = (y.toNat : Int)) ∨ (x.1 = .inr eAE ∧ z = 1))
theorem T_L_rightShare (g : GP) {h : AH} {N U : Nat} {x : Res × MS} (ho : OW h) (h8 : h_k h 8 = 9) (hx : HF x) (hT : Tr g m_X3_rightShare 8 [xR 8] h (Qp h N U x)) : TrH g m_L_rightShare 14 [xR 8, xR 40] h (QF h N U x) := by
  refine TrH.ofV (by decide) (fun v hv => by simp only [List.mem_cons, List.not_mem_nil, or_false] at hv; rcases hv with rfl | rfl <;> first | rfl | exact cat_R) (Nat.le_of_ble_eq_true rfl) ?_
  change V g m_L_rightShare 14 _ h 0 [xR 8, xR 40, xU] []
  refine V_aload_n dL_rightShare_0 rfl ?_
  refine V_iconst dL_rightShare_1 ?_
  refine V_aload_n dL_rightShare_2 rfl ?_
  refine V_cC (as := []) dL_rightShare_3 c_RL_110 (by decide) rfl (Nat.le_of_ble_eq_true rfl) h8 hT (fun E h1 q => ?_) (fun v h1 q => ?_)
  · obtain ⟨q1, q2, q3⟩ := q
    rcases hx with ⟨v, hv, -⟩ | hv
    · rw [hv] at q1; cases q1
    · rw [hv] at q1; cases q1
      refine ⟨[], (0, 8, 11, 114), [], _, rfl, (fun z hz => nomatch hz), ⟨by decide, by decide⟩, by decide, e_RL_114, by simp [z_cast], fun q => ?_⟩
      refine V_astore_nX (lc' := [_, _, _]) dL_rightShare_11 (by decide) rfl ?_
      refine V_iconst dL_rightShare_12 ?_
      refine V_iret dL_rightShare_13 rfl ?_
      exact ⟨q2, FO.of q3, 1, rfl, Or.inr ⟨hv, rfl⟩⟩
  · obtain ⟨q1, q2, q3⟩ := q
    rcases hx with ⟨v9, hv, hf⟩ | hv
    · rw [hv] at q1; cases q1
      have k9 : h_k h1 40 = 26 := (q3 40 (by decide) (by decide)).1.trans ho.2.2.1
      have l9 : h_l h1 40 = 1 := (q3 40 (by decide) (by decide)).2.1.trans ho.2.2.2
      refine V_f2d dL_rightShare_6 (f2d_ok hf) ?_
      refine V_dast (j := 0) dL_rightShare_7 k9 rfl (by rw [l9]; decide) (by rw [l9]; decide) ?_
      refine V_goto (tgt := 14) dL_rightShare_8 (by decide) ?_
      refine V_iconst dL_rightShare_14 ?_
      refine V_iret dL_rightShare_15 rfl ?_
      exact ⟨DR.o4 q2, (FO.of q3).si4, 0, rfl, Or.inl ⟨rfl, _, Or.inr ⟨_, hv, rfl⟩, by rw [hsi_at, if_pos ⟨rfl, rfl⟩]⟩⟩
    · rw [hv] at q1; cases q1
theorem T_L_meanLevel (g : GP) {h : AH} {N U : Nat} {x : Res × MS} (ho : OW h) (h8 : h_k h 8 = 9) (hx : HD9 x) (hT : Tr g m_X3_meanLevel 8 [xR 8] h (Qp h N U x)) : TrH g m_L_meanLevel 14 [xR 8, xR 40] h (QF h N U x) := by
  refine TrH.ofV (by decide) (fun v hv => by simp only [List.mem_cons, List.not_mem_nil, or_false] at hv; rcases hv with rfl | rfl <;> first | rfl | exact cat_R) (Nat.le_of_ble_eq_true rfl) ?_
  change V g m_L_meanLevel 14 _ h 0 [xR 8, xR 40, xU] []
  refine V_aload_n dL_meanLevel_0 rfl ?_
  refine V_iconst dL_meanLevel_1 ?_
  refine V_aload_n dL_meanLevel_2 rfl ?_
  refine V_cC (as := []) dL_meanLevel_3 c_RL_116 (by decide) rfl (Nat.le_of_ble_eq_true rfl) h8 hT (fun E h1 q => ?_) (fun v h1 q => ?_)
  · obtain ⟨q1, q2, q3⟩ := q
    rcases hx with ⟨v, hv, -⟩ | hv
    · rw [hv] at q1; cases q1
    · rw [hv] at q1; cases q1
      refine ⟨[], (0, 7, 10, 114), [], _, rfl, (fun z hz => nomatch hz), ⟨by decide, by decide⟩, by decide, e_RL_114, by simp [z_cast], fun q => ?_⟩
      refine V_astore_nX (lc' := [_, _, _]) dL_meanLevel_10 (by decide) rfl ?_
      refine V_iconst dL_meanLevel_11 ?_
      refine V_iret dL_meanLevel_12 rfl ?_
      exact ⟨q2, FO.of q3, 1, rfl, Or.inr ⟨hv, rfl⟩⟩
  · obtain ⟨q1, q2, q3⟩ := q
    rcases hx with ⟨v9, hv, hf⟩ | hv
    · rw [hv] at q1; cases q1
      have k9 : h_k h1 40 = 26 := (q3 40 (by decide) (by decide)).1.trans ho.2.2.1
      have l9 : h_l h1 40 = 1 := (q3 40 (by decide) (by decide)).2.1.trans ho.2.2.2
      refine V_dast (j := 0) dL_meanLevel_6 k9 rfl (by rw [l9]; decide) (by rw [l9]; decide) ?_
      refine V_goto (tgt := 13) dL_meanLevel_7 (by decide) ?_
      refine V_iconst dL_meanLevel_13 ?_
      refine V_iret dL_meanLevel_14 rfl ?_
      exact ⟨DR.o4 q2, (FO.of q3).si4, 0, rfl, Or.inl ⟨rfl, _, Or.inl hv, by rw [hsi_at, if_pos ⟨rfl, rfl⟩]⟩⟩
    · rw [hv] at q1; cases q1

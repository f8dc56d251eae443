theorem lf_w {q k : Int} (h : 0 ≤ k ∧ k < 6) : lf 40 (6 * q + k) = (1, q, k.toNat) := by
  show (1, (6 * q + k) / 6, ((6 * q + k) % 6).toNat) = _
  rw [show (6 * q + k) / 6 = q by omega, show (6 * q + k) % 6 = k by omega]
theorem lf_r {q k : Int} (h : 0 ≤ k ∧ k < 30) : lf 42 (30 * q + k) = (2, q, k.toNat) := by
  show (2, (30 * q + k) / 30, ((30 * q + k) % 30).toNat) = _
  rw [show (30 * q + k) / 30 = q by omega, show (30 * q + k) % 30 = k by omega]
theorem lf_m {q k : Int} (h : 0 ≤ k ∧ k < 27) : lf 61 (27 * q + k) = (5, q, k.toNat) := by
  show (5, (27 * q + k) / 27, ((27 * q + k) % 27).toNat) = _
  rw [show (27 * q + k) / 27 = q by omega, show (27 * q + k) % 27 = k by omega]
theorem vF_w {D : MS} {q k : Int} (h : 0 ≤ k ∧ k < 6) (hq : 0 ≤ q ∧ q < D 90 0) (hk : k < D 41 q) : vF D 40 (6 * q + k) := by
  have e1 : (6 * q + k) / 6 = q := by omega
  have e2 : (6 * q + k) % 6 = k := by omega
  unfold vF
  rw [e1, e2]
  omega
theorem vF_r {D : MS} {q k : Int} (h : 0 ≤ k ∧ k < 30) (hq : 0 ≤ q ∧ q < D 90 0) : vF D 42 (30 * q + k) := by
  unfold vF
  omega
theorem vF_m {D : MS} {q k : Int} (h : 0 ≤ k ∧ k < 27) (hq : 0 ≤ q ∧ q < D 92 0) (hk : k < D 62 q) : vF D 61 (27 * q + k) := by
  have e1 : (27 * q + k) / 27 = q := by omega
  have e2 : (27 * q + k) % 27 = k := by omega
  unfold vF
  rw [e1, e2]
  omega
theorem dST.rf {D : MS} : dST D D := ⟨rfl, rfl, rfl, fun _ => rfl, fun _ => rfl⟩
theorem dST.tr {D D' D'' : MS} (a : dST D D') (b : dST D' D'') : dST D D'' := ⟨b.1.trans a.1, b.2.1.trans a.2.1, b.2.2.1.trans a.2.2.1, fun k => (b.2.2.2.1 k).trans (a.2.2.2.1 k), fun k => (b.2.2.2.2 k).trans (a.2.2.2.2 k)⟩
theorem dST.st {D D' : MS} {F : Nat} {k z : Int} (a : dST D D') (h : F ≠ 41 ∧ F ≠ 62 ∧ F < 90) : dST D (mset D' F k z) := a.tr (dST.set h)
theorem dST.of {D D' : MS} {L : List Nat} (h : OnlyF L D D') (n : (90 ∉ L ∧ 91 ∉ L) ∧ 92 ∉ L ∧ 41 ∉ L ∧ 62 ∉ L) : dST D D' := ⟨h _ _ n.1.1, h _ _ n.1.2, h _ _ n.2.1, fun _ => h _ _ n.2.2.1, fun _ => h _ _ n.2.2.2⟩
def dAd (D : MS) (l z : Int) : MS := mset (mset D 71 (40 * l + D 70 l) z) 70 l (D 70 l + 1)
def dRm (D : MS) (l i : Int) : MS := fun f k => if f = 70 ∧ k = l then D 70 l - 1 else if f = 71 ∧ 40 * l + i ≤ k ∧ k < 40 * l + 39 then D 71 (k + 1) else D f k
def dIn (D : MS) (l i z : Int) : MS := fun f k => if f = 70 ∧ k = l then D 70 l + 1 else if f = 71 ∧ k = 40 * l + i then z else if f = 71 ∧ 40 * l + i < k ∧ k < 40 * l + 40 then D 71 (k - 1) else D f k
theorem dAd_o {D : MS} {l z : Int} : OnlyF [70, 71] D (dAd D l z) := (OnlyF.rf.st (by decide)).st (by decide)
theorem dRm_o {D : MS} {l i : Int} : OnlyF [70, 71] D (dRm D l i) := by
  intro f k h
  unfold dRm
  rw [if_neg (fun e => h (by rw [e.1]; decide)), if_neg (fun e => h (by rw [e.1]; decide))]
theorem dIn_o {D : MS} {l i z : Int} : OnlyF [70, 71] D (dIn D l i z) := by
  intro f k h
  unfold dIn
  rw [if_neg (fun e => h (by rw [e.1]; decide)), if_neg (fun e => h (by rw [e.1]; decide)), if_neg (fun e => h (by rw [e.1]; decide))]
section D3
variable {g : GP} {m m' : MT} {d d' : Nat} {Q Q' : Res → AH → Prop} {h h0 : AH} {pc : Nat} {lc lc' st as : List AV} {A : AD} {D : MS} {N U : Nat}
/-- a call of the developers': what it answers, what it leaves -/
def Qd (h0 : AH) (A : AD) (N U : Nat) (v : Option AV) (D1 : MS) : Res → AH → Prop := fun r h' => r = .inl v ∧ DR h' A D1 N U ∧ FD h0 h'
def TD (g : GP) (m : MT) (d : Nat) (as : List AV) (A : AD) (N U : Nat) (D : MS) (v : Option AV) (D1 : MS) : Prop := ∀ h, DR h A D N U → Tr g m d as h (Qd h A N U v D1)
theorem TD.of {v : Option AV} {D1 : MS} (hpl : plainName m.1.cls = true) (hh : m.2.2.2.2 = []) (hc : ∀ v ∈ as, (∃ z, v = xI z) ∨ ∃ n, v = xR n) (hn : as.length ≤ m.2.2.1) (k : ∀ h0 h, DR h A D N U → FD h0 h → V g m d (Qd h0 A N U v D1) h 0 (l_0 m.2.2.1 as) []) : TD g m d as A N U D v D1 := by
  intro h hM
  refine Tr.ofV hpl hh (fun w hw => ?_) hn (k h h hM FD.rf)
  rcases hc w hw with ⟨z, rfl⟩ | ⟨z, rfl⟩
  · rfl
  · exact cat_R
theorem dret {D1 : MS} {z z1 : Int} (hM : DR h A D N U) (hF : FD h0 h) (e : z = z1) (e2 : D = D1) : Qd h0 A N U (some (xI z1)) D1 (.inl (some (xI z))) h := by
  subst e; subst e2
  exact ⟨rfl, hM, hF⟩
theorem dretV {D1 : MS} (hM : DR h A D N U) (hF : FD h0 h) (e2 : D = D1) : Qd h0 A N U none D1 (.inl none) h := by
  subst e2
  exact ⟨rfl, hM, hF⟩
theorem V_dg {idx ci j f F a : Nat} {i t w : Int} (hd : decode m.2.1 pc = .ok (.getfield idx, 3)) (hf : FlG m.1.cls idx ci j) (hr : c_R ci j = false) (hk : knd f = ci + 1) (hl : lf F t = (f, i, j)) (ha : A f i = a) (hM : DR h A D N U) (hv : vF D F t) (hw : D F t = w) (k : -2147483648 ≤ w ∧ w ≤ 2147483647 → V g m d Q h (pc + 3) lc (xI w :: st)) : V g m d Q h pc lc (xR a :: st) := by
  subst ha; subst hw
  have e := hM.ld hv
  have e2 := hM.kd (vF_p hv).1
  rw [hl] at e e2
  exact V_getIv hd hf hr (e2.trans hk) e (k (hM.rg F t))
theorem V_dgr {idx ci j f a b : Nat} {i : Int} (hd : decode m.2.1 pc = .ok (.getfield idx, 3)) (hf : FlG m.1.cls idx ci j) (hr : c_R ci j = true) (hk : knd f = ci + 1) (ha : A f i = a) (hM : DR h A D N U) (hv : vA D f i) (hb : h_r h a j = b) (k : V g m d Q h (pc + 3) lc (xR b :: st)) : V g m d Q h pc lc (xR a :: st) := by
  subst ha
  exact V_getRv hd hf hr ((hM.kd hv).trans hk) hb k
theorem V_dp {idx ci j f F a : Nat} {i t w : Int} (hd : decode m.2.1 pc = .ok (.putfield idx, 3)) (hf : Fl m.1.cls idx ci j .int false) (hr : c_R ci j = false) (hk : knd f = ci + 1) (hl : lf F t = (f, i, j)) (ha : A f i = a) (hM : DR h A D N U) (hF : FD h0 h) (hv : vF D F t) (hw : -2147483648 ≤ w ∧ w ≤ 2147483647) (k : ∀ h, DR h A (mset D F t w) N U → FD h0 h → V g m d Q h (pc + 3) lc st) : V g m d Q h pc lc (xI w :: xR a :: st) := by
  subst ha
  have e2 := hM.kd (vF_p hv).1
  have H2 := hM.si hv hw
  have F2 := hM.fd hF hv (z := w)
  rw [hl] at e2 H2 F2
  exact V_putI hd hf hr (e2.trans hk) (k _ H2 F2)
theorem V_dpz {idx ci j f F a : Nat} {i t w : Int} (hd : decode m.2.1 pc = .ok (.putfield idx, 3)) (hf : Fl m.1.cls idx ci j .boolean false) (hr : c_R ci j = false) (hk : knd f = ci + 1) (hl : lf F t = (f, i, j)) (ha : A f i = a) (hM : DR h A D N U) (hF : FD h0 h) (hv : vF D F t) (hw : w = 0 ∨ w = 1) (k : ∀ h, DR h A (mset D F t w) N U → FD h0 h → V g m d Q h (pc + 3) lc st) : V g m d Q h pc lc (xI w :: xR a :: st) := by
  subst ha
  have e2 := hM.kd (vF_p hv).1
  have H2 := hM.si hv (z := w) (by omega)
  have F2 := hM.fd hF hv (z := w)
  rw [hl] at e2 H2 F2
  exact V_putZ hd hf hw hr (e2.trans hk) (k _ H2 F2)
theorem V_dpc {idx ci j f F a : Nat} {i t w : Int} (hd : decode m.2.1 pc = .ok (.putfield idx, 3)) (hf : Fl m.1.cls idx ci j .char false) (hr : c_R ci j = false) (hk : knd f = ci + 1) (hl : lf F t = (f, i, j)) (ha : A f i = a) (hM : DR h A D N U) (hF : FD h0 h) (hv : vF D F t) (hw : 0 ≤ w ∧ w < 65536) (k : ∀ h, DR h A (mset D F t w) N U → FD h0 h → V g m d Q h (pc + 3) lc st) : V g m d Q h pc lc (xI w :: xR a :: st) := by
  subst ha
  have e2 := hM.kd (vF_p hv).1
  have H2 := hM.si hv (z := w) (by omega)
  have F2 := hM.fd hF hv (z := w)
  rw [hl] at e2 H2 F2
  exact V_putC hd hf hw hr (e2.trans hk) (k _ H2 F2)
theorem V_dai {f F a : Nat} {i t w z n : Int} (hd : decode m.2.1 pc = .ok (.iaload, 1)) (hk : knd f = 22) (hl : lf F t = (f, i, z.toNat)) (ha : A f i = a) (hM : DR h A D N U) (hv : vF D F t) (hn : (h_l h a : Int) = n) (hz : 0 ≤ z ∧ z < n) (hn2 : n ≤ 1000) (hw : D F t = w) (k : -2147483648 ≤ w ∧ w ≤ 2147483647 → V g m d Q h (pc + 1) lc (xI w :: st)) : V g m d Q h pc lc (xI z :: xR a :: st) := by
  subst ha; subst hw
  have e := hM.ld hv
  have e2 := hM.kd (vF_p hv).1
  rw [hl] at e e2
  exact V_ialdv (j := z.toNat) hd (e2.trans hk) (by omega) (by omega) (by omega) e (k (hM.rg F t))
theorem V_daz {f F a : Nat} {i t w z n : Int} (hd : decode m.2.1 pc = .ok (.baload, 1)) (hk : knd f = 23) (hl : lf F t = (f, i, z.toNat)) (ha : A f i = a) (hM : DR h A D N U) (hv : vF D F t) (hn : (h_l h a : Int) = n) (hz : 0 ≤ z ∧ z < n) (hn2 : n ≤ 1000) (hw : D F t = w) (k : -2147483648 ≤ w ∧ w ≤ 2147483647 → V g m d Q h (pc + 1) lc (xI w :: st)) : V g m d Q h pc lc (xI z :: xR a :: st) := by
  subst ha; subst hw
  have e := hM.ld hv
  have e2 := hM.kd (vF_p hv).1
  rw [hl] at e e2
  exact V_zaldv (j := z.toNat) hd (e2.trans hk) (by omega) (by omega) (by omega) e (k (hM.rg F t))
theorem V_dais {f F a : Nat} {i t w z n : Int} (hd : decode m.2.1 pc = .ok (.iastore, 1)) (hk : knd f = 22) (hl : lf F t = (f, i, z.toNat)) (ha : A f i = a) (hM : DR h A D N U) (hF : FD h0 h) (hv : vF D F t) (hn : (h_l h a : Int) = n) (hz : 0 ≤ z ∧ z < n) (hn2 : n ≤ 1000) (hw : -2147483648 ≤ w ∧ w ≤ 2147483647) (k : ∀ h, DR h A (mset D F t w) N U → FD h0 h → V g m d Q h (pc + 1) lc st) : V g m d Q h pc lc (xI w :: xI z :: xR a :: st) := by
  subst ha
  have e2 := hM.kd (vF_p hv).1
  have H2 := hM.si hv hw
  have F2 := hM.fd hF hv (z := w)
  rw [hl] at e2 H2 F2
  exact V_iast (j := z.toNat) hd (e2.trans hk) (by omega) (by omega) (by omega) (k _ H2 F2)
theorem V_dazs {f F a : Nat} {i t w z n : Int} (hd : decode m.2.1 pc = .ok (.bastore, 1)) (hk : knd f = 23) (hl : lf F t = (f, i, z.toNat)) (ha : A f i = a) (hM : DR h A D N U) (hF : FD h0 h) (hv : vF D F t) (hn : (h_l h a : Int) = n) (hz : 0 ≤ z ∧ z < n) (hn2 : n ≤ 1000) (hw : w = 0 ∨ w = 1) (k : ∀ h, DR h A (mset D F t w) N U → FD h0 h → V g m d Q h (pc + 1) lc st) : V g m d Q h pc lc (xI w :: xI z :: xR a :: st) := by
  subst ha
  have e2 := hM.kd (vF_p hv).1
  have H2 := hM.si hv (z := w) (by omega)
  have F2 := hM.fd hF hv (z := w)
  rw [hl] at e2 H2 F2
  exact V_zast (j := z.toNat) hd (e2.trans hk) (by omega) (by omega) (by omega) hw (k _ H2 F2)
theorem V_dSz {idx a : Nat} {l w : Int} (hd : decode m.2.1 pc = .ok (.invokevirtual idx, 3)) (hw : CaV m.1.cls idx m_Jx4a65c_size_8abf5 0 4) (hh : m.2.2.2.2 = []) (hd' : 2 ≤ d) (hst : st.length ≤ 4) (ha : A 6 l = a) (hM : DR h A D N U) (hv : vL D l) (hv2 : D 70 l = w) (k : 0 ≤ w ∧ w ≤ 40 → V g m d Q h (pc + 3) lc (xI w :: st)) : V g m d Q h pc lc (xR a :: st) := by
  subst ha; subst hv2
  obtain ⟨b, C, L⟩ := hM.li hv
  exact V_pV (as := []) hd hw hh hd' rfl hst L.1 (T_Jx4a65c_size_8abf5 g (A 6 l) (D 70 l) b C _ L) (k (hM.le hv).1)
theorem V_dEm {idx a : Nat} {l : Int} (hd : decode m.2.1 pc = .ok (.invokevirtual idx, 3)) (hw : CaV m.1.cls idx m_Jx4a65c_isEmpty_aae02 0 4) (hh : m.2.2.2.2 = []) (hd' : 2 ≤ d) (hst : st.length ≤ 4) (ha : A 6 l = a) (hM : DR h A D N U) (hv : vL D l) (k : V g m d Q h (pc + 3) lc (xI (pI (D 70 l = 0)) :: st)) : V g m d Q h pc lc (xR a :: st) := by
  subst ha
  obtain ⟨b, C, L⟩ := hM.li hv
  exact V_pV (as := []) hd hw hh hd' rfl hst L.1 (T_Jx4a65c_isEmpty_aae02 g (A 6 l) (D 70 l) b C _ L) k
theorem V_dGt {idx a e : Nat} {l z : Int} (hd : decode m.2.1 pc = .ok (.invokevirtual idx, 3)) (hw : CaV m.1.cls idx m_Jx4a65c_get_915e3 1 4) (hh : m.2.2.2.2 = []) (hd' : 4 ≤ d) (hst : st.length ≤ 4) (ha : A 6 l = a) (hM : DR h A D N U) (hv : vL D l) (hz : 0 ≤ z ∧ z < D 70 l) (he : eA A l (D 71 (40 * l + z)) = e) (k : vE D l (D 71 (40 * l + z)) → V g m d Q h (pc + 3) lc (xR e :: st)) : V g m d Q h pc lc (xI z :: xR a :: st) := by
  subst ha; subst he
  obtain ⟨b, C, L⟩ := hM.li hv
  have q := hM.le hv
  exact V_pV (as := [_]) hd hw hh hd' rfl hst L.1 (T_Jx4a65c_get_915e3 g (A 6 l) z (D 70 l) b C _ (by omega) L hz) (k (q.2 z hz.1 hz.2))
theorem eA_k {l z : Int} (hM : DR h A D N U) (hz : vE D l z) : h_k h (eA A l z) = 6 ∨ h_k h (eA A l z) = 7 ∨ h_k h (eA A l z) = 8 := by
  unfold vE at hz
  unfold eA
  by_cases e1 : l = 46
  · rw [if_pos e1] at hz ⊢
    left
    exact hM.kd (f := 3) (by unfold vA; omega)
  · rw [if_neg e1] at hz ⊢
    by_cases e2 : l = 47
    · rw [if_pos e2] at hz ⊢
      right; right
      exact hM.kd (f := 4) (by unfold vA; omega)
    · rw [if_neg e2] at hz ⊢
      right; left
      exact hM.kd (f := 0) (by unfold vA; omega)
theorem mset2 {D : MS} {f f' : Nat} {k k' z : Int} : mset D f k z f' k' = if f' = f ∧ k' = k then z else D f' k' := rfl
theorem dAd_r {D : MS} {l z : Int} (hR : ∀ f k, inR (D f k)) (hn : 0 ≤ D 70 l ∧ D 70 l ≤ 39) (hz : inR z) : ∀ f k, inR (dAd D l z f k) := by
  unfold dAd
  exact inR_set (inR_set hR hz) (by unfold inR; omega)
theorem inR_vE {l z : Int} (hM : DR h A D N U) (hz : vE D l z) : inR z := by
  obtain ⟨c1, c2, c3⟩ := hM.b.2.2.1
  unfold vE at hz
  unfold inR
  split at hz
  · omega
  · split at hz <;> omega
theorem V_dAd {idx a e : Nat} {l z : Int} (hd : decode m.2.1 pc = .ok (.invokevirtual idx, 3)) (hw : CaV m.1.cls idx m_Jx4a65c_add_9ea2d 1 4) (hh : m.2.2.2.2 = []) (hd' : 9 ≤ d) (hst : st.length ≤ 4) (ha : A 6 l = a) (he : eA A l z = e) (hM : DR h A D N U) (hF : FD h0 h) (hv : vL D l) (hn : D 70 l ≤ 39) (hz : vE D l z) (k : ∀ h, DR h A (dAd D l z) N U → FD h0 h → V g m d Q h (pc + 3) lc (xI 1 :: st)) : V g m d Q h pc lc (xR e :: xR a :: st) := by
  subst ha; subst he
  obtain ⟨b, C, L, hC, hE, key⟩ := hM.lst hv
  have hb := hM.b
  have hlt : ∀ q, h_k h q ≠ 0 → q ≠ h_n h := fun q hq => by have := hb.1 q hq; omega
  have hrm := hM.room
  have va : vA D 6 l := Or.inr (Or.inr (Or.inr (Or.inl ⟨rfl, hv⟩)))
  have hge := hM.ge va
  have hle := hM.le hv
  have hab := L.ab hge.1
  refine V_cV (as := [_]) hd hw hh hd' rfl hst L.1 (T_add1 g (A 6 l) (eA A l z) (D 70 l) b C _ L hC hn (eA_k hM hz) hE hlt (by omega) (by omega)) (fun _ _ z => nomatch z.1) (fun v9 h9 p9 => ?_)
  obtain ⟨p1, rfl⟩ := p9
  cases p1
  have e70 : dAd D l z 70 l = D 70 l + 1 := mset_s
  have e71 : ∀ k, dAd D l z 71 (40 * l + k) = if k = D 70 l then z else D 71 (40 * l + k) := by
    intro k
    show mset (mset D 71 (40 * l + D 70 l) z) 70 l (D 70 l + 1) 71 (40 * l + k) = _
    rw [mset_n (by decide), mset_f]
    by_cases e : k = D 70 l
    · rw [if_pos (by rw [e]), if_pos e]
    · rw [if_neg (by omega), if_neg e]
  obtain ⟨b2, C2, q1, q2⟩ := aH_ok (e := eA A l z) (E2 := fun k => eA A l (dAd D l z 71 (40 * l + k))) (L.mc (z := h_i h (A 6 l) 0 + 1)) (hlt _ (by rw [L.1]; decide)) (fun c0 => hlt _ (by rw [(L.2.2.2.2.2.1 c0).1]; decide)) hab hn hC (fun k a b => by show eA A l (dAd D l z 71 (40 * l + k)) = _; rw [e71, if_neg (by omega)]) (by show eA A l (dAd D l z 71 (40 * l + D 70 l)) = _; rw [e71, if_pos rfl])
  rw [← e70] at q2
  obtain ⟨r1, r2⟩ := key _ b2 C2 (dAd D l z) q1.mc q2 (by rw [e70]; omega) (fun k a b => by
    rw [e71]
    split
    · exact hz
    · exact hle.2 k a (by rw [e70] at b; omega)) (fun f k n1 n2 => by
      show mset (mset D 71 (40 * l + D 70 l) z) 70 l (D 70 l + 1) f k = _
      rw [mset2, if_neg n1, mset2, if_neg (fun w => n2 ⟨w.1, by omega, by omega⟩)]) (dAd_r hb.2.2.2.1 ⟨hle.1.1, hn⟩ (inR_vE hM hz))
  exact k _ r1 (r2 h0 hF)
theorem V_dIn {idx a e : Nat} {l i z : Int} (hd : decode m.2.1 pc = .ok (.invokevirtual idx, 3)) (hw : CaV m.1.cls idx m_Jx4a65c_add_7a177 2 4) (hh : m.2.2.2.2 = []) (hd' : 8 ≤ d) (hst : st.length ≤ 4) (ha : A 6 l = a) (he : eA A l z = e) (hM : DR h A D N U) (hF : FD h0 h) (hv : vL D l) (hn : D 70 l ≤ 39) (hi : 0 ≤ i ∧ i ≤ D 70 l) (hz : vE D l z) (k : ∀ h, DR h A (dIn D l i z) N U → FD h0 h → V g m d Q h (pc + 3) lc st) : V g m d Q h pc lc (xR e :: xI i :: xR a :: st) := by
  subst ha; subst he
  obtain ⟨b, C, L, hC, hE, key⟩ := hM.lst hv
  have hb := hM.b
  have hlt : ∀ q, h_k h q ≠ 0 → q ≠ h_n h := fun q hq => by have := hb.1 q hq; omega
  have hrm := hM.room
  have va : vA D 6 l := Or.inr (Or.inr (Or.inr (Or.inl ⟨rfl, hv⟩)))
  have hge := hM.ge va
  have hle := hM.le hv
  have hab := L.ab hge.1
  refine V_cV (as := [_, _]) hd hw hh hd' rfl hst L.1 (T_addI g (A 6 l) (eA A l z) i (D 70 l) b C _ L hC hn (eA_k hM hz) hE hlt (by omega) (by omega) hi) (fun _ _ z => nomatch z.1) (fun v9 h9 p9 => ?_)
  obtain ⟨p1, rfl⟩ := p9
  cases p1
  have e70 : dIn D l i z 70 l = D 70 l + 1 := if_pos ⟨rfl, rfl⟩
  have e71 : ∀ k, dIn D l i z 71 (40 * l + k) = if k = i then z else if i < k ∧ k < 40 then D 71 (40 * l + (k - 1)) else D 71 (40 * l + k) := by
    intro k
    unfold dIn
    rw [if_neg (by omega)]
    by_cases e : k = i
    · rw [if_pos ⟨rfl, by omega⟩, if_pos e]
    · rw [if_neg (by omega), if_neg e]
      by_cases e2 : i < k ∧ k < 40
      · rw [if_pos ⟨rfl, by omega, by omega⟩, if_pos e2]
        congr 1
        omega
      · rw [if_neg (by omega), if_neg e2]
  obtain ⟨b2, C2, q1, q2⟩ := iH_ok (e := eA A l z) (E2 := fun k => eA A l (dIn D l i z 71 (40 * l + k))) (L.mc (z := h_i h (A 6 l) 0 + 1)) (hlt _ (by rw [L.1]; decide)) (fun c0 => hlt _ (by rw [(L.2.2.2.2.2.1 c0).1]; decide)) hab hn hC hi
    (fun k a b => by show eA A l (dIn D l i z 71 (40 * l + k)) = _; rw [e71, if_neg (by omega), if_neg (by omega)]) (by show eA A l (dIn D l i z 71 (40 * l + i)) = _; rw [e71, if_pos rfl])
    (fun k a b => by show eA A l (dIn D l i z 71 (40 * l + (k + 1))) = _; rw [e71, if_neg (by omega), if_pos (by omega), show k + 1 - 1 = k by omega])
  rw [← e70] at q2
  obtain ⟨r1, r2⟩ := key _ b2 C2 (dIn D l i z) q1.mc q2 (by rw [e70]; omega) (fun k a b => by
    rw [e70] at b
    rw [e71]
    split
    · exact hz
    · split
      · exact hle.2 _ (by omega) (by omega)
      · exact hle.2 k a (by omega)) (fun f k n1 n2 => by
      unfold dIn
      rw [if_neg n1, if_neg (fun w => n2 ⟨w.1, by omega, by omega⟩), if_neg (fun w => n2 ⟨w.1, by omega, by omega⟩)]) (fun f k => by
      unfold dIn
      split
      · unfold inR; omega
      · split
        · exact inR_vE hM hz
        · split
          · exact hb.2.2.2.1 _ _
          · exact hb.2.2.2.1 _ _)
  exact k _ r1 (r2 h0 hF)
theorem V_dCl {idx a : Nat} {l : Int} (hd : decode m.2.1 pc = .ok (.invokevirtual idx, 3)) (hw : CaV m.1.cls idx m_Jx4a65c_clear_da8c8 0 4) (hh : m.2.2.2.2 = []) (hd' : 2 ≤ d) (hst : st.length ≤ 4) (ha : A 6 l = a) (hM : DR h A D N U) (hF : FD h0 h) (hv : vL D l) (k : ∀ h, DR h A (mset D 70 l 0) N U → FD h0 h → V g m d Q h (pc + 3) lc st) : V g m d Q h pc lc (xR a :: st) := by
  subst ha
  obtain ⟨b, C, L, hC, hE, key⟩ := hM.lst hv
  have hb := hM.b
  have va : vA D 6 l := Or.inr (Or.inr (Or.inr (Or.inl ⟨rfl, hv⟩)))
  have hge := hM.ge va
  have hab := L.ab hge.1
  have hle := hM.le hv
  refine V_cV (as := []) hd hw hh hd' rfl hst L.1 (T_clear g (A 6 l) (D 70 l) b C _ L) (fun _ _ z => nomatch z.1) (fun v9 h9 p9 => ?_)
  obtain ⟨p1, p2⟩ := p9
  cases p1
  have L2 := L.of (E' := fun k => eA A l (mset D 70 l 0 71 (40 * l + k))) p2 hab (by omega) (fun k hk => by omega)
  have e70 : mset D 70 l 0 70 l = 0 := mset_s
  rw [← e70] at L2
  obtain ⟨r1, r2⟩ := key _ b C (mset D 70 l 0) (LC.ofSt p2) L2 (by rw [e70]; omega) (fun k a b => by rw [e70] at b; omega) (fun f k n1 n2 => by rw [mset2, if_neg n1]) (inR_set hb.2.2.2.1 (by unfold inR; omega))
  exact k _ r1 (r2 h0 hF)
theorem V_dRm {idx a e : Nat} {l i : Int} (hd : decode m.2.1 pc = .ok (.invokevirtual idx, 3)) (hw : CaV m.1.cls idx m_Jx4a65c_remove_915e3 1 4) (hh : m.2.2.2.2 = []) (hd' : 4 ≤ d) (hst : st.length ≤ 4) (ha : A 6 l = a) (hM : DR h A D N U) (hF : FD h0 h) (hv : vL D l) (hi : 0 ≤ i ∧ i < D 70 l) (he : eA A l (D 71 (40 * l + i)) = e) (k : vE D l (D 71 (40 * l + i)) → ∀ h, DR h A (dRm D l i) N U → FD h0 h → V g m d Q h (pc + 3) lc (xR e :: st)) : V g m d Q h pc lc (xI i :: xR a :: st) := by
  subst ha; subst he
  obtain ⟨b, C, L, hC, hE, key⟩ := hM.lst hv
  have hb := hM.b
  have va : vA D 6 l := Or.inr (Or.inr (Or.inr (Or.inl ⟨rfl, hv⟩)))
  have hge := hM.ge va
  have hab := L.ab hge.1
  have hle := hM.le hv
  refine V_cV (as := [_]) hd hw hh hd' rfl hst L.1 (T_remove g (A 6 l) i (D 70 l) b C _ L hge.1 hi hE) (fun _ _ z => nomatch z.1) (fun v9 h9 p9 => ?_)
  obtain ⟨p1, p2, p3⟩ := p9
  cases p1
  have e70 : dRm D l i 70 l = D 70 l - 1 := if_pos ⟨rfl, rfl⟩
  have e71 : ∀ k, k < D 70 l - 1 → dRm D l i 71 (40 * l + k) = if k < i then D 71 (40 * l + k) else D 71 (40 * l + (k + 1)) := by
    intro k hk
    unfold dRm
    rw [if_neg (by omega)]
    by_cases e : k < i
    · rw [if_neg (by omega), if_pos e]
    · rw [if_pos ⟨rfl, by omega, by omega⟩, if_neg e]
      congr 1
      omega
  have L2 := L.of (E' := fun k => eA A l (dRm D l i 71 (40 * l + k))) p3 hab (by have := L.2.2.2.1; omega) (fun k hk => by
    have q := p2.2.2.2.2.2.2 k hk
    rw [q]
    show eRm _ i k = eA A l (dRm D l i 71 (40 * l + k))
    rw [e71 k hk]
    unfold eRm
    by_cases e : (k : Int) < i
    · rw [if_pos e, if_pos e]
    · rw [if_neg e, if_neg e])
  rw [← e70] at L2
  obtain ⟨r1, r2⟩ := key _ b C (dRm D l i) (LC.ofSt p3) L2 (by rw [e70]; omega) (fun k a b => by
    rw [e70] at b
    rw [e71 k b]
    split
    · exact hle.2 k a (by omega)
    · exact hle.2 _ (by omega) (by omega)) (fun f k n1 n2 => by
      unfold dRm
      rw [if_neg n1, if_neg (fun w => n2 ⟨w.1, by omega, by omega⟩)]) (fun f k => by
      unfold dRm
      split
      · unfold inR; omega
      · split
        · exact hb.2.2.2.1 _ _
        · exact hb.2.2.2.1 _ _)
  exact k (hle.2 i hi.1 hi.2) _ r1 (r2 h0 hF)
/-- a call -/
theorem V_dC {idx n ci a : Nat} {v : Option AV} {D1 : MS} (hd : decode m.2.1 pc = .ok (.invokevirtual idx, 3)) (hw : CaV m.1.cls idx m' n ci) (hh : m.2.2.2.2 = []) (hd' : d' + 1 ≤ d) (hn : as.length = n) (hst : st.length ≤ 4) (ha : h_k h a = ci + 1) (hM : DR h A D N U) (hF : FD h0 h) (hT : TD g m' d' (xR a :: as) A N U D v D1)
    (k : ∀ h, DR h A D1 N U → FD h0 h → V g m d Q h (pc + 3) lc (v.toList ++ st)) : V g m d Q h pc lc (as.reverse ++ xR a :: st) :=
  V_cV hd hw hh hd' hn hst ha (hT h hM) (fun _ _ z => nomatch z.1) (fun w h' z => by
    obtain ⟨z1, z2, z3⟩ := z
    cases z1
    exact k h' z2 (hF.tr z3))
theorem V_dS {idx n : Nat} {v : Option AV} {D1 : MS} (hd : decode m.2.1 pc = .ok (.invokestatic idx, 3)) (hw : CaS m.1.cls idx m' n) (hh : m.2.2.2.2 = []) (hd' : d' + 1 ≤ d) (hn : as.length = n) (hst : st.length ≤ 4) (hM : DR h A D N U) (hF : FD h0 h) (hT : TD g m' d' as A N U D v D1)
    (k : ∀ h, DR h A D1 N U → FD h0 h → V g m d Q h (pc + 3) lc (v.toList ++ st)) : V g m d Q h pc lc (as.reverse ++ st) :=
  V_cS hd hw hh hd' hn hst (hT h hM) (fun _ _ z => nomatch z.1) (fun w h' z => by
    obtain ⟨z1, z2, z3⟩ := z
    cases z1
    exact k h' z2 (hF.tr z3))
end D3

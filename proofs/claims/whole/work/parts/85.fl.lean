/-- numbers: what is no NaN -/
def fg (f : FP.Core.Fmt) : FP.Core.Datum → Prop
  | .nan => False
  | .inf _ => True
  | .fin _ c q => c < 2 ^ f.p ∧ q ≤ f.qmax
theorem fg_bound {f : FP.Core.Fmt} {s : Bool} {c : Nat} {q : Int} (h : c < 2 ^ f.p) : fg f (FP.Core.bound f s c q) := by
  unfold FP.Core.bound
  split
  · exact ⟨h, by assumption⟩
  · trivial
theorem fg_settle {f : FP.Core.Fmt} {s : Bool} {c : Nat} {q : Int} (h : f.tails < 2 ^ f.p) : fg f (FP.Core.settle f s c q) := by
  unfold FP.Core.settle
  split
  · exact fg_bound (by assumption)
  · exact fg_bound h
theorem fg_ratio {f : FP.Core.Fmt} {s : Bool} {n d : Nat} {e : Int} (h : f.tails < 2 ^ f.p) (hq : f.qmin ≤ f.qmax) : fg f (FP.Core.roundRatio f s n d e) := by
  unfold FP.Core.roundRatio
  split
  · exact ⟨by have : 0 < 2 ^ f.p := by exact Nat.pos_of_ne_zero (by simp)
              exact this, hq⟩
  · exact fg_settle h
theorem fg_round {f : FP.Core.Fmt} {d : FP.Core.Datum} (h : f.tails < 2 ^ f.p) (hq : f.qmin ≤ f.qmax) (hd : d ≠ .nan) : fg f (FP.Core.round f d) := by
  cases d with
  | nan => exact absurd rfl hd
  | inf s => trivial
  | fin s c q => exact fg_ratio h hq
theorem as32 {s : Bool} {e t : Nat} (h : e * 8388608 + t ≤ 2139095040) (ht : t < 8388608) : vf_n32 (UInt32.ofNat (FP.Core.assemble FP.Core.b32 s e t)) := by
  have e1 : FP.Core.assemble FP.Core.b32 s e t = (s.toNat * 256 + e) * 8388608 + t := rfl
  unfold vf_n32
  rw [e1, UInt32.le_iff_toNat_le, UInt32.toNat_and, UInt32.toNat_ofNat']
  show ((s.toNat * 256 + e) * 8388608 + t) % 2 ^ 32 &&& 2147483647 ≤ 2139095040
  rw [show (2147483647 : Nat) = 2 ^ 31 - 1 by decide, Nat.and_two_pow_sub_one_eq_mod]
  have := Bool.toNat_lt s
  omega
theorem as64 {s : Bool} {e t : Nat} (h : e * 4503599627370496 + t ≤ 9218868437227405312) (ht : t < 4503599627370496) : vf_n64 (UInt64.ofNat (FP.Core.assemble FP.Core.b64 s e t)) := by
  have e1 : FP.Core.assemble FP.Core.b64 s e t = (s.toNat * 2048 + e) * 4503599627370496 + t := rfl
  unfold vf_n64
  rw [e1, UInt64.le_iff_toNat_le, UInt64.toNat_and, UInt64.toNat_ofNat']
  show ((s.toNat * 2048 + e) * 4503599627370496 + t) % 2 ^ 64 &&& 9223372036854775807 ≤ 9218868437227405312
  rw [show (9223372036854775807 : Nat) = 2 ^ 63 - 1 by decide, Nat.and_two_pow_sub_one_eq_mod]
  have := Bool.toNat_lt s
  omega
theorem en32 {d : FP.Core.Datum} (h : fg FP.Core.b32 d) : vf_n32 (UInt32.ofNat (FP.Core.encode FP.Core.b32 d)) := by
  cases d with
  | nan => exact absurd h id
  | inf s => exact as32 (by decide) (by decide)
  | fin s c q =>
    obtain ⟨h1, h2⟩ := h
    have h1 : c < 16777216 := h1
    have h2 : q ≤ 104 := h2
    show vf_n32 (UInt32.ofNat (if c < 8388608 then FP.Core.assemble FP.Core.b32 s 0 c else FP.Core.assemble FP.Core.b32 s ((q - (-149)).toNat + 1) (c - 8388608)))
    split
    · exact as32 (by omega) (by omega)
    · exact as32 (by omega) (by omega)
theorem en64 {d : FP.Core.Datum} (h : fg FP.Core.b64 d) : vf_n64 (UInt64.ofNat (FP.Core.encode FP.Core.b64 d)) := by
  cases d with
  | nan => exact absurd h id
  | inf s => exact as64 (by decide) (by decide)
  | fin s c q =>
    obtain ⟨h1, h2⟩ := h
    have h1 : c < 9007199254740992 := h1
    have h2 : q ≤ 971 := h2
    show vf_n64 (UInt64.ofNat (if c < 4503599627370496 then FP.Core.assemble FP.Core.b64 s 0 c else FP.Core.assemble FP.Core.b64 s ((q - (-1074)).toNat + 1) (c - 4503599627370496)))
    split
    · exact as64 (by omega) (by omega)
    · exact as64 (by omega) (by omega)
theorem de32 {x : UInt32} (h : vf_n32 x) : FP.Core.decode FP.Core.b32 x.toNat ≠ .nan := by
  unfold vf_n32 at h
  rw [UInt32.le_iff_toNat_le, UInt32.toNat_and] at h
  have h : x.toNat &&& 2147483647 ≤ 2139095040 := h
  rw [show (2147483647 : Nat) = 2 ^ 31 - 1 by decide, Nat.and_two_pow_sub_one_eq_mod] at h
  have hx := x.toNat_lt
  have hE : FP.Core.fieldE FP.Core.b32 x.toNat = x.toNat / 8388608 % 256 := rfl
  have hT : FP.Core.fieldT FP.Core.b32 x.toNat = x.toNat % 8388608 := rfl
  have hz : FP.Core.b32.exps - 1 = 255 := rfl
  unfold FP.Core.decode
  rw [hE, hT, hz]
  split
  · rw [if_pos (by omega)]; exact fun w => by cases w
  · split <;> exact fun w => by cases w
theorem de64 {x : UInt64} (h : vf_n64 x) : FP.Core.decode FP.Core.b64 x.toNat ≠ .nan := by
  unfold vf_n64 at h
  rw [UInt64.le_iff_toNat_le, UInt64.toNat_and] at h
  have h : x.toNat &&& 9223372036854775807 ≤ 9218868437227405312 := h
  rw [show (9223372036854775807 : Nat) = 2 ^ 63 - 1 by decide, Nat.and_two_pow_sub_one_eq_mod] at h
  have hx := x.toNat_lt
  have hE : FP.Core.fieldE FP.Core.b64 x.toNat = x.toNat / 4503599627370496 % 2048 := rfl
  have hT : FP.Core.fieldT FP.Core.b64 x.toNat = x.toNat % 4503599627370496 := rfl
  have hz : FP.Core.b64.exps - 1 = 2047 := rfl
  unfold FP.Core.decode
  rw [hE, hT, hz]
  split
  · rw [if_pos (by omega)]; exact fun w => by cases w
  · split <;> exact fun w => by cases w
theorem f2d_ok {x : UInt32} (h : vf_n32 x) : vf_n64 (FP.f2d x) := by
  have hd := de32 h
  have e : FP.Core.fIsNaN x = false := by
    show decide (FP.Core.decode FP.Core.b32 x.toNat = .nan) = false
    exact decide_eq_false hd
  unfold FP.f2d
  rw [e]
  exact en64 (fg_round (by decide) (by decide) hd)
theorem ord_self {d : FP.Core.Datum} (h : d ≠ .nan) : FP.Core.order d d = some .eq := by
  have cs : ∀ a : Int, compare a a = .eq := fun a => by
    show compareOfLessAndEq a a = .eq
    unfold compareOfLessAndEq
    rw [if_neg (by omega), if_pos rfl]
  cases d with
  | nan => exact absurd rfl h
  | inf s => exact congrArg some (cs _)
  | fin s c q => exact congrArg some (cs _)
theorem dcmp_self {x : UInt64} (h : vf_n64 x) : FP.dcmp x x = some .eq := ord_self (de64 h)
def fz (f : FP.Core.Fmt) (n : Nat) : Option Nat := match FP.Core.decode f n with
  | .fin _ c _ => some c
  | _ => none
theorem fz_s {f : FP.Core.Fmt} {n c : Nat} (h : fz f n = some c) : ∃ s q, FP.Core.decode f n = .fin s c q := by
  unfold fz at h
  split at h
  · rename_i s c' q e
    cases h
    exact ⟨s, q, e⟩
  · cases h
theorem div32 {x y : UInt32} {c d : Nat} (hx : fz FP.Core.b32 x.toNat = some c) (hy : fz FP.Core.b32 y.toNat = some d) (hd : d ≠ 0) : vf_n32 (FP.fdiv x y) := by
  obtain ⟨s, q, e1⟩ := fz_s hx
  obtain ⟨t, r, e2⟩ := fz_s hy
  show vf_n32 (UInt32.ofNat (FP.Core.encode FP.Core.b32 (FP.Core.quotient FP.Core.b32 (FP.Core.decode FP.Core.b32 x.toNat) (FP.Core.decode FP.Core.b32 y.toNat))))
  rw [e1, e2]
  refine en32 ?_
  unfold FP.Core.quotient
  dsimp only
  rw [if_neg hd]
  exact fg_ratio (by decide) (by decide)
theorem div64 {x y : UInt64} {c d : Nat} (hx : fz FP.Core.b64 x.toNat = some c) (hy : fz FP.Core.b64 y.toNat = some d) (hd : d ≠ 0) : vf_n64 (FP.ddiv x y) := by
  obtain ⟨s, q, e1⟩ := fz_s hx
  obtain ⟨t, r, e2⟩ := fz_s hy
  show vf_n64 (UInt64.ofNat (FP.Core.encode FP.Core.b64 (FP.Core.quotient FP.Core.b64 (FP.Core.decode FP.Core.b64 x.toNat) (FP.Core.decode FP.Core.b64 y.toNat))))
  rw [e1, e2]
  refine en64 ?_
  unfold FP.Core.quotient
  dsimp only
  rw [if_neg hd]
  exact fg_ratio (by decide) (by decide)
def okF (n : Nat) : Bool := match fz FP.Core.b32 (FP.i2f (Int32.ofInt n)).toNat with
  | some c => c != 0 || n == 0
  | none => false
def okD (n : Nat) : Bool := match fz FP.Core.b64 (FP.i2d (Int32.ofInt n)).toNat with
  | some c => c != 0 || n == 0
  | none => false
theorem okF_all : (List.range 601).all okF = true := by decide +kernel
theorem okD_all : (List.range 4041).all okD = true := by decide +kernel
theorem i2f_ok {z : Int} (h : 0 ≤ z ∧ z ≤ 600) : ∃ c, fz FP.Core.b32 (FP.i2f (Int32.ofInt z)).toNat = some c ∧ (z ≠ 0 → c ≠ 0) := by
  have h1 := List.all_eq_true.mp okF_all z.toNat (List.mem_range.mpr (by omega))
  unfold okF at h1
  rw [ntc h.1] at h1
  cases e : fz FP.Core.b32 (FP.i2f (Int32.ofInt z)).toNat with
  | none => rw [e] at h1; cases h1
  | some c =>
    rw [e] at h1
    refine ⟨c, rfl, fun hz hc => ?_⟩
    subst hc
    have h1 : ((0 : Nat) != 0 || z.toNat == 0) = true := h1
    simp at h1
    omega
theorem i2d_ok {z : Int} (h : 0 ≤ z ∧ z ≤ 4040) : ∃ c, fz FP.Core.b64 (FP.i2d (Int32.ofInt z)).toNat = some c ∧ (z ≠ 0 → c ≠ 0) := by
  have h1 := List.all_eq_true.mp okD_all z.toNat (List.mem_range.mpr (by omega))
  unfold okD at h1
  rw [ntc h.1] at h1
  cases e : fz FP.Core.b64 (FP.i2d (Int32.ofInt z)).toNat with
  | none => rw [e] at h1; cases h1
  | some c =>
    rw [e] at h1
    refine ⟨c, rfl, fun hz hc => ?_⟩
    subst hc
    have h1 : ((0 : Nat) != 0 || z.toNat == 0) = true := h1
    simp at h1
    omega
theorem l2d_i {z : Int} (h : 0 ≤ z ∧ z ≤ 4040) : FP.l2d (Int64.ofInt z) = FP.i2d (Int32.ofInt z) := by
  show UInt64.ofNat (FP.Core.fromInt FP.Core.b64 (Int64.ofInt z).toInt) = UInt64.ofNat (FP.Core.fromInt FP.Core.b64 (Int32.ofInt z).toInt)
  rw [i32_i (by omega), Int64.toInt_ofInt_of_le (by omega) (by omega)]
abbrev fSh (r a : Int) : UInt32 := FP.fdiv (FP.i2f (Int32.ofInt r)) (FP.i2f (Int32.ofInt a))
abbrev dMn (s n : Int) : UInt64 := FP.ddiv (FP.i2d (Int32.ofInt s)) (FP.i2d (Int32.ofInt n))
theorem fSh_ok {r a : Int} (hr : 0 ≤ r ∧ r ≤ 600) (ha : 0 < a ∧ a ≤ 600) : vf_n32 (fSh r a) := by
  obtain ⟨c, h1, -⟩ := i2f_ok hr
  obtain ⟨d, h2, h3⟩ := i2f_ok (z := a) (by omega)
  exact div32 h1 h2 (h3 (by omega))
theorem dMn_ok {s n : Int} (hs : 0 ≤ s ∧ s ≤ 4040) (hn : 0 < n ∧ n ≤ 40) : vf_n64 (dMn s n) := by
  obtain ⟨c, h1, -⟩ := i2d_ok hs
  obtain ⟨d, h2, h3⟩ := i2d_ok (z := n) (by omega)
  exact div64 h1 h2 (h3 (by omega))

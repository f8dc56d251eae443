/-- all that is made is in its list; entries of the lists of all -/
def IDn (D : MS) : Prop := (D 90 0 = D 70 45 ∧ D 91 0 = D 70 46 ∧ D 92 0 = D 70 47) ∧ (∀ k, 0 ≤ k → k < D 90 0 → D 71 (40 * 45 + k) = k ∧ D 20 k = k) ∧ (∀ k, 0 ≤ k → k < D 91 0 → D 71 (40 * 46 + k) = k) ∧ (∀ k, 0 ≤ k → k < D 92 0 → D 71 (40 * 47 + k) = k) ∧ (D 90 0 ≤ 40 ∧ D 91 0 ≤ 12 ∧ D 92 0 ≤ 30) ∧ (∀ p, 0 ≤ p → p < 12 → D 70 (3 + p) ≤ 9) ∧ ∀ s, 0 ≤ s → s < 30 → D 70 (15 + s) ≤ 27
def IDb (D : MS) : Prop := ((0 ≤ D 1 0 ∧ D 1 0 ≤ 6) ∧ (0 ≤ D 6 0 ∧ D 6 0 ≤ 999) ∧ (D 7 0 = 0 ∨ D 7 0 = 1) ∧ (0 ≤ D 8 0 ∧ D 8 0 ≤ 1000000) ∧ (0 ≤ D 9 0 ∧ D 9 0 ≤ 1000000) ∧ (0 ≤ D 80 0 ∧ D 80 0 ≤ 98)) ∧ ∀ k, (0 ≤ D 0 k ∧ D 0 k ≤ 29) ∧ (0 ≤ D 22 k ∧ D 22 k ≤ 100) ∧ (0 ≤ D 23 k ∧ D 23 k ≤ 100) ∧ (0 ≤ D 25 k ∧ D 25 k ≤ 30) ∧ (0 ≤ D 26 k ∧ D 26 k ≤ 39) ∧ (0 ≤ D 27 k ∧ D 27 k ≤ 66) ∧ (D 28 k = 0 ∨ D 28 k = 1) ∧ (-1 ≤ D 30 k ∧ D 30 k ≤ 999) ∧ (0 ≤ D 40 k ∧ D 40 k ≤ 29) ∧ (0 ≤ D 41 k ∧ D 41 k ≤ 6) ∧ (D 42 k = 0 ∨ D 42 k = 1) ∧ (0 ≤ D 50 k ∧ D 50 k ≤ 999) ∧ (0 ≤ D 51 k ∧ D 51 k ≤ 65535) ∧ (0 ≤ D 52 k ∧ D 52 k ≤ 9) ∧ (D 54 k = 0 ∨ D 54 k = 1) ∧ (0 ≤ D 60 k ∧ D 60 k ≤ 65535) ∧ (D 61 k = 0 ∨ D 61 k = 1) ∧ (0 ≤ D 62 k ∧ D 62 k ≤ 27) ∧ (0 ≤ D 70 k ∧ D 70 k ≤ 40)
def ID (D : MS) : Prop := IDn D ∧ IDb D
theorem ID.a1 {D : MS} (h : ID D) : (0 ≤ D 1 0 ∧ D 1 0 ≤ 6) := h.2.1.1
theorem ID.a6 {D : MS} (h : ID D) : (0 ≤ D 6 0 ∧ D 6 0 ≤ 999) := h.2.1.2.1
theorem ID.a7 {D : MS} (h : ID D) : (D 7 0 = 0 ∨ D 7 0 = 1) := h.2.1.2.2.1
theorem ID.a8 {D : MS} (h : ID D) : (0 ≤ D 8 0 ∧ D 8 0 ≤ 1000000) := h.2.1.2.2.2.1
theorem ID.a9 {D : MS} (h : ID D) : (0 ≤ D 9 0 ∧ D 9 0 ≤ 1000000) := h.2.1.2.2.2.2.1
theorem ID.a80 {D : MS} (h : ID D) : (0 ≤ D 80 0 ∧ D 80 0 ≤ 98) := h.2.1.2.2.2.2.2
theorem ID.a0 {D : MS} (h : ID D) (k : Int) : (0 ≤ D 0 k ∧ D 0 k ≤ 29) := (h.2.2 k).1
theorem ID.a22 {D : MS} (h : ID D) (k : Int) : (0 ≤ D 22 k ∧ D 22 k ≤ 100) := (h.2.2 k).2.1
theorem ID.a23 {D : MS} (h : ID D) (k : Int) : (0 ≤ D 23 k ∧ D 23 k ≤ 100) := (h.2.2 k).2.2.1
theorem ID.a25 {D : MS} (h : ID D) (k : Int) : (0 ≤ D 25 k ∧ D 25 k ≤ 30) := (h.2.2 k).2.2.2.1
theorem ID.a26 {D : MS} (h : ID D) (k : Int) : (0 ≤ D 26 k ∧ D 26 k ≤ 39) := (h.2.2 k).2.2.2.2.1
theorem ID.a27 {D : MS} (h : ID D) (k : Int) : (0 ≤ D 27 k ∧ D 27 k ≤ 66) := (h.2.2 k).2.2.2.2.2.1
theorem ID.a28 {D : MS} (h : ID D) (k : Int) : (D 28 k = 0 ∨ D 28 k = 1) := (h.2.2 k).2.2.2.2.2.2.1
theorem ID.a30 {D : MS} (h : ID D) (k : Int) : (-1 ≤ D 30 k ∧ D 30 k ≤ 999) := (h.2.2 k).2.2.2.2.2.2.2.1
theorem ID.a40 {D : MS} (h : ID D) (k : Int) : (0 ≤ D 40 k ∧ D 40 k ≤ 29) := (h.2.2 k).2.2.2.2.2.2.2.2.1
theorem ID.a41 {D : MS} (h : ID D) (k : Int) : (0 ≤ D 41 k ∧ D 41 k ≤ 6) := (h.2.2 k).2.2.2.2.2.2.2.2.2.1
theorem ID.a42 {D : MS} (h : ID D) (k : Int) : (D 42 k = 0 ∨ D 42 k = 1) := (h.2.2 k).2.2.2.2.2.2.2.2.2.2.1
theorem ID.a50 {D : MS} (h : ID D) (k : Int) : (0 ≤ D 50 k ∧ D 50 k ≤ 999) := (h.2.2 k).2.2.2.2.2.2.2.2.2.2.2.1
theorem ID.a51 {D : MS} (h : ID D) (k : Int) : (0 ≤ D 51 k ∧ D 51 k ≤ 65535) := (h.2.2 k).2.2.2.2.2.2.2.2.2.2.2.2.1
theorem ID.a52 {D : MS} (h : ID D) (k : Int) : (0 ≤ D 52 k ∧ D 52 k ≤ 9) := (h.2.2 k).2.2.2.2.2.2.2.2.2.2.2.2.2.1
theorem ID.a54 {D : MS} (h : ID D) (k : Int) : (D 54 k = 0 ∨ D 54 k = 1) := (h.2.2 k).2.2.2.2.2.2.2.2.2.2.2.2.2.2.1
theorem ID.a60 {D : MS} (h : ID D) (k : Int) : (0 ≤ D 60 k ∧ D 60 k ≤ 65535) := (h.2.2 k).2.2.2.2.2.2.2.2.2.2.2.2.2.2.2.1
theorem ID.a61 {D : MS} (h : ID D) (k : Int) : (D 61 k = 0 ∨ D 61 k = 1) := (h.2.2 k).2.2.2.2.2.2.2.2.2.2.2.2.2.2.2.2.1
theorem ID.a62 {D : MS} (h : ID D) (k : Int) : (0 ≤ D 62 k ∧ D 62 k ≤ 27) := (h.2.2 k).2.2.2.2.2.2.2.2.2.2.2.2.2.2.2.2.2.1
theorem ID.a70 {D : MS} (h : ID D) (k : Int) : (0 ≤ D 70 k ∧ D 70 k ≤ 40) := (h.2.2 k).2.2.2.2.2.2.2.2.2.2.2.2.2.2.2.2.2.2
theorem ID.n {D : MS} (h : ID D) : D 90 0 = D 70 45 ∧ D 91 0 = D 70 46 ∧ D 92 0 = D 70 47 := h.1.1
theorem ID.q {D : MS} (h : ID D) {k : Int} (a : 0 ≤ k ∧ k < D 90 0) : D 71 (40 * 45 + k) = k := (h.1.2.1 k a.1 a.2).1
theorem ID.a20 {D : MS} (h : ID D) {k : Int} (a : 0 ≤ k ∧ k < D 90 0) : D 20 k = k := (h.1.2.1 k a.1 a.2).2
theorem ID.p {D : MS} (h : ID D) {k : Int} (a : 0 ≤ k ∧ k < D 91 0) : D 71 (40 * 46 + k) = k := h.1.2.2.1 k a.1 a.2
theorem ID.s {D : MS} (h : ID D) {k : Int} (a : 0 ≤ k ∧ k < D 92 0) : D 71 (40 * 47 + k) = k := h.1.2.2.2.1 k a.1 a.2
theorem ID.c {D : MS} (h : ID D) : D 90 0 ≤ 40 ∧ D 91 0 ≤ 12 ∧ D 92 0 ≤ 30 := h.1.2.2.2.2.1
theorem ID.l9 {D : MS} (h : ID D) {p : Int} (a : 0 ≤ p ∧ p < 12) : D 70 (3 + p) ≤ 9 := h.1.2.2.2.2.2.1 p a.1 a.2
theorem ID.l27 {D : MS} (h : ID D) {p : Int} (a : 0 ≤ p ∧ p < 30) : D 70 (15 + p) ≤ 27 := h.1.2.2.2.2.2.2 p a.1 a.2
theorem IDn.set {D : MS} (h : IDn D) {F : Nat} {k z : Int} (hF : F ≠ 20 ∧ F ≠ 70 ∧ F ≠ 71 ∧ F < 90) : IDn (mset D F k z) := by
  have e20 : ∀ q, mset D F k z 20 q = D 20 q := fun _ => mset_n (by omega)
  have e70 : ∀ q, mset D F k z 70 q = D 70 q := fun _ => mset_n (by omega)
  have e71 : ∀ q, mset D F k z 71 q = D 71 q := fun _ => mset_n (by omega)
  have e90 : mset D F k z 90 0 = D 90 0 := mset_n (by omega)
  have e91 : mset D F k z 91 0 = D 91 0 := mset_n (by omega)
  have e92 : mset D F k z 92 0 = D 92 0 := mset_n (by omega)
  unfold IDn
  simp only [e20, e70, e71, e90, e91, e92]
  exact h
theorem ID.s1 {D : MS} (h : ID D) {z : Int} (hz : (0 ≤ z ∧ z ≤ 6)) : ID (mset D 1 0 z) := ⟨h.1.set (by decide), ⟨hz, h.a6, h.a7, h.a8, h.a9, h.a80⟩, h.2.2⟩
theorem ID.s6 {D : MS} (h : ID D) {z : Int} (hz : (0 ≤ z ∧ z ≤ 999)) : ID (mset D 6 0 z) := ⟨h.1.set (by decide), ⟨h.a1, hz, h.a7, h.a8, h.a9, h.a80⟩, h.2.2⟩
theorem ID.s7 {D : MS} (h : ID D) {z : Int} (hz : (z = 0 ∨ z = 1)) : ID (mset D 7 0 z) := ⟨h.1.set (by decide), ⟨h.a1, h.a6, hz, h.a8, h.a9, h.a80⟩, h.2.2⟩
theorem ID.s8 {D : MS} (h : ID D) {z : Int} (hz : (0 ≤ z ∧ z ≤ 1000000)) : ID (mset D 8 0 z) := ⟨h.1.set (by decide), ⟨h.a1, h.a6, h.a7, hz, h.a9, h.a80⟩, h.2.2⟩
theorem ID.s9 {D : MS} (h : ID D) {z : Int} (hz : (0 ≤ z ∧ z ≤ 1000000)) : ID (mset D 9 0 z) := ⟨h.1.set (by decide), ⟨h.a1, h.a6, h.a7, h.a8, hz, h.a80⟩, h.2.2⟩
theorem ID.s80 {D : MS} (h : ID D) {z : Int} (hz : (0 ≤ z ∧ z ≤ 98)) : ID (mset D 80 0 z) := ⟨h.1.set (by decide), ⟨h.a1, h.a6, h.a7, h.a8, h.a9, hz⟩, h.2.2⟩
theorem ID.s0 {D : MS} (h : ID D) {k z : Int} (hz : (0 ≤ z ∧ z ≤ 29)) : ID (mset D 0 k z) := by
  refine ⟨h.1.set (by decide), h.2.1, fun q => ⟨?_, h.a22 q, h.a23 q, h.a25 q, h.a26 q, h.a27 q, h.a28 q, h.a30 q, h.a40 q, h.a41 q, h.a42 q, h.a50 q, h.a51 q, h.a52 q, h.a54 q, h.a60 q, h.a61 q, h.a62 q, h.a70 q⟩⟩
  have e : mset D 0 k z 0 q = if q = k then z else D 0 q := mset_f
  rw [e]
  split
  · exact hz
  · exact h.a0 q
theorem ID.s22 {D : MS} (h : ID D) {k z : Int} (hz : (0 ≤ z ∧ z ≤ 100)) : ID (mset D 22 k z) := by
  refine ⟨h.1.set (by decide), h.2.1, fun q => ⟨h.a0 q, ?_, h.a23 q, h.a25 q, h.a26 q, h.a27 q, h.a28 q, h.a30 q, h.a40 q, h.a41 q, h.a42 q, h.a50 q, h.a51 q, h.a52 q, h.a54 q, h.a60 q, h.a61 q, h.a62 q, h.a70 q⟩⟩
  have e : mset D 22 k z 22 q = if q = k then z else D 22 q := mset_f
  rw [e]
  split
  · exact hz
  · exact h.a22 q
theorem ID.s23 {D : MS} (h : ID D) {k z : Int} (hz : (0 ≤ z ∧ z ≤ 100)) : ID (mset D 23 k z) := by
  refine ⟨h.1.set (by decide), h.2.1, fun q => ⟨h.a0 q, h.a22 q, ?_, h.a25 q, h.a26 q, h.a27 q, h.a28 q, h.a30 q, h.a40 q, h.a41 q, h.a42 q, h.a50 q, h.a51 q, h.a52 q, h.a54 q, h.a60 q, h.a61 q, h.a62 q, h.a70 q⟩⟩
  have e : mset D 23 k z 23 q = if q = k then z else D 23 q := mset_f
  rw [e]
  split
  · exact hz
  · exact h.a23 q
theorem ID.s25 {D : MS} (h : ID D) {k z : Int} (hz : (0 ≤ z ∧ z ≤ 30)) : ID (mset D 25 k z) := by
  refine ⟨h.1.set (by decide), h.2.1, fun q => ⟨h.a0 q, h.a22 q, h.a23 q, ?_, h.a26 q, h.a27 q, h.a28 q, h.a30 q, h.a40 q, h.a41 q, h.a42 q, h.a50 q, h.a51 q, h.a52 q, h.a54 q, h.a60 q, h.a61 q, h.a62 q, h.a70 q⟩⟩
  have e : mset D 25 k z 25 q = if q = k then z else D 25 q := mset_f
  rw [e]
  split
  · exact hz
  · exact h.a25 q
theorem ID.s26 {D : MS} (h : ID D) {k z : Int} (hz : (0 ≤ z ∧ z ≤ 39)) : ID (mset D 26 k z) := by
  refine ⟨h.1.set (by decide), h.2.1, fun q => ⟨h.a0 q, h.a22 q, h.a23 q, h.a25 q, ?_, h.a27 q, h.a28 q, h.a30 q, h.a40 q, h.a41 q, h.a42 q, h.a50 q, h.a51 q, h.a52 q, h.a54 q, h.a60 q, h.a61 q, h.a62 q, h.a70 q⟩⟩
  have e : mset D 26 k z 26 q = if q = k then z else D 26 q := mset_f
  rw [e]
  split
  · exact hz
  · exact h.a26 q
theorem ID.s27 {D : MS} (h : ID D) {k z : Int} (hz : (0 ≤ z ∧ z ≤ 66)) : ID (mset D 27 k z) := by
  refine ⟨h.1.set (by decide), h.2.1, fun q => ⟨h.a0 q, h.a22 q, h.a23 q, h.a25 q, h.a26 q, ?_, h.a28 q, h.a30 q, h.a40 q, h.a41 q, h.a42 q, h.a50 q, h.a51 q, h.a52 q, h.a54 q, h.a60 q, h.a61 q, h.a62 q, h.a70 q⟩⟩
  have e : mset D 27 k z 27 q = if q = k then z else D 27 q := mset_f
  rw [e]
  split
  · exact hz
  · exact h.a27 q
theorem ID.s28 {D : MS} (h : ID D) {k z : Int} (hz : (z = 0 ∨ z = 1)) : ID (mset D 28 k z) := by
  refine ⟨h.1.set (by decide), h.2.1, fun q => ⟨h.a0 q, h.a22 q, h.a23 q, h.a25 q, h.a26 q, h.a27 q, ?_, h.a30 q, h.a40 q, h.a41 q, h.a42 q, h.a50 q, h.a51 q, h.a52 q, h.a54 q, h.a60 q, h.a61 q, h.a62 q, h.a70 q⟩⟩
  have e : mset D 28 k z 28 q = if q = k then z else D 28 q := mset_f
  rw [e]
  split
  · exact hz
  · exact h.a28 q
theorem ID.s30 {D : MS} (h : ID D) {k z : Int} (hz : (-1 ≤ z ∧ z ≤ 999)) : ID (mset D 30 k z) := by
  refine ⟨h.1.set (by decide), h.2.1, fun q => ⟨h.a0 q, h.a22 q, h.a23 q, h.a25 q, h.a26 q, h.a27 q, h.a28 q, ?_, h.a40 q, h.a41 q, h.a42 q, h.a50 q, h.a51 q, h.a52 q, h.a54 q, h.a60 q, h.a61 q, h.a62 q, h.a70 q⟩⟩
  have e : mset D 30 k z 30 q = if q = k then z else D 30 q := mset_f
  rw [e]
  split
  · exact hz
  · exact h.a30 q
theorem ID.s40 {D : MS} (h : ID D) {k z : Int} (hz : (0 ≤ z ∧ z ≤ 29)) : ID (mset D 40 k z) := by
  refine ⟨h.1.set (by decide), h.2.1, fun q => ⟨h.a0 q, h.a22 q, h.a23 q, h.a25 q, h.a26 q, h.a27 q, h.a28 q, h.a30 q, ?_, h.a41 q, h.a42 q, h.a50 q, h.a51 q, h.a52 q, h.a54 q, h.a60 q, h.a61 q, h.a62 q, h.a70 q⟩⟩
  have e : mset D 40 k z 40 q = if q = k then z else D 40 q := mset_f
  rw [e]
  split
  · exact hz
  · exact h.a40 q
theorem ID.s41 {D : MS} (h : ID D) {k z : Int} (hz : (0 ≤ z ∧ z ≤ 6)) : ID (mset D 41 k z) := by
  refine ⟨h.1.set (by decide), h.2.1, fun q => ⟨h.a0 q, h.a22 q, h.a23 q, h.a25 q, h.a26 q, h.a27 q, h.a28 q, h.a30 q, h.a40 q, ?_, h.a42 q, h.a50 q, h.a51 q, h.a52 q, h.a54 q, h.a60 q, h.a61 q, h.a62 q, h.a70 q⟩⟩
  have e : mset D 41 k z 41 q = if q = k then z else D 41 q := mset_f
  rw [e]
  split
  · exact hz
  · exact h.a41 q
theorem ID.s42 {D : MS} (h : ID D) {k z : Int} (hz : (z = 0 ∨ z = 1)) : ID (mset D 42 k z) := by
  refine ⟨h.1.set (by decide), h.2.1, fun q => ⟨h.a0 q, h.a22 q, h.a23 q, h.a25 q, h.a26 q, h.a27 q, h.a28 q, h.a30 q, h.a40 q, h.a41 q, ?_, h.a50 q, h.a51 q, h.a52 q, h.a54 q, h.a60 q, h.a61 q, h.a62 q, h.a70 q⟩⟩
  have e : mset D 42 k z 42 q = if q = k then z else D 42 q := mset_f
  rw [e]
  split
  · exact hz
  · exact h.a42 q
theorem ID.s50 {D : MS} (h : ID D) {k z : Int} (hz : (0 ≤ z ∧ z ≤ 999)) : ID (mset D 50 k z) := by
  refine ⟨h.1.set (by decide), h.2.1, fun q => ⟨h.a0 q, h.a22 q, h.a23 q, h.a25 q, h.a26 q, h.a27 q, h.a28 q, h.a30 q, h.a40 q, h.a41 q, h.a42 q, ?_, h.a51 q, h.a52 q, h.a54 q, h.a60 q, h.a61 q, h.a62 q, h.a70 q⟩⟩
  have e : mset D 50 k z 50 q = if q = k then z else D 50 q := mset_f
  rw [e]
  split
  · exact hz
  · exact h.a50 q
theorem ID.s51 {D : MS} (h : ID D) {k z : Int} (hz : (0 ≤ z ∧ z ≤ 65535)) : ID (mset D 51 k z) := by
  refine ⟨h.1.set (by decide), h.2.1, fun q => ⟨h.a0 q, h.a22 q, h.a23 q, h.a25 q, h.a26 q, h.a27 q, h.a28 q, h.a30 q, h.a40 q, h.a41 q, h.a42 q, h.a50 q, ?_, h.a52 q, h.a54 q, h.a60 q, h.a61 q, h.a62 q, h.a70 q⟩⟩
  have e : mset D 51 k z 51 q = if q = k then z else D 51 q := mset_f
  rw [e]
  split
  · exact hz
  · exact h.a51 q
theorem ID.s52 {D : MS} (h : ID D) {k z : Int} (hz : (0 ≤ z ∧ z ≤ 9)) : ID (mset D 52 k z) := by
  refine ⟨h.1.set (by decide), h.2.1, fun q => ⟨h.a0 q, h.a22 q, h.a23 q, h.a25 q, h.a26 q, h.a27 q, h.a28 q, h.a30 q, h.a40 q, h.a41 q, h.a42 q, h.a50 q, h.a51 q, ?_, h.a54 q, h.a60 q, h.a61 q, h.a62 q, h.a70 q⟩⟩
  have e : mset D 52 k z 52 q = if q = k then z else D 52 q := mset_f
  rw [e]
  split
  · exact hz
  · exact h.a52 q
theorem ID.s54 {D : MS} (h : ID D) {k z : Int} (hz : (z = 0 ∨ z = 1)) : ID (mset D 54 k z) := by
  refine ⟨h.1.set (by decide), h.2.1, fun q => ⟨h.a0 q, h.a22 q, h.a23 q, h.a25 q, h.a26 q, h.a27 q, h.a28 q, h.a30 q, h.a40 q, h.a41 q, h.a42 q, h.a50 q, h.a51 q, h.a52 q, ?_, h.a60 q, h.a61 q, h.a62 q, h.a70 q⟩⟩
  have e : mset D 54 k z 54 q = if q = k then z else D 54 q := mset_f
  rw [e]
  split
  · exact hz
  · exact h.a54 q
theorem ID.s60 {D : MS} (h : ID D) {k z : Int} (hz : (0 ≤ z ∧ z ≤ 65535)) : ID (mset D 60 k z) := by
  refine ⟨h.1.set (by decide), h.2.1, fun q => ⟨h.a0 q, h.a22 q, h.a23 q, h.a25 q, h.a26 q, h.a27 q, h.a28 q, h.a30 q, h.a40 q, h.a41 q, h.a42 q, h.a50 q, h.a51 q, h.a52 q, h.a54 q, ?_, h.a61 q, h.a62 q, h.a70 q⟩⟩
  have e : mset D 60 k z 60 q = if q = k then z else D 60 q := mset_f
  rw [e]
  split
  · exact hz
  · exact h.a60 q
theorem ID.s61 {D : MS} (h : ID D) {k z : Int} (hz : (z = 0 ∨ z = 1)) : ID (mset D 61 k z) := by
  refine ⟨h.1.set (by decide), h.2.1, fun q => ⟨h.a0 q, h.a22 q, h.a23 q, h.a25 q, h.a26 q, h.a27 q, h.a28 q, h.a30 q, h.a40 q, h.a41 q, h.a42 q, h.a50 q, h.a51 q, h.a52 q, h.a54 q, h.a60 q, ?_, h.a62 q, h.a70 q⟩⟩
  have e : mset D 61 k z 61 q = if q = k then z else D 61 q := mset_f
  rw [e]
  split
  · exact hz
  · exact h.a61 q
theorem ID.s62 {D : MS} (h : ID D) {k z : Int} (hz : (0 ≤ z ∧ z ≤ 27)) : ID (mset D 62 k z) := by
  refine ⟨h.1.set (by decide), h.2.1, fun q => ⟨h.a0 q, h.a22 q, h.a23 q, h.a25 q, h.a26 q, h.a27 q, h.a28 q, h.a30 q, h.a40 q, h.a41 q, h.a42 q, h.a50 q, h.a51 q, h.a52 q, h.a54 q, h.a60 q, h.a61 q, ?_, h.a70 q⟩⟩
  have e : mset D 62 k z 62 q = if q = k then z else D 62 q := mset_f
  rw [e]
  split
  · exact hz
  · exact h.a62 q
theorem ID.s29 {D : MS} (h : ID D) {k z : Int} : ID (mset D 29 k z) := ⟨h.1.set (by decide), h.2⟩
theorem ID.s81 {D : MS} (h : ID D) {k z : Int} : ID (mset D 81 k z) := ⟨h.1.set (by decide), h.2⟩
/-- a list of questions has changed -/
theorem ID.lst {D D' : MS} (h : ID D) {l : Int} (hl : 0 ≤ l ∧ l < 45) (hD : ∀ f k, ¬ (f = 70 ∧ k = l) → ¬ (f = 71 ∧ 40 * l ≤ k ∧ k < 40 * l + 40) → D' f k = D f k) (hn : 0 ≤ D' 70 l ∧ D' 70 l ≤ 40) (h9 : 3 ≤ l → l < 15 → D' 70 l ≤ 9) (h27 : 15 ≤ l → D' 70 l ≤ 27) : ID D' := by
  have e : ∀ f k, f ≠ 70 → f ≠ 71 → D' f k = D f k := fun f k a b => hD f k (fun w => a w.1) (fun w => b w.1)
  have e71 : ∀ k, 1800 ≤ k → D' 71 k = D 71 k := fun k a => hD 71 k (by omega) (by omega)
  have e70 : ∀ k, k ≠ l → D' 70 k = D 70 k := fun k a => hD 70 k (fun w => a w.2) (by omega)
  have hc := h.1.2.2.2.2.1
  have n90 := h.1.1
  refine ⟨⟨?_, fun k a b => ?_, fun k a b => ?_, fun k a b => ?_, ?_, fun p a b => ?_, fun p a b => ?_⟩, ?_, fun q => ⟨by rw [e 0 q (by decide) (by decide)]; exact h.a0 q, by rw [e 22 q (by decide) (by decide)]; exact h.a22 q, by rw [e 23 q (by decide) (by decide)]; exact h.a23 q, by rw [e 25 q (by decide) (by decide)]; exact h.a25 q, by rw [e 26 q (by decide) (by decide)]; exact h.a26 q, by rw [e 27 q (by decide) (by decide)]; exact h.a27 q, by rw [e 28 q (by decide) (by decide)]; exact h.a28 q, by rw [e 30 q (by decide) (by decide)]; exact h.a30 q, by rw [e 40 q (by decide) (by decide)]; exact h.a40 q, by rw [e 41 q (by decide) (by decide)]; exact h.a41 q, by rw [e 42 q (by decide) (by decide)]; exact h.a42 q, by rw [e 50 q (by decide) (by decide)]; exact h.a50 q, by rw [e 51 q (by decide) (by decide)]; exact h.a51 q, by rw [e 52 q (by decide) (by decide)]; exact h.a52 q, by rw [e 54 q (by decide) (by decide)]; exact h.a54 q, by rw [e 60 q (by decide) (by decide)]; exact h.a60 q, by rw [e 61 q (by decide) (by decide)]; exact h.a61 q, by rw [e 62 q (by decide) (by decide)]; exact h.a62 q, ?_⟩⟩
  · rw [e 90 0 (by decide) (by decide), e 91 0 (by decide) (by decide), e 92 0 (by decide) (by decide), e70 45 (by omega), e70 46 (by omega), e70 47 (by omega)]
    exact n90
  · rw [e 90 0 (by decide) (by decide)] at b
    rw [e71 _ (by omega), e 20 k (by decide) (by decide)]
    exact ⟨h.q ⟨a, b⟩, h.a20 ⟨a, b⟩⟩
  · rw [e 91 0 (by decide) (by decide)] at b
    rw [e71 _ (by omega)]
    exact h.p ⟨a, b⟩
  · rw [e 92 0 (by decide) (by decide)] at b
    rw [e71 _ (by omega)]
    exact h.s ⟨a, b⟩
  · rw [e 90 0 (by decide) (by decide), e 91 0 (by decide) (by decide), e 92 0 (by decide) (by decide)]
    exact hc
  · by_cases w : 3 + p = l
    · rw [w]; exact h9 (by omega) (by omega)
    · rw [e70 _ w]; exact h.l9 ⟨a, b⟩
  · by_cases w : 15 + p = l
    · rw [w]; exact h27 (by omega)
    · rw [e70 _ w]; exact h.l27 ⟨a, b⟩
  · refine ⟨by rw [e 1 0 (by decide) (by decide)]; exact h.a1, by rw [e 6 0 (by decide) (by decide)]; exact h.a6, by rw [e 7 0 (by decide) (by decide)]; exact h.a7, by rw [e 8 0 (by decide) (by decide)]; exact h.a8, by rw [e 9 0 (by decide) (by decide)]; exact h.a9, by rw [e 80 0 (by decide) (by decide)]; exact h.a80⟩
  · by_cases w : q = l
    · rw [w]; exact hn
    · rw [e70 _ w]; exact h.a70 q
theorem ID.ad {D : MS} (h : ID D) {l z : Int} (hl : 0 ≤ l ∧ l < 45) (hn : D 70 l ≤ 39) (h9 : 3 ≤ l → l < 15 → D 70 l ≤ 8) (h27 : 15 ≤ l → D 70 l ≤ 26) : ID (dAd D l z) := by
  have e70 : dAd D l z 70 l = D 70 l + 1 := mset_s
  have h0 := h.a70 l
  refine h.lst hl (fun f k n1 n2 => ?_) (by rw [e70]; omega) (fun a b => by rw [e70]; have := h9 a b; omega) (fun a => by rw [e70]; have := h27 a; omega)
  show mset (mset D 71 (40 * l + D 70 l) z) 70 l (D 70 l + 1) f k = _
  rw [mset2, if_neg n1, mset2, if_neg (fun w => n2 ⟨w.1, by omega, by omega⟩)]
theorem ID.rm {D : MS} (h : ID D) {l i : Int} (hl : 0 ≤ l ∧ l < 45) (hi : 0 ≤ i ∧ i < D 70 l) : ID (dRm D l i) := by
  have e70 : dRm D l i 70 l = D 70 l - 1 := if_pos ⟨rfl, rfl⟩
  have h0 := h.a70 l
  refine h.lst hl (fun f k n1 n2 => ?_) (by rw [e70]; omega) (fun a b => ?_) (fun a => ?_)
  · unfold dRm
    rw [if_neg n1, if_neg (fun w => n2 ⟨w.1, by omega, by omega⟩)]
  · rw [e70]
    have := h.l9 (p := l - 3) (by omega)
    rw [show 3 + (l - 3) = l by omega] at this
    omega
  · rw [e70]
    have := h.l27 (p := l - 15) (by omega)
    rw [show 15 + (l - 15) = l by omega] at this
    omega
theorem ID.cl {D : MS} (h : ID D) {l : Int} (hl : 0 ≤ l ∧ l < 45) : ID (mset D 70 l 0) := by
  have e70 : mset D 70 l 0 70 l = 0 := mset_s
  exact h.lst hl (fun f k n1 n2 => by rw [mset2, if_neg n1]) (by omega) (fun a b => by omega) (fun a => by omega)

theorem ID.inn {D : MS} (h : ID D) {l i z : Int} (hl : 0 ≤ l ∧ l < 3) (hn : D 70 l ≤ 39) (hi : 0 ≤ i ∧ i < 40) : ID (dIn D l i z) := by
  have e70 : dIn D l i z 70 l = D 70 l + 1 := if_pos ⟨rfl, rfl⟩
  have h0 := h.a70 l
  refine h.lst (l := l) (by omega) (fun f k n1 n2 => ?_) (by rw [e70]; omega) (fun a b => by omega) (fun a => by omega)
  unfold dIn
  rw [if_neg n1, if_neg (fun w => n2 ⟨w.1, by omega, by omega⟩), if_neg (fun w => n2 ⟨w.1, by omega, by omega⟩)]
/-- validity, by short rows -/
theorem vFx {D : MS} {F : Nat} (h : F = 1 ∨ F = 6 ∨ F = 7 ∨ F = 8 ∨ F = 9) : vF D F 0 := Or.inr (Or.inl ⟨h, rfl⟩)
theorem vFw {D : MS} {t : Int} (h : 0 ≤ t ∧ t < 6) : vF D 0 t := Or.inl ⟨rfl, h⟩
theorem vFq {D : MS} {F : Nat} {t : Int} (h : F = 20 ∨ F = 22 ∨ F = 23 ∨ F = 25 ∨ F = 26 ∨ F = 27 ∨ F = 28 ∨ F = 29 ∨ F = 30) (ht : 0 ≤ t ∧ t < D 90 0) : vF D F t := Or.inr (Or.inr (Or.inl ⟨h, ht⟩))
theorem vFp {D : MS} {F : Nat} {t : Int} (h : F = 50 ∨ F = 51 ∨ F = 52 ∨ F = 54) (ht : 0 ≤ t ∧ t < D 91 0) : vF D F t := Or.inr (Or.inr (Or.inr (Or.inr (Or.inr (Or.inl ⟨h, ht⟩)))))
theorem vFs {D : MS} {t : Int} (ht : 0 ≤ t ∧ t < D 92 0) : vF D 60 t := Or.inr (Or.inr (Or.inr (Or.inr (Or.inr (Or.inr (Or.inl ⟨rfl, ht⟩))))))
theorem vAq {D : MS} {f : Nat} {i : Int} (h : f ≤ 2) (ht : 0 ≤ i ∧ i < D 90 0) : vA D f i := Or.inl ⟨h, ht⟩
theorem vAp {D : MS} {i : Int} (ht : 0 ≤ i ∧ i < D 91 0) : vA D 3 i := Or.inr (Or.inl ⟨rfl, ht⟩)
theorem vAs {D : MS} {f : Nat} {i : Int} (h : f = 4 ∨ f = 5) (ht : 0 ≤ i ∧ i < D 92 0) : vA D f i := Or.inr (Or.inr (Or.inl ⟨h, ht⟩))
theorem vAl {D : MS} {l : Int} (h : vL D l) : vA D 6 l := Or.inr (Or.inr (Or.inr (Or.inl ⟨rfl, h⟩)))
theorem vAx {D : MS} {f : Nat} (h : f = 8 ∨ f = 9 ∨ f = 10) : vA D f 0 := Or.inr (Or.inr (Or.inr (Or.inr ⟨h, rfl⟩)))
theorem vL0 {D : MS} {l : Int} (h : 0 ≤ l ∧ l < 3) : vL D l := Or.inl h
theorem vL4 {D : MS} {l : Int} (h : 45 ≤ l ∧ l < 48) : vL D l := Or.inr (Or.inr (Or.inr h))
theorem vLp {D : MS} {p : Int} (h : 0 ≤ p ∧ p < D 91 0) : vL D (3 + p) := Or.inr (Or.inl ⟨by omega, by omega⟩)
theorem vLs {D : MS} {s : Int} (h : 0 ≤ s ∧ s < D 92 0) : vL D (15 + s) := Or.inr (Or.inr (Or.inl ⟨by omega, by omega⟩))
theorem vEq {D : MS} {l z : Int} (n : l ≠ 46 ∧ l ≠ 47) : vE D l z ↔ 0 ≤ z ∧ z < D 90 0 := by
  unfold vE
  rw [if_neg n.1, if_neg n.2]
theorem eAq {A : AD} {l z : Int} (n : l ≠ 46 ∧ l ≠ 47) : eA A l z = A 0 z := by
  unfold eA
  rw [if_neg n.1, if_neg n.2]
section D4
variable {g : GP} {m m' : MT} {d d' : Nat} {Q Q' : Res → AH → Prop} {h h0 : AH} {pc : Nat} {lc lc' st as : List AV} {A : AD} {D D9 : MS} {N U : Nat}
theorem DR.kx (H : DR h A D N U) : h_k h 8 = 9 := by
  have e := H.kd (f := 8) (vAx (by decide))
  rw [H.fx.1] at e
  exact e
theorem DR.le2 (H : DR h A D N U) {l : Int} (n : l ≠ 46 ∧ l ≠ 47) (hv : vL D l) {z : Int} (hz : 0 ≤ z ∧ z < D 70 l) : 0 ≤ D 71 (40 * l + z) ∧ D 71 (40 * l + z) < D 90 0 := (vEq n).mp ((H.le hv).2 z hz.1 hz.2)
theorem V_dGq {idx a : Nat} {l z : Int} (hd : decode m.2.1 pc = .ok (.invokevirtual idx, 3)) (hw : CaV m.1.cls idx m_Jx4a65c_get_915e3 1 4) (hh : m.2.2.2.2 = []) (hd' : 4 ≤ d) (hst : st.length ≤ 4) (ha : A 6 l = a) (hM : DR h A D N U) (hv : vL D l) (hz : 0 ≤ z ∧ z < D 70 l) (n : l ≠ 46 ∧ l ≠ 47) (k : 0 ≤ D 71 (40 * l + z) ∧ D 71 (40 * l + z) < D 90 0 → V g m d Q h (pc + 3) lc (xR (A 0 (D 71 (40 * l + z))) :: st)) : V g m d Q h pc lc (xI z :: xR a :: st) :=
  V_dGt hd hw hh hd' hst ha hM hv hz (eAq n) (fun q => k ((vEq n).mp q))
theorem V_dG45 {idx : Nat} {z : Int} (hd : decode m.2.1 pc = .ok (.invokevirtual idx, 3)) (hw : CaV m.1.cls idx m_Jx4a65c_get_915e3 1 4) (hh : m.2.2.2.2 = []) (hd' : 4 ≤ d) (hst : st.length ≤ 4) (hM : DR h A D N U) (hz : 0 ≤ z ∧ z < D 70 45) (he : D 71 (40 * 45 + z) = z) (k : V g m d Q h (pc + 3) lc (xR (A 0 z) :: st)) : V g m d Q h pc lc (xI z :: xR 10 :: st) :=
  V_dGt (l := 45) hd hw hh hd' hst hM.fx.2.2.2.1 hM (vL4 (by decide)) hz (e := A 0 z) (by rw [he]; rfl) (fun _ => k)
theorem V_dG46 {idx : Nat} {z : Int} (hd : decode m.2.1 pc = .ok (.invokevirtual idx, 3)) (hw : CaV m.1.cls idx m_Jx4a65c_get_915e3 1 4) (hh : m.2.2.2.2 = []) (hd' : 4 ≤ d) (hst : st.length ≤ 4) (hM : DR h A D N U) (hz : 0 ≤ z ∧ z < D 70 46) (he : D 71 (40 * 46 + z) = z) (k : V g m d Q h (pc + 3) lc (xR (A 3 z) :: st)) : V g m d Q h pc lc (xI z :: xR 12 :: st) :=
  V_dGt (l := 46) hd hw hh hd' hst hM.fx.2.2.2.2.2.1 hM (vL4 (by decide)) hz (e := A 3 z) (by rw [he]; rfl) (fun _ => k)
theorem V_dG47 {idx : Nat} {z : Int} (hd : decode m.2.1 pc = .ok (.invokevirtual idx, 3)) (hw : CaV m.1.cls idx m_Jx4a65c_get_915e3 1 4) (hh : m.2.2.2.2 = []) (hd' : 4 ≤ d) (hst : st.length ≤ 4) (hM : DR h A D N U) (hz : 0 ≤ z ∧ z < D 70 47) (he : D 71 (40 * 47 + z) = z) (k : V g m d Q h (pc + 3) lc (xR (A 4 z) :: st)) : V g m d Q h pc lc (xI z :: xR 13 :: st) :=
  V_dGt (l := 47) hd hw hh hd' hst hM.fx.2.2.2.2.2.2.1 hM (vL4 (by decide)) hz (e := A 4 z) (by rw [he]; rfl) (fun _ => k)
end D4
/-- what the developers' methods answer -/
def dRel (D : MS) (l n q : Int) : Prop := ∃ k, 0 ≤ k ∧ k < n ∧ k < D 70 l ∧ D 26 (D 71 (40 * l + k)) = D 26 q
abbrev dOpen (D : MS) (p : Int) : Prop := D 54 p = 0 ∧ D 6 0 ≤ D 50 p
abbrev dAv (D : MS) (q : Int) : Prop := D 28 q = 0 ∧ (D 30 q = -1 ∨ 2 < D 6 0 - D 30 q)
def dFit (D : MS) (p i : Int) : Prop := sKd (D 23 (D 71 (40 * (3 + p) + i))) = D 51 p ∧ ¬ dRel D (3 + p) i (D 71 (40 * (3 + p) + i))
def dCan (D : MS) (q kd l : Int) : Prop := sKd (D 23 q) = kd ∧ dAv D q ∧ ¬ dRel D l (D 70 l) q
noncomputable def dLv (D : MS) (q : Int) : Nat → Int
  | 0 => D 22 q
  | n + 1 => sLv (dLv D q n) (D 42 (30 * q + n) ≠ 0)
theorem dLv_s {D : MS} {q k : Int} (h : 0 ≤ k) : dLv D q (k + 1).toNat = sLv (dLv D q k.toNat) (D 42 (30 * q + k) ≠ 0) := by
  rw [tnat h]
  show sLv _ _ = _
  rw [ntc h]
theorem dLv_r {D : MS} (h : ID D) {q : Int} : ∀ n : Nat, 0 ≤ dLv D q n ∧ dLv D q n ≤ 100 := by
  intro n
  induction n with
  | zero => exact h.a22 q
  | succ n ih => exact sLv_r ih
noncomputable def dCtN (D : MS) (a : Int) : Nat → Int
  | 0 => 0
  | n + 1 => dCtN D a n + (if (n : Int) ≠ a ∧ D 26 n = D 26 a then 1 else 0)
theorem dCtN_s {D : MS} {a k : Int} (h : 0 ≤ k) : dCtN D a (k + 1).toNat = dCtN D a k.toNat + (if k ≠ a ∧ D 26 k = D 26 a then 1 else 0) := by
  rw [tnat h]
  show _ + _ = _
  rw [ntc h]
noncomputable def dWtN (D : MS) : Nat → Int
  | 0 => 0
  | n + 1 => dWtN D n + (if D 60 n = 115 then 1 else 0)
theorem dWtN_s {D : MS} {k : Int} (h : 0 ≤ k) : dWtN D (k + 1).toNat = dWtN D k.toNat + (if D 60 k = 115 then 1 else 0) := by
  rw [tnat h]
  show _ + _ = _
  rw [ntc h]
noncomputable def dSumN (D : MS) : Nat → Int
  | 0 => 0
  | n + 1 => dSumN D n + D 23 n
theorem dSumN_s {D : MS} {k : Int} (h : 0 ≤ k) : dSumN D (k + 1).toNat = dSumN D k.toNat + D 23 k := by
  rw [tnat h]
  show _ + _ = _
  rw [ntc h]
/-- first place where P fails, at most n -/
noncomputable def dFst (P : Int → Prop) : Nat → Int
  | 0 => 0
  | n + 1 => if dFst P n < n then dFst P n else @ite Int (P n) (Classical.propDecidable _) (n + 1) n
theorem dFst_no {P : Int → Prop} : ∀ n : Nat, (∀ j : Int, 0 ≤ j → j < n → P j) → dFst P n = n := by
  intro n
  induction n with
  | zero => intro _; rfl
  | succ n ih =>
    intro h
    unfold dFst
    rw [ih (fun j a b => h j a (by omega)), if_neg (by omega), if_pos (h n (by omega) (by omega))]
    rfl
theorem dFst_at {P : Int → Prop} {k : Int} (h0 : 0 ≤ k) (hA : ∀ j : Int, 0 ≤ j → j < k → P j) (hk : ¬ P k) : ∀ n : Nat, k < n → dFst P n = k := by
  intro n
  induction n with
  | zero => intro h; omega
  | succ n ih =>
    intro h
    unfold dFst
    by_cases e : k < n
    · rw [ih e, if_pos e]
    · have e2 : k = n := by omega
      subst e2
      rw [dFst_no n hA, if_neg (by omega), if_neg hk]
theorem dFst_r {P : Int → Prop} : ∀ n : Nat, 0 ≤ dFst P n ∧ dFst P n ≤ n := by
  intro n
  induction n with
  | zero => exact ⟨Int.le_refl _, Int.le_refl _⟩
  | succ n ih =>
    unfold dFst
    split
    · omega
    · split <;> omega

-- deps: 09 10 11 12 21 30 31
theorem IM.s19 {M : MS} (h : IM M) {z : Int} (hz : 0 ≤ z ∧ z ≤ 6) : IM (mset M 19 0 z) := ⟨⟨hz, h.1.2.1, h.1.2.2.1, h.1.2.2.2.1, h.1.2.2.2.2.1, h.1.2.2.2.2.2.1, h.1.2.2.2.2.2.2.1, h.1.2.2.2.2.2.2.2.1, h.1.2.2.2.2.2.2.2.2⟩, h.2⟩
theorem IM.s20 {M : MS} (h : IM M) {z : Int} (hz : 0 ≤ z ∧ z ≤ 40) : IM (mset M 20 0 z) := ⟨⟨h.1.1, hz, h.1.2.2.1, h.1.2.2.2.1, h.1.2.2.2.2.1, h.1.2.2.2.2.2.1, h.1.2.2.2.2.2.2.1, h.1.2.2.2.2.2.2.2.1, h.1.2.2.2.2.2.2.2.2⟩, h.2⟩
theorem IM.s21 {M : MS} (h : IM M) {z : Int} (hz : 0 ≤ z ∧ z ≤ 40) : IM (mset M 21 0 z) := ⟨⟨h.1.1, h.1.2.1, hz, h.1.2.2.2.1, h.1.2.2.2.2.1, h.1.2.2.2.2.2.1, h.1.2.2.2.2.2.2.1, h.1.2.2.2.2.2.2.2.1, h.1.2.2.2.2.2.2.2.2⟩, h.2⟩
theorem IM.s22 {M : MS} (h : IM M) {z : Int} (hz : 0 ≤ z ∧ z ≤ 12) : IM (mset M 22 0 z) := ⟨⟨h.1.1, h.1.2.1, h.1.2.2.1, hz, h.1.2.2.2.2.1, h.1.2.2.2.2.2.1, h.1.2.2.2.2.2.2.1, h.1.2.2.2.2.2.2.2.1, h.1.2.2.2.2.2.2.2.2⟩, h.2⟩
theorem IM.s23 {M : MS} (h : IM M) {z : Int} (hz : 0 ≤ z ∧ z ≤ 30) : IM (mset M 23 0 z) := ⟨⟨h.1.1, h.1.2.1, h.1.2.2.1, h.1.2.2.2.1, hz, h.1.2.2.2.2.2.1, h.1.2.2.2.2.2.2.1, h.1.2.2.2.2.2.2.2.1, h.1.2.2.2.2.2.2.2.2⟩, h.2⟩
theorem IM.s24 {M : MS} (h : IM M) {z : Int} (hz : 0 ≤ z ∧ z ≤ 999) : IM (mset M 24 0 z) := ⟨⟨h.1.1, h.1.2.1, h.1.2.2.1, h.1.2.2.2.1, h.1.2.2.2.2.1, hz, h.1.2.2.2.2.2.2.1, h.1.2.2.2.2.2.2.2.1, h.1.2.2.2.2.2.2.2.2⟩, h.2⟩
theorem IM.s25 {M : MS} (h : IM M) {z : Int} (hz : 0 ≤ z ∧ z ≤ 1000000) : IM (mset M 25 0 z) := ⟨⟨h.1.1, h.1.2.1, h.1.2.2.1, h.1.2.2.2.1, h.1.2.2.2.2.1, h.1.2.2.2.2.2.1, hz, h.1.2.2.2.2.2.2.2.1, h.1.2.2.2.2.2.2.2.2⟩, h.2⟩
theorem IM.s26 {M : MS} (h : IM M) {z : Int} (hz : 0 ≤ z ∧ z ≤ 1000000) : IM (mset M 26 0 z) := ⟨⟨h.1.1, h.1.2.1, h.1.2.2.1, h.1.2.2.2.1, h.1.2.2.2.2.1, h.1.2.2.2.2.2.1, h.1.2.2.2.2.2.2.1, hz, h.1.2.2.2.2.2.2.2.2⟩, h.2⟩
theorem IM.s29 {M : MS} (h : IM M) {z : Int} (hz : z = 0 ∨ z = 1) : IM (mset M 29 0 z) := ⟨⟨h.1.1, h.1.2.1, h.1.2.2.1, h.1.2.2.2.1, h.1.2.2.2.2.1, h.1.2.2.2.2.2.1, h.1.2.2.2.2.2.2.1, h.1.2.2.2.2.2.2.2.1, hz⟩, h.2⟩
theorem IM.s2 {M : MS} (h : IM M) {k z : Int} (hz : 0 ≤ z ∧ z ≤ 6) : IM (mset M 2 k z) := by
  refine ⟨h.1, fun q => ⟨?_, (h.2 q).2.1, (h.2 q).2.2.1, (h.2 q).2.2.2.1, (h.2 q).2.2.2.2.1, (h.2 q).2.2.2.2.2.1, (h.2 q).2.2.2.2.2.2.1, (h.2 q).2.2.2.2.2.2.2.1, (h.2 q).2.2.2.2.2.2.2.2.1, (h.2 q).2.2.2.2.2.2.2.2.2.1, (h.2 q).2.2.2.2.2.2.2.2.2.2.1, (h.2 q).2.2.2.2.2.2.2.2.2.2.2.1, (h.2 q).2.2.2.2.2.2.2.2.2.2.2.2.1, (h.2 q).2.2.2.2.2.2.2.2.2.2.2.2.2.1, (h.2 q).2.2.2.2.2.2.2.2.2.2.2.2.2.2⟩⟩
  have e : mset M 2 k z 2 q = if q = k then z else M 2 q := mset_f
  rw [e]
  split
  · exact hz
  · exact h.a2 q
theorem IM.s3 {M : MS} (h : IM M) {k z : Int} (hz : 0 ≤ z ∧ z ≤ 100) : IM (mset M 3 k z) := by
  refine ⟨h.1, fun q => ⟨(h.2 q).1, ?_, (h.2 q).2.2.1, (h.2 q).2.2.2.1, (h.2 q).2.2.2.2.1, (h.2 q).2.2.2.2.2.1, (h.2 q).2.2.2.2.2.2.1, (h.2 q).2.2.2.2.2.2.2.1, (h.2 q).2.2.2.2.2.2.2.2.1, (h.2 q).2.2.2.2.2.2.2.2.2.1, (h.2 q).2.2.2.2.2.2.2.2.2.2.1, (h.2 q).2.2.2.2.2.2.2.2.2.2.2.1, (h.2 q).2.2.2.2.2.2.2.2.2.2.2.2.1, (h.2 q).2.2.2.2.2.2.2.2.2.2.2.2.2.1, (h.2 q).2.2.2.2.2.2.2.2.2.2.2.2.2.2⟩⟩
  have e : mset M 3 k z 3 q = if q = k then z else M 3 q := mset_f
  rw [e]
  split
  · exact hz
  · exact h.a3 q
theorem IM.s5 {M : MS} (h : IM M) {k z : Int} (hz : -100 ≤ z ∧ z ≤ 999) : IM (mset M 5 k z) := by
  refine ⟨h.1, fun q => ⟨(h.2 q).1, (h.2 q).2.1, ?_, (h.2 q).2.2.2.1, (h.2 q).2.2.2.2.1, (h.2 q).2.2.2.2.2.1, (h.2 q).2.2.2.2.2.2.1, (h.2 q).2.2.2.2.2.2.2.1, (h.2 q).2.2.2.2.2.2.2.2.1, (h.2 q).2.2.2.2.2.2.2.2.2.1, (h.2 q).2.2.2.2.2.2.2.2.2.2.1, (h.2 q).2.2.2.2.2.2.2.2.2.2.2.1, (h.2 q).2.2.2.2.2.2.2.2.2.2.2.2.1, (h.2 q).2.2.2.2.2.2.2.2.2.2.2.2.2.1, (h.2 q).2.2.2.2.2.2.2.2.2.2.2.2.2.2⟩⟩
  have e : mset M 5 k z 5 q = if q = k then z else M 5 q := mset_f
  rw [e]
  split
  · exact hz
  · exact h.a5 q
theorem IM.s8 {M : MS} (h : IM M) {k z : Int} (hz : 0 ≤ z ∧ z ≤ 999) : IM (mset M 8 k z) := by
  refine ⟨h.1, fun q => ⟨(h.2 q).1, (h.2 q).2.1, (h.2 q).2.2.1, ?_, (h.2 q).2.2.2.2.1, (h.2 q).2.2.2.2.2.1, (h.2 q).2.2.2.2.2.2.1, (h.2 q).2.2.2.2.2.2.2.1, (h.2 q).2.2.2.2.2.2.2.2.1, (h.2 q).2.2.2.2.2.2.2.2.2.1, (h.2 q).2.2.2.2.2.2.2.2.2.2.1, (h.2 q).2.2.2.2.2.2.2.2.2.2.2.1, (h.2 q).2.2.2.2.2.2.2.2.2.2.2.2.1, (h.2 q).2.2.2.2.2.2.2.2.2.2.2.2.2.1, (h.2 q).2.2.2.2.2.2.2.2.2.2.2.2.2.2⟩⟩
  have e : mset M 8 k z 8 q = if q = k then z else M 8 q := mset_f
  rw [e]
  split
  · exact hz
  · exact h.a8 q
theorem IM.s9 {M : MS} (h : IM M) {k z : Int} (hz : 0 ≤ z ∧ z ≤ 9) : IM (mset M 9 k z) := by
  refine ⟨h.1, fun q => ⟨(h.2 q).1, (h.2 q).2.1, (h.2 q).2.2.1, (h.2 q).2.2.2.1, ?_, (h.2 q).2.2.2.2.2.1, (h.2 q).2.2.2.2.2.2.1, (h.2 q).2.2.2.2.2.2.2.1, (h.2 q).2.2.2.2.2.2.2.2.1, (h.2 q).2.2.2.2.2.2.2.2.2.1, (h.2 q).2.2.2.2.2.2.2.2.2.2.1, (h.2 q).2.2.2.2.2.2.2.2.2.2.2.1, (h.2 q).2.2.2.2.2.2.2.2.2.2.2.2.1, (h.2 q).2.2.2.2.2.2.2.2.2.2.2.2.2.1, (h.2 q).2.2.2.2.2.2.2.2.2.2.2.2.2.2⟩⟩
  have e : mset M 9 k z 9 q = if q = k then z else M 9 q := mset_f
  rw [e]
  split
  · exact hz
  · exact h.a9 q
theorem IM.s10 {M : MS} (h : IM M) {k z : Int} (hz : 0 ≤ z ∧ z ≤ 39) : IM (mset M 10 k z) := by
  refine ⟨h.1, fun q => ⟨(h.2 q).1, (h.2 q).2.1, (h.2 q).2.2.1, (h.2 q).2.2.2.1, (h.2 q).2.2.2.2.1, ?_, (h.2 q).2.2.2.2.2.2.1, (h.2 q).2.2.2.2.2.2.2.1, (h.2 q).2.2.2.2.2.2.2.2.1, (h.2 q).2.2.2.2.2.2.2.2.2.1, (h.2 q).2.2.2.2.2.2.2.2.2.2.1, (h.2 q).2.2.2.2.2.2.2.2.2.2.2.1, (h.2 q).2.2.2.2.2.2.2.2.2.2.2.2.1, (h.2 q).2.2.2.2.2.2.2.2.2.2.2.2.2.1, (h.2 q).2.2.2.2.2.2.2.2.2.2.2.2.2.2⟩⟩
  have e : mset M 10 k z 10 q = if q = k then z else M 10 q := mset_f
  rw [e]
  split
  · exact hz
  · exact h.a10 q
theorem IM.s11 {M : MS} (h : IM M) {k z : Int} (hz : 0 ≤ z ∧ z ≤ 9) : IM (mset M 11 k z) := by
  refine ⟨h.1, fun q => ⟨(h.2 q).1, (h.2 q).2.1, (h.2 q).2.2.1, (h.2 q).2.2.2.1, (h.2 q).2.2.2.2.1, (h.2 q).2.2.2.2.2.1, ?_, (h.2 q).2.2.2.2.2.2.2.1, (h.2 q).2.2.2.2.2.2.2.2.1, (h.2 q).2.2.2.2.2.2.2.2.2.1, (h.2 q).2.2.2.2.2.2.2.2.2.2.1, (h.2 q).2.2.2.2.2.2.2.2.2.2.2.1, (h.2 q).2.2.2.2.2.2.2.2.2.2.2.2.1, (h.2 q).2.2.2.2.2.2.2.2.2.2.2.2.2.1, (h.2 q).2.2.2.2.2.2.2.2.2.2.2.2.2.2⟩⟩
  have e : mset M 11 k z 11 q = if q = k then z else M 11 q := mset_f
  rw [e]
  split
  · exact hz
  · exact h.a11 q
theorem IM.s12 {M : MS} (h : IM M) {k z : Int} (hz : 0 ≤ z ∧ z < 65536) : IM (mset M 12 k z) := by
  refine ⟨h.1, fun q => ⟨(h.2 q).1, (h.2 q).2.1, (h.2 q).2.2.1, (h.2 q).2.2.2.1, (h.2 q).2.2.2.2.1, (h.2 q).2.2.2.2.2.1, (h.2 q).2.2.2.2.2.2.1, ?_, (h.2 q).2.2.2.2.2.2.2.2.1, (h.2 q).2.2.2.2.2.2.2.2.2.1, (h.2 q).2.2.2.2.2.2.2.2.2.2.1, (h.2 q).2.2.2.2.2.2.2.2.2.2.2.1, (h.2 q).2.2.2.2.2.2.2.2.2.2.2.2.1, (h.2 q).2.2.2.2.2.2.2.2.2.2.2.2.2.1, (h.2 q).2.2.2.2.2.2.2.2.2.2.2.2.2.2⟩⟩
  have e : mset M 12 k z 12 q = if q = k then z else M 12 q := mset_f
  rw [e]
  split
  · exact hz
  · exact h.a12 q
theorem IM.s13 {M : MS} (h : IM M) {k z : Int} (hz : 0 ≤ z ∧ z < 65536) : IM (mset M 13 k z) := by
  refine ⟨h.1, fun q => ⟨(h.2 q).1, (h.2 q).2.1, (h.2 q).2.2.1, (h.2 q).2.2.2.1, (h.2 q).2.2.2.2.1, (h.2 q).2.2.2.2.2.1, (h.2 q).2.2.2.2.2.2.1, (h.2 q).2.2.2.2.2.2.2.1, ?_, (h.2 q).2.2.2.2.2.2.2.2.2.1, (h.2 q).2.2.2.2.2.2.2.2.2.2.1, (h.2 q).2.2.2.2.2.2.2.2.2.2.2.1, (h.2 q).2.2.2.2.2.2.2.2.2.2.2.2.1, (h.2 q).2.2.2.2.2.2.2.2.2.2.2.2.2.1, (h.2 q).2.2.2.2.2.2.2.2.2.2.2.2.2.2⟩⟩
  have e : mset M 13 k z 13 q = if q = k then z else M 13 q := mset_f
  rw [e]
  split
  · exact hz
  · exact h.a13 q
theorem IM.s14 {M : MS} (h : IM M) {k z : Int} (hz : z = 0 ∨ z = 1) : IM (mset M 14 k z) := by
  refine ⟨h.1, fun q => ⟨(h.2 q).1, (h.2 q).2.1, (h.2 q).2.2.1, (h.2 q).2.2.2.1, (h.2 q).2.2.2.2.1, (h.2 q).2.2.2.2.2.1, (h.2 q).2.2.2.2.2.2.1, (h.2 q).2.2.2.2.2.2.2.1, (h.2 q).2.2.2.2.2.2.2.2.1, ?_, (h.2 q).2.2.2.2.2.2.2.2.2.2.1, (h.2 q).2.2.2.2.2.2.2.2.2.2.2.1, (h.2 q).2.2.2.2.2.2.2.2.2.2.2.2.1, (h.2 q).2.2.2.2.2.2.2.2.2.2.2.2.2.1, (h.2 q).2.2.2.2.2.2.2.2.2.2.2.2.2.2⟩⟩
  have e : mset M 14 k z 14 q = if q = k then z else M 14 q := mset_f
  rw [e]
  split
  · exact hz
  · exact h.a14 q
theorem IM.s15 {M : MS} (h : IM M) {k z : Int} (hz : z = 0 ∨ z = 1) : IM (mset M 15 k z) := by
  refine ⟨h.1, fun q => ⟨(h.2 q).1, (h.2 q).2.1, (h.2 q).2.2.1, (h.2 q).2.2.2.1, (h.2 q).2.2.2.2.1, (h.2 q).2.2.2.2.2.1, (h.2 q).2.2.2.2.2.2.1, (h.2 q).2.2.2.2.2.2.2.1, (h.2 q).2.2.2.2.2.2.2.2.1, (h.2 q).2.2.2.2.2.2.2.2.2.1, ?_, (h.2 q).2.2.2.2.2.2.2.2.2.2.2.1, (h.2 q).2.2.2.2.2.2.2.2.2.2.2.2.1, (h.2 q).2.2.2.2.2.2.2.2.2.2.2.2.2.1, (h.2 q).2.2.2.2.2.2.2.2.2.2.2.2.2.2⟩⟩
  have e : mset M 15 k z 15 q = if q = k then z else M 15 q := mset_f
  rw [e]
  split
  · exact hz
  · exact h.a15 q
theorem IM.s16 {M : MS} (h : IM M) {k z : Int} (hz : 0 ≤ z ∧ z ≤ 39) : IM (mset M 16 k z) := by
  refine ⟨h.1, fun q => ⟨(h.2 q).1, (h.2 q).2.1, (h.2 q).2.2.1, (h.2 q).2.2.2.1, (h.2 q).2.2.2.2.1, (h.2 q).2.2.2.2.2.1, (h.2 q).2.2.2.2.2.2.1, (h.2 q).2.2.2.2.2.2.2.1, (h.2 q).2.2.2.2.2.2.2.2.1, (h.2 q).2.2.2.2.2.2.2.2.2.1, (h.2 q).2.2.2.2.2.2.2.2.2.2.1, ?_, (h.2 q).2.2.2.2.2.2.2.2.2.2.2.2.1, (h.2 q).2.2.2.2.2.2.2.2.2.2.2.2.2.1, (h.2 q).2.2.2.2.2.2.2.2.2.2.2.2.2.2⟩⟩
  have e : mset M 16 k z 16 q = if q = k then z else M 16 q := mset_f
  rw [e]
  split
  · exact hz
  · exact h.a16 q
theorem IM.s17 {M : MS} (h : IM M) {k z : Int} (hz : 0 ≤ z ∧ z ≤ 27) : IM (mset M 17 k z) := by
  refine ⟨h.1, fun q => ⟨(h.2 q).1, (h.2 q).2.1, (h.2 q).2.2.1, (h.2 q).2.2.2.1, (h.2 q).2.2.2.2.1, (h.2 q).2.2.2.2.2.1, (h.2 q).2.2.2.2.2.2.1, (h.2 q).2.2.2.2.2.2.2.1, (h.2 q).2.2.2.2.2.2.2.2.1, (h.2 q).2.2.2.2.2.2.2.2.2.1, (h.2 q).2.2.2.2.2.2.2.2.2.2.1, (h.2 q).2.2.2.2.2.2.2.2.2.2.2.1, ?_, (h.2 q).2.2.2.2.2.2.2.2.2.2.2.2.2.1, (h.2 q).2.2.2.2.2.2.2.2.2.2.2.2.2.2⟩⟩
  have e : mset M 17 k z 17 q = if q = k then z else M 17 q := mset_f
  rw [e]
  split
  · exact hz
  · exact h.a17 q
theorem IM.s18 {M : MS} (h : IM M) {k z : Int} (hz : 0 ≤ z ∧ z < 65536) : IM (mset M 18 k z) := by
  refine ⟨h.1, fun q => ⟨(h.2 q).1, (h.2 q).2.1, (h.2 q).2.2.1, (h.2 q).2.2.2.1, (h.2 q).2.2.2.2.1, (h.2 q).2.2.2.2.2.1, (h.2 q).2.2.2.2.2.2.1, (h.2 q).2.2.2.2.2.2.2.1, (h.2 q).2.2.2.2.2.2.2.2.1, (h.2 q).2.2.2.2.2.2.2.2.2.1, (h.2 q).2.2.2.2.2.2.2.2.2.2.1, (h.2 q).2.2.2.2.2.2.2.2.2.2.2.1, (h.2 q).2.2.2.2.2.2.2.2.2.2.2.2.1, ?_, (h.2 q).2.2.2.2.2.2.2.2.2.2.2.2.2.2⟩⟩
  have e : mset M 18 k z 18 q = if q = k then z else M 18 q := mset_f
  rw [e]
  split
  · exact hz
  · exact h.a18 q
theorem IM.s30 {M : MS} (h : IM M) {k z : Int} (hz : 0 ≤ z ∧ z ≤ 39) : IM (mset M 30 k z) := by
  refine ⟨h.1, fun q => ⟨(h.2 q).1, (h.2 q).2.1, (h.2 q).2.2.1, (h.2 q).2.2.2.1, (h.2 q).2.2.2.2.1, (h.2 q).2.2.2.2.2.1, (h.2 q).2.2.2.2.2.2.1, (h.2 q).2.2.2.2.2.2.2.1, (h.2 q).2.2.2.2.2.2.2.2.1, (h.2 q).2.2.2.2.2.2.2.2.2.1, (h.2 q).2.2.2.2.2.2.2.2.2.2.1, (h.2 q).2.2.2.2.2.2.2.2.2.2.2.1, (h.2 q).2.2.2.2.2.2.2.2.2.2.2.2.1, (h.2 q).2.2.2.2.2.2.2.2.2.2.2.2.2.1, ?_⟩⟩
  have e : mset M 30 k z 30 q = if q = k then z else M 30 q := mset_f
  rw [e]
  split
  · exact hz
  · exact h.a30 q
theorem IM.s0 {M : MS} (h : IM M) {k z : Int} : IM (mset M 0 k z) := h
theorem IM.s1 {M : MS} (h : IM M) {k z : Int} : IM (mset M 1 k z) := h
theorem IM.s4 {M : MS} (h : IM M) {k z : Int} : IM (mset M 4 k z) := h
theorem IM.s6 {M : MS} (h : IM M) {k z : Int} : IM (mset M 6 k z) := h
theorem IM.s7 {M : MS} (h : IM M) {k z : Int} : IM (mset M 7 k z) := h
theorem IM.s27 {M : MS} (h : IM M) {k z : Int} : IM (mset M 27 k z) := h
theorem IM.s28 {M : MS} (h : IM M) {k z : Int} : IM (mset M 28 k z) := h
/-- the ranks of a search -/
theorem sRankN_s {M : MS} {q k : Int} (k0 : 0 ≤ k) : sRankN M q (k + 1).toNat = sRankN M q k.toNat + (@ite Int (sTyped M (M 1 (6 * q + k))) (Classical.propDecidable _) (@ite Int (sAhead M q k) (Classical.propDecidable _) 1 11) 0) := by
  rw [tnat k0]
  show _ + _ = _
  rw [ntc k0]
theorem sRankN_r {M : MS} {q : Int} : ∀ n : Nat, 0 ≤ sRankN M q n ∧ sRankN M q n ≤ 11 * n := by
  intro n
  induction n with
  | zero => exact ⟨Int.le_refl _, Int.le_refl _⟩
  | succ n ih =>
    unfold sRankN
    (repeat' split) <;> omega
theorem sRank_r {M : MS} (h : IM M) (q : Int) : 0 ≤ sRank M q ∧ sRank M q ≤ 66 := by
  have h1 := h.a2 q
  have h2 := sRankN_r (M := M) (q := q) (M 2 q).toNat
  unfold sRank
  omega
noncomputable def sShift (r : Int) : Nat → MS → Int × MS
  | 0, M => (0, M)
  | n + 1, M => if M 7 n < r then sShift r n (mset (mset M 7 (n + 1) (M 7 n)) 6 (n + 1) (M 6 n)) else (n + 1, M)
theorem sShift_z {r k : Int} {M : MS} (h : k ≤ 0) (h0 : 0 ≤ k) : sShift r k.toNat M = (k, M) := by
  have e : k = 0 := by omega
  subst e
  rfl
theorem sShift_e {r k : Int} {M : MS} (h : 0 < k) (hr : ¬ M 7 (k - 1) < r) : sShift r k.toNat M = (k, M) := by
  have e : k.toNat = (k - 1).toNat + 1 := by omega
  rw [e]
  unfold sShift
  rw [ntc (by omega), if_neg hr]
  simp
theorem sShift_s {r k : Int} {M : MS} (h : 0 < k) (hr : M 7 (k - 1) < r) : sShift r k.toNat M = sShift r (k + (-1)).toNat (mset (mset M 7 k (M 7 (k - 1))) 6 k (M 6 (k - 1))) := by
  have e : k.toNat = (k - 1).toNat + 1 := by omega
  rw [e]
  conv => lhs; unfold sShift
  rw [ntc (by omega), if_pos hr, show k + (-1) = k - 1 by omega, show k - 1 + 1 = k by omega]
/-- but for the named fields all is as before -/
def OnlyF (fs : List Nat) (M M' : MS) : Prop := ∀ f k, f ∉ fs → M' f k = M f k
theorem OnlyF.rf {fs : List Nat} {M : MS} : OnlyF fs M M := fun _ _ _ => rfl
theorem OnlyF.tr {fs : List Nat} {M M' M'' : MS} (a : OnlyF fs M M') (b : OnlyF fs M' M'') : OnlyF fs M M'' := fun f k h => (b f k h).trans (a f k h)
theorem OnlyF.st {fs : List Nat} {M M' : MS} (a : OnlyF fs M M') {f : Nat} {k z : Int} (hf : f ∈ fs) : OnlyF fs M (mset M' f k z) := fun f' k' h => (mset_n (fun e : f' = f => h (by rw [e]; exact hf))).trans (a f' k' h)
theorem sShift_o {r : Int} : ∀ (n : Nat) (M : MS), OnlyF [6, 7] M (sShift r n M).2 ∧ 0 ≤ (sShift r n M).1 ∧ (sShift r n M).1 ≤ n := by
  intro n
  induction n with
  | zero => intro M; exact ⟨OnlyF.rf, Int.le_refl _, Int.le_refl _⟩
  | succ n ih =>
    intro M
    unfold sShift
    split
    · obtain ⟨a, b, c⟩ := ih (mset (mset M 7 (n + 1) (M 7 n)) 6 (n + 1) (M 6 n))
      refine ⟨((OnlyF.rf.st (by decide)).st (by decide)).tr a, b, by omega⟩
    · exact ⟨OnlyF.rf, by show (0 : Int) ≤ n + 1; omega, by show ((n : Int) + 1) ≤ ((n + 1 : Nat) : Int); omega⟩
noncomputable def sSearch1 (M : MS) (k : Int) : MS :=
  if sRank M k = 0 then M else
    mset (mset (mset (sShift (sRank M k) (M 21 0).toNat M).2 7 (sShift (sRank M k) (M 21 0).toNat M).1 (sRank M k)) 6 (sShift (sRank M k) (M 21 0).toNat M).1 k) 21 0 ((sShift (sRank M k) (M 21 0).toNat M).2 21 0 + 1)
noncomputable def sSearchN (M : MS) : Nat → MS
  | 0 => M
  | n + 1 => sSearch1 (sSearchN M n) n
theorem sSearchN_s {M : MS} {k : Int} (h : 0 ≤ k) : sSearchN M (k + 1).toNat = sSearch1 (sSearchN M k.toNat) k := by
  rw [tnat h]
  show sSearch1 _ _ = _
  rw [ntc h]
theorem sSearchN_o {M : MS} (h0 : M 21 0 = 0) : ∀ n : Nat, OnlyF [6, 7, 21] M (sSearchN M n) ∧ 0 ≤ sSearchN M n 21 0 ∧ sSearchN M n 21 0 ≤ n := by
  intro n
  induction n with
  | zero => exact ⟨OnlyF.rf, by show 0 ≤ M 21 0; omega, by show M 21 0 ≤ 0; omega⟩
  | succ n ih =>
    obtain ⟨a, b, c⟩ := ih
    show OnlyF [6, 7, 21] M (sSearch1 (sSearchN M n) n) ∧ 0 ≤ sSearch1 (sSearchN M n) n 21 0 ∧ sSearch1 (sSearchN M n) n 21 0 ≤ ((n + 1 : Nat) : Int)
    generalize sSearchN M n = M' at a b c ⊢
    unfold sSearch1
    split
    · exact ⟨a, b, by omega⟩
    · obtain ⟨d, -⟩ := sShift_o (r := sRank M' n) (M' 21 0).toNat M'
      have d' : OnlyF [6, 7, 21] M' (sShift (sRank M' n) (M' 21 0).toNat M').2 := fun f k hf => d f k (fun q => hf (by simp at q ⊢; omega))
      refine ⟨(((a.tr d').st (by decide)).st (by decide)).st (by decide), ?_, ?_⟩
      · rw [mset_s, d 21 0 (by decide)]; omega
      · rw [mset_s, d 21 0 (by decide)]; omega
theorem IM.of67 {M M' : MS} (h : IM M) (o : OnlyF [6, 7, 21] M M') (hb : 0 ≤ M' 21 0 ∧ M' 21 0 ≤ 40) : IM M' := by
  have e : ∀ f k, f ∉ [6, 7, 21] → M' f k = M f k := o
  refine ⟨?_, fun k => ?_⟩
  · rw [e 19 0 (by decide), e 20 0 (by decide), e 22 0 (by decide), e 23 0 (by decide), e 24 0 (by decide), e 25 0 (by decide), e 26 0 (by decide), e 29 0 (by decide)]
    exact ⟨h.1.1, h.1.2.1, hb, h.1.2.2.2⟩
  · rw [e 2 k (by decide), e 3 k (by decide), e 5 k (by decide), e 8 k (by decide), e 9 k (by decide), e 10 k (by decide), e 11 k (by decide), e 12 k (by decide), e 13 k (by decide), e 14 k (by decide), e 15 k (by decide), e 16 k (by decide), e 17 k (by decide), e 18 k (by decide), e 30 k (by decide)]
    exact h.2 k
noncomputable def s_search (M : MS) : Int × MS :=
  if M 19 0 = 0 then (0, sT M 1) else (sSearchN (mset (sT M 0) 21 0 0) (M 20 0).toNat 21 0, sSearchN (mset (sT M 0) 21 0 0) (M 20 0).toNat)
theorem sWaitN_s {M : MS} {k : Int} (k0 : 0 ≤ k) : sWaitN M (k + 1).toNat = sWaitN M k.toNat + (if M 13 k = 115 then 1 else 0) := by
  rw [tnat k0]
  show _ + _ = _
  rw [ntc k0]
theorem sSumN_s {M : MS} {k : Int} (k0 : 0 ≤ k) : sSumN M (k + 1).toNat = sSumN M k.toNat + M 3 k := by
  rw [tnat k0]
  show _ + _ = _
  rw [ntc k0]
theorem sSumN_r {M : MS} (h : IM M) : ∀ n : Nat, 0 ≤ sSumN M n ∧ sSumN M n ≤ 100 * n := by
  intro n
  induction n with
  | zero => exact ⟨Int.le_refl _, Int.le_refl _⟩
  | succ n ih =>
    have := h.a3 n
    unfold sSumN
    omega

noncomputable def sLg1 (p : Int) (x : MS × Int) (k : Int) : MS × Int :=
  @ite (MS × Int) (sKd (x.1 3 (x.1 10 (9 * p + k))) = x.1 12 p ∧ ¬ sTwIn x.1 p x.2 (x.1 10 (9 * p + k))) (Classical.propDecidable _) (mset x.1 10 (9 * p + x.2) (x.1 10 (9 * p + k)), x.2 + 1) x
noncomputable def sLgN (p : Int) (M : MS) : Nat → MS × Int
  | 0 => (M, 0)
  | n + 1 => sLg1 p (sLgN p M n) n
theorem sLgN_s {p : Int} {M : MS} {k : Int} (h : 0 ≤ k) : sLgN p M (k + 1).toNat = sLg1 p (sLgN p M k.toNat) k := by
  rw [tnat h]
  show sLg1 _ _ _ = _
  rw [ntc h]
noncomputable def sLg (p : Int) (M : MS) : MS := if sFrc M p then mset (sLgN p M (M 11 p).toNat).1 11 p (sLgN p M (M 11 p).toNat).2 else M
noncomputable def sL1 (M : MS) : Nat → MS
  | 0 => M
  | n + 1 => sLg n (sL1 M n)
theorem sL1_s {M : MS} {k : Int} (h : 0 ≤ k) : sL1 M (k + 1).toNat = sLg k (sL1 M k.toNat) := by
  rw [tnat h]
  show sLg _ _ = _
  rw [ntc h]
noncomputable def sFl1 (p : Int) (M : MS) (q : Int) : MS :=
  @ite MS ((sFrc M p ∧ M 11 p < M 9 p) ∧ sKd (M 3 q) = M 12 p ∧ sFree M q ∧ ¬ sTwIn M p (M 11 p) q) (Classical.propDecidable _) (mset (mset M 10 (9 * p + M 11 p) q) 11 p (M 11 p + 1)) M
noncomputable def sFlN (p : Int) (M : MS) : Nat → MS
  | 0 => M
  | n + 1 => sFl1 p (sFlN p M n) n
theorem sFlN_s {p : Int} {M : MS} {k : Int} (h : 0 ≤ k) : sFlN p M (k + 1).toNat = sFl1 p (sFlN p M k.toNat) k := by
  rw [tnat h]
  show sFl1 _ _ _ = _
  rw [ntc h]
theorem sFlN_e {p : Int} {M M' : MS} {k : Int} (h : 0 ≤ k) (e : M' = sFlN p M k.toNat) (hx : ¬ (sFrc M' p ∧ M' 11 p < M' 9 p)) : ∀ n : Int, k ≤ n → sFlN p M n.toNat = M' := by
  have key : ∀ j : Nat, sFlN p M (k.toNat + j) = M' := by
    intro j
    induction j with
    | zero => exact e.symm
    | succ j ih =>
      show sFl1 p (sFlN p M (k.toNat + j)) _ = M'
      rw [ih]
      unfold sFl1
      rw [if_neg (fun q => hx q.1)]
  intro n hn
  have := key (n.toNat - k.toNat)
  rwa [show k.toNat + (n.toNat - k.toNat) = n.toNat by omega] at this
noncomputable def sL2 (M : MS) : Nat → MS
  | 0 => M
  | n + 1 => sFlN n (sL2 M n) (M 20 0).toNat
theorem sL2_s {M : MS} {k : Int} (h : 0 ≤ k) : sL2 M (k + 1).toNat = sFlN k (sL2 M k.toNat) (M 20 0).toNat := by
  rw [tnat h]
  show sFlN _ _ _ = _
  rw [ntc h]
noncomputable def sSettle (M : MS) : MS := sL2 (sL1 M (M 22 0).toNat) (M 22 0).toNat
theorem sLgN_o {p : Int} {M : MS} (hI : IM M) : ∀ n : Nat, OnlyF [10] M (sLgN p M n).1 ∧ IM (sLgN p M n).1 ∧ 0 ≤ (sLgN p M n).2 ∧ (sLgN p M n).2 ≤ n := by
  intro n
  induction n with
  | zero => exact ⟨OnlyF.rf, hI, Int.le_refl _, Int.le_refl _⟩
  | succ n ih =>
    obtain ⟨a, b, c, d⟩ := ih
    show OnlyF [10] M (sLg1 p (sLgN p M n) n).1 ∧ IM (sLg1 p (sLgN p M n) n).1 ∧ 0 ≤ (sLg1 p (sLgN p M n) n).2 ∧ (sLg1 p (sLgN p M n) n).2 ≤ ((n + 1 : Nat) : Int)
    unfold sLg1
    split
    · exact ⟨a.st (by decide), b.s10 (b.a10 _), by show 0 ≤ (sLgN p M n).2 + 1; omega, by show (sLgN p M n).2 + 1 ≤ ((n + 1 : Nat) : Int); omega⟩
    · exact ⟨a, b, c, by omega⟩
theorem sLg_o {p : Int} {M : MS} (hI : IM M) : OnlyF [10, 11] M (sLg p M) ∧ IM (sLg p M) := by
  unfold sLg
  split
  · obtain ⟨a, b, c, d⟩ := sLgN_o (p := p) hI (M 11 p).toNat
    have := hI.a11 p
    exact ⟨OnlyF.st (fun f k h => a f k (fun q => h (by simp at q ⊢; omega))) (by decide), b.s11 ⟨c, by omega⟩⟩
  · exact ⟨OnlyF.rf, hI⟩
theorem sL1_o {M : MS} (hI : IM M) : ∀ n : Nat, OnlyF [10, 11] M (sL1 M n) ∧ IM (sL1 M n) := by
  intro n
  induction n with
  | zero => exact ⟨OnlyF.rf, hI⟩
  | succ n ih =>
    obtain ⟨c, d⟩ := sLg_o (p := n) ih.2
    exact ⟨ih.1.tr c, d⟩
theorem sFl1_o {p q : Int} {M : MS} (hI : IM M) (hq : 0 ≤ q ∧ q ≤ 39) : OnlyF [10, 11] M (sFl1 p M q) ∧ IM (sFl1 p M q) := by
  unfold sFl1
  split
  · rename_i h
    have := hI.a9 p
    have := hI.a11 p
    exact ⟨(OnlyF.rf.st (by decide)).st (by decide), (hI.s10 hq).s11 (by omega)⟩
  · exact ⟨OnlyF.rf, hI⟩
theorem sFlN_o {p : Int} {M : MS} (hI : IM M) : ∀ n : Nat, n ≤ 40 → OnlyF [10, 11] M (sFlN p M n) ∧ IM (sFlN p M n) := by
  intro n
  induction n with
  | zero => exact fun _ => ⟨OnlyF.rf, hI⟩
  | succ n ih =>
    intro hn
    obtain ⟨a, b⟩ := ih (by omega)
    obtain ⟨c, d⟩ := sFl1_o (p := p) (q := n) b (by omega)
    exact ⟨a.tr c, d⟩
theorem sL2_o {M : MS} (hI : IM M) : ∀ n : Nat, OnlyF [10, 11] M (sL2 M n) ∧ IM (sL2 M n) := by
  intro n
  induction n with
  | zero => exact ⟨OnlyF.rf, hI⟩
  | succ n ih =>
    have h20 := hI.1.2.1
    obtain ⟨c, d⟩ := sFlN_o (p := n) ih.2 (M 20 0).toNat (by omega)
    exact ⟨ih.1.tr c, d⟩
theorem sSettle_o {M : MS} (hI : IM M) : OnlyF [10, 11] M (sSettle M) ∧ IM (sSettle M) := by
  obtain ⟨a, b⟩ := sL1_o hI (M 22 0).toNat
  obtain ⟨c, d⟩ := sL2_o b (M 22 0).toNat
  exact ⟨a.tr c, d⟩
theorem lp_dn {P : Int → Prop} (lo : Int) (step : ∀ k, (lo < k → P (k + (-1))) → P k) : ∀ k, P k := by
  have key : ∀ (n : Nat) (k : Int), (k - lo).toNat = n → P k := by
    intro n
    induction n with
    | zero => intro k hk; exact step k (fun q => by omega)
    | succ n ih => intro k hk; exact step k (fun q => ih (k + (-1)) (by omega))
  exact fun k => key _ k rfl


-- deps: 09 10 11 12 21 30
/-- bounds that the model's rows keep -/
def IM (M : MS) : Prop :=
  ((0 ≤ M 19 0 ∧ M 19 0 ≤ 6) ∧ (0 ≤ M 20 0 ∧ M 20 0 ≤ 40) ∧ (0 ≤ M 21 0 ∧ M 21 0 ≤ 40) ∧ (0 ≤ M 22 0 ∧ M 22 0 ≤ 12) ∧ (0 ≤ M 23 0 ∧ M 23 0 ≤ 30) ∧ (0 ≤ M 24 0 ∧ M 24 0 ≤ 999) ∧ (0 ≤ M 25 0 ∧ M 25 0 ≤ 1000000) ∧ (0 ≤ M 26 0 ∧ M 26 0 ≤ 1000000) ∧ (M 29 0 = 0 ∨ M 29 0 = 1)) ∧
  ∀ k, (0 ≤ M 2 k ∧ M 2 k ≤ 6) ∧ (0 ≤ M 3 k ∧ M 3 k ≤ 100) ∧ (-100 ≤ M 5 k ∧ M 5 k ≤ 999) ∧ (0 ≤ M 8 k ∧ M 8 k ≤ 999) ∧ (0 ≤ M 9 k ∧ M 9 k ≤ 9) ∧ (0 ≤ M 10 k ∧ M 10 k ≤ 39) ∧ (0 ≤ M 11 k ∧ M 11 k ≤ 9) ∧ (0 ≤ M 12 k ∧ M 12 k < 65536) ∧ (0 ≤ M 13 k ∧ M 13 k < 65536) ∧ (M 14 k = 0 ∨ M 14 k = 1) ∧ (M 15 k = 0 ∨ M 15 k = 1) ∧ (0 ≤ M 16 k ∧ M 16 k ≤ 39) ∧ (0 ≤ M 17 k ∧ M 17 k ≤ 27) ∧ (0 ≤ M 18 k ∧ M 18 k < 65536) ∧ (0 ≤ M 30 k ∧ M 30 k ≤ 39)
theorem IM.a2 {M : MS} (h : IM M) (k : Int) : 0 ≤ M 2 k ∧ M 2 k ≤ 6 := (h.2 k).1
theorem IM.a3 {M : MS} (h : IM M) (k : Int) : 0 ≤ M 3 k ∧ M 3 k ≤ 100 := (h.2 k).2.1
theorem IM.a5 {M : MS} (h : IM M) (k : Int) : -100 ≤ M 5 k ∧ M 5 k ≤ 999 := (h.2 k).2.2.1
theorem IM.a8 {M : MS} (h : IM M) (k : Int) : 0 ≤ M 8 k ∧ M 8 k ≤ 999 := (h.2 k).2.2.2.1
theorem IM.a9 {M : MS} (h : IM M) (k : Int) : 0 ≤ M 9 k ∧ M 9 k ≤ 9 := (h.2 k).2.2.2.2.1
theorem IM.a10 {M : MS} (h : IM M) (k : Int) : 0 ≤ M 10 k ∧ M 10 k ≤ 39 := (h.2 k).2.2.2.2.2.1
theorem IM.a11 {M : MS} (h : IM M) (k : Int) : 0 ≤ M 11 k ∧ M 11 k ≤ 9 := (h.2 k).2.2.2.2.2.2.1
theorem IM.a12 {M : MS} (h : IM M) (k : Int) : 0 ≤ M 12 k ∧ M 12 k < 65536 := (h.2 k).2.2.2.2.2.2.2.1
theorem IM.a13 {M : MS} (h : IM M) (k : Int) : 0 ≤ M 13 k ∧ M 13 k < 65536 := (h.2 k).2.2.2.2.2.2.2.2.1
theorem IM.a14 {M : MS} (h : IM M) (k : Int) : M 14 k = 0 ∨ M 14 k = 1 := (h.2 k).2.2.2.2.2.2.2.2.2.1
theorem IM.a15 {M : MS} (h : IM M) (k : Int) : M 15 k = 0 ∨ M 15 k = 1 := (h.2 k).2.2.2.2.2.2.2.2.2.2.1
theorem IM.a16 {M : MS} (h : IM M) (k : Int) : 0 ≤ M 16 k ∧ M 16 k ≤ 39 := (h.2 k).2.2.2.2.2.2.2.2.2.2.2.1
theorem IM.a17 {M : MS} (h : IM M) (k : Int) : 0 ≤ M 17 k ∧ M 17 k ≤ 27 := (h.2 k).2.2.2.2.2.2.2.2.2.2.2.2.1
theorem IM.a18 {M : MS} (h : IM M) (k : Int) : 0 ≤ M 18 k ∧ M 18 k < 65536 := (h.2 k).2.2.2.2.2.2.2.2.2.2.2.2.2.1
theorem IM.a30 {M : MS} (h : IM M) (k : Int) : 0 ≤ M 30 k ∧ M 30 k ≤ 39 := (h.2 k).2.2.2.2.2.2.2.2.2.2.2.2.2.2
/-- what the model's methods answer -/
abbrev sT (M : MS) (c : Int) : MS := mset M 27 0 c
def sKd (l : Int) : Int := if l < 34 then 101 else if l < 67 then 109 else 104
abbrev sFrc (M : MS) (p : Int) : Prop := M 14 p = 0 ∧ M 24 0 ≤ M 8 p
noncomputable def sHb (M : MS) (p : Int) : Int := if sFrc M p then M 11 p else 0
abbrev sTw (M : MS) (a b : Int) : Prop := a ≠ b ∧ M 4 a = M 4 b
def sHas (M : MS) (s q : Int) : Prop := ∃ k, 0 ≤ k ∧ k < M 17 s ∧ M 16 (27 * s + k) = q
def sHeldP (M : MS) (q : Int) : Prop := ∃ p k, 0 ≤ p ∧ p < M 22 0 ∧ 0 ≤ k ∧ k < sHb M p ∧ M 10 (9 * p + k) = q
def sHeldS (M : MS) (q : Int) : Prop := ∃ s, 0 ≤ s ∧ s < M 23 0 ∧ M 13 s = 115 ∧ sHas M s q
def sHeld (M : MS) (q : Int) : Prop := sHeldP M q ∨ sHeldS M q
def sFree (M : MS) (q : Int) : Prop := ¬ sHeld M q ∧ M 5 q < M 24 0 - 2
def sTwIn (M : MS) (p n q : Int) : Prop := ∃ k, 0 ≤ k ∧ k < n ∧ sTw M (M 10 (9 * p + k)) q
def sTyped (M : MS) (w : Int) : Prop := ∃ k, 0 ≤ k ∧ k < M 19 0 ∧ M 0 k = w
def sAhead (M : MS) (q i : Int) : Prop := ∃ k, 0 ≤ k ∧ k < i ∧ M 1 (6 * q + k) = M 1 (6 * q + i)
noncomputable def sRankN (M : MS) (q : Int) : Nat → Int
  | 0 => 0
  | n + 1 => sRankN M q n + (@ite Int (sTyped M (M 1 (6 * q + n))) (Classical.propDecidable _) (@ite Int (sAhead M q n) (Classical.propDecidable _) 1 11) 0)
noncomputable def sRank (M : MS) (q : Int) : Int := sRankN M q (M 2 q).toNat
abbrev isQ (M : MS) (q : Int) : Prop := 0 ≤ q ∧ q < M 20 0
abbrev isP (M : MS) (p : Int) : Prop := 0 ≤ p ∧ p < M 22 0
abbrev isS (M : MS) (s : Int) : Prop := 0 ≤ s ∧ s < M 23 0
abbrev isW (w : Int) : Prop := 0 ≤ w ∧ w ≤ 29
noncomputable def tQ (M : MS) (q : Int) : Int := if isQ M q then 0 else 1
noncomputable def tP (M : MS) (q : Int) : Int := if isP M q then 0 else 1
noncomputable def tS (M : MS) (q : Int) : Int := if isS M q then 0 else 1
noncomputable def s_type (M : MS) (w : Int) : Int × MS := if ¬ (0 ≤ w ∧ w ≤ 29) then (0, sT M 1) else if M 19 0 = 6 then (0, sT M 2) else (M 19 0 + 1, mset (mset (sT M 0) 0 (M 19 0) w) 19 0 (M 19 0 + 1))
noncomputable def s_wordAt (M : MS) (q i : Int) : Int × MS := if ¬ isQ M q then (0, sT M 1) else if ¬ (0 ≤ i ∧ i < M 2 q) then (0, mset (sT M 0) 27 0 2) else (M 1 (6 * q + i), sT M 0)
noncomputable def s_level (M : MS) (q : Int) : Int × MS := if ¬ isQ M q then (0, sT M 1) else (M 3 q, sT M 0)
noncomputable def s_kind (M : MS) (q : Int) : Int × MS := if ¬ isQ M q then (32, sT M 1) else (sKd (M 3 q), sT M 0)
noncomputable def s_hitAt (M : MS) (f : Nat) (i : Int) : Int × MS := if ¬ (0 ≤ i ∧ i < M 21 0) then (0, sT M 1) else (M f i, sT M 0)
noncomputable def s_held (M : MS) (p : Int) : Int × MS := if ¬ isP M p then (0, sT M 1) else (sHb M p, sT M 0)
noncomputable def s_heldAt (M : MS) (p i : Int) : Int × MS := if ¬ isP M p then (0, sT M 1) else if ¬ (0 ≤ i ∧ i < sHb M p) then (0, mset (sT M 0) 27 0 2) else (M 10 (9 * p + i), sT M 0)
noncomputable def s_lacks (M : MS) (p : Int) : Int × MS := if ¬ isP M p then (0, sT M 1) else if ¬ sFrc M p then (0, sT M 0) else (M 9 p - M 11 p, sT M 0)
noncomputable def s_size (M : MS) (p : Int) : Int × MS := if ¬ isS M p then (0, sT M 1) else (M 17 p, sT M 0)
noncomputable def s_stateOf (M : MS) (p : Int) : Int × MS := if ¬ isS M p then (32, sT M 1) else (M 13 p, sT M 0)
noncomputable def s_questionAt (M : MS) (p i : Int) : Int × MS := if ¬ isS M p then (0, sT M 1) else if ¬ (0 ≤ i ∧ i < M 17 p) then (0, mset (sT M 0) 27 0 2) else (M 16 (27 * p + i), sT M 0)
noncomputable def sWaitN (M : MS) : Nat → Int
  | 0 => 0
  | n + 1 => sWaitN M n + (if M 13 n = 115 then 1 else 0)
noncomputable def sSumN (M : MS) : Nat → Int
  | 0 => 0
  | n + 1 => sSumN M n + M 3 n
theorem tQ_c (M : MS) (q : Int) : (tQ M q = 0 ∧ 0 ≤ q ∧ q < M 20 0) ∨ (tQ M q = 1 ∧ ¬ (0 ≤ q ∧ q < M 20 0)) := by
  unfold tQ isQ
  split
  · exact Or.inl ⟨rfl, by assumption⟩
  · exact Or.inr ⟨rfl, by assumption⟩
theorem tP_c (M : MS) (q : Int) : (tP M q = 0 ∧ 0 ≤ q ∧ q < M 22 0) ∨ (tP M q = 1 ∧ ¬ (0 ≤ q ∧ q < M 22 0)) := by
  unfold tP isP
  split
  · exact Or.inl ⟨rfl, by assumption⟩
  · exact Or.inr ⟨rfl, by assumption⟩
theorem tS_c (M : MS) (q : Int) : (tS M q = 0 ∧ 0 ≤ q ∧ q < M 23 0) ∨ (tS M q = 1 ∧ ¬ (0 ≤ q ∧ q < M 23 0)) := by
  unfold tS isS
  split
  · exact Or.inl ⟨rfl, by assumption⟩
  · exact Or.inr ⟨rfl, by assumption⟩
theorem sKd_r (l : Int) : sKd l = 101 ∨ sKd l = 109 ∨ sKd l = 104 := by
  unfold sKd
  split
  · exact Or.inl rfl
  · split
    · exact Or.inr (Or.inl rfl)
    · exact Or.inr (Or.inr rfl)
theorem sHb_r {M : MS} (h : IM M) (p : Int) : 0 ≤ sHb M p ∧ sHb M p ≤ 9 ∧ (sHb M p = M 11 p ∨ sHb M p = 0) := by
  have := h.a11 p
  unfold sHb
  split <;> omega
theorem tnat {k : Int} (h : 0 ≤ k) : (k + 1).toNat = k.toNat + 1 := by omega
theorem ntc {k : Int} (h : 0 ≤ k) : ((k.toNat : Nat) : Int) = k := Int.toNat_of_nonneg h
theorem all_succ {P : Int → Prop} {k : Int} (h : ∀ j, 0 ≤ j → j < k → P j) (hk : P k) : ∀ j, 0 ≤ j → j < k + 1 → P j := by
  intro j a b
  by_cases e : j = k
  · rw [e]; exact hk
  · exact h j a (by omega)
noncomputable def tQQ (M : MS) (a b : Int) : Int := if isQ M a ∧ isQ M b then 0 else 1

/-- the beginning -/
abbrev Z0 : MS := fun _ _ => 0
def A0 : AD := fun f i => if f = 6 then (if i = 45 then 10 else if i = 0 then 11 else if i = 46 then 12 else if i = 47 then 13 else if i = 1 then 14 else 15) else if f = 8 then 8 else if f = 9 then 9 else if f = 10 then 16 else 0
def g0 : Nat → Nat × Int := fun q => if q = 8 then (8, 0) else if q = 9 then (9, 0) else if q = 10 then (6, 45) else if q = 11 then (6, 0) else if q = 12 then (6, 46) else if q = 13 then (6, 47) else if q = 14 then (6, 1) else if q = 15 then (6, 2) else if q = 16 then (10, 0) else (11, 0)
theorem Z0_L {l : Int} (h : vL Z0 l) : l = 0 ∨ l = 1 ∨ l = 2 ∨ l = 45 ∨ l = 46 ∨ l = 47 := by
  have h : (0 ≤ l ∧ l < 3) ∨ (3 ≤ l ∧ l < 3 + 0) ∨ (15 ≤ l ∧ l < 15 + 0) ∨ (45 ≤ l ∧ l < 48) := h
  omega
theorem ID0 : ID Z0 := by
  refine ⟨⟨⟨rfl, rfl, rfl⟩, fun k a b => ?_, fun k a b => ?_, fun k a b => ?_, ?_, fun p _ _ => ?_, fun s _ _ => ?_⟩, ⟨?_, ?_, Or.inl rfl, ?_, ?_, ?_⟩, fun k => ⟨?_, ?_, ?_, ?_, ?_, ?_, Or.inl rfl, ?_, ?_, ?_, Or.inl rfl, ?_, ?_, ?_, Or.inl rfl, ?_, Or.inl rfl, ?_, ?_⟩⟩
  · have b : k < 0 := b
    omega
  · have b : k < 0 := b
    omega
  · have b : k < 0 := b
    omega
  all_goals simp [Z0]
theorem IM0 : IM Z0 := by
  refine ⟨⟨?_, ?_, ?_, ?_, ?_, ?_, ?_, ?_, Or.inl rfl⟩, fun k => ⟨?_, ?_, ?_, ?_, ?_, ?_, ?_, ?_, ?_, Or.inl rfl, Or.inl rfl, ?_, ?_, ?_, ?_⟩⟩
  all_goals simp [Z0]
theorem DM0 : DM Z0 Z0 := by
  have nQ : ∀ q, ¬ iQ Z0 q := fun q h => by
    have h : 0 ≤ q ∧ q < 0 := h
    omega
  have nP : ∀ q, ¬ iP Z0 q := fun q h => by
    have h : 0 ≤ q ∧ q < 0 := h
    omega
  have nS : ∀ q, ¬ iS Z0 q := fun q h => by
    have h : 0 ≤ q ∧ q < 0 := h
    omega
  have nL : ∀ l, ¬ pl Z0 l := fun l h => by
    have h : (3 ≤ l ∧ l < 3 + 0) ∨ (15 ≤ l ∧ l < 15 + 0 ∧ (0 : Int) = 115) := h
    omega
  refine ⟨⟨⟨⟨⟨rfl, rfl, rfl⟩, ⟨rfl, rfl, rfl, rfl, rfl⟩, fun _ _ _ => rfl, fun q h => absurd h (nQ q), fun q _ h => absurd h (nQ q), fun q h => absurd h (nP q), fun q h => absurd h (nS q), fun _ _ => rfl, fun _ _ => rfl⟩, ⟨rfl, fun _ _ _ => ⟨rfl, rfl⟩⟩, fun q h => absurd h (nS q)⟩, ID0, ⟨fun l _ _ _ h => absurd h (nL l), fun q h => absurd h (nQ q), fun l _ h => absurd h (nL l)⟩, fun q h => absurd h (nP q), fun _ _ => rfl⟩, IM0, fun q h => absurd h (nQ q), fun q h => absurd h (nS q), fun _ => ?_⟩
  simp [Z0]
theorem DR.ini {h0 h1 h : AH} {N U : Nat} (X : XH h0 h1) (hi : ∀ j, h_i h0 8 j = 0) (e : ∀ q, 8 ≤ q → q < 18 → h_k h q = h_k h1 q ∧ h_l h q = h_l h1 q ∧ (∀ j, h_i h q j = h_i h1 q j) ∧ ∀ j, h_r h q j = h_r h1 q j) (hn : h_n h = 41) (hk : ∀ q, h_k h q ≠ 0 → 8 ≤ q ∧ q < 41) (hu : h_u h + 60000 ≤ U) (hN : 3200 ≤ N) (h1' : N + 100 ≤ z_CC) (h2' : U + 3000 ≤ z_CS) : DR h A0 Z0 N U := by
  obtain ⟨-, ⟨x1, x2, x3, x4⟩, ⟨y1, y2, y3⟩, -, -, w, ⟨t1, t2, t3, t4⟩, t5, t6, t7⟩ := X
  have E8 := e 8 (by decide) (by decide)
  have E9 := e 9 (by decide) (by decide)
  have E16 := e 16 (by decide) (by decide)
  have E17 := e 17 (by decide) (by decide)
  have W : ∀ i, i < 6 → h_r h 8 (xf i) = 10 + i ∧ h_k h (10 + i) = 5 ∧ h_r h (10 + i) 1 = 1 ∧ h_i h (10 + i) 2 = 0 := fun i hi => by
    obtain ⟨a, b, c, d⟩ := e (10 + i) (by omega) (by omega)
    obtain ⟨p, q, r, s⟩ := w i hi
    exact ⟨(E8.2.2.2 _).trans p, a.trans q, (d 1).trans r, (c 2).trans s⟩
  have LL : ∀ a : Nat, 10 ≤ a → a < 16 → ∀ E, LR h a 0 1 0 E := fun a ha hb E => by
    obtain ⟨-, q, r, s⟩ := W (a - 10) (by omega)
    rw [show 10 + (a - 10) = a by omega] at q r s
    exact ⟨q, r, s, ⟨Int.le_refl _, Int.le_refl _, by decide⟩, fun _ => rfl, fun c => absurd rfl c, fun k hk => by omega⟩
  have sm0 : sm (fun _ : Int => 60 - 0) 48 = 2880 := rfl
  refine ⟨g0, fun _ => 1, fun _ => 0, 17, 16, ⟨?_, ?_, ⟨⟨Int.le_refl _, by decide⟩, ⟨Int.le_refl _, by decide⟩, Int.le_refl _, by decide⟩, fun _ _ => ⟨(by decide : (-2147483648 : Int) ≤ 0), (by decide : (0 : Int) ≤ 2147483647)⟩, ⟨rfl, rfl, rfl, rfl, rfl, rfl, rfl, rfl, rfl⟩⟩, fun f i hv => ?_, ⟨⟨?_, ?_, ?_, ?_, ?_, ?_, ?_, ?_⟩, ?_, fun q hq => ?_, fun q hq => ?_, fun q hq => ?_⟩, fun F t hv => ?_, fun l hv => ?_, ⟨⟨?_, ?_, ?_, ⟨Int.le_refl _, by decide, by decide⟩, ?_, ⟨?_, ?_⟩, fun k hk => ?_, fun k _ => ?_⟩, by decide, rfl, by decide⟩, ⟨fun _ _ => rfl, ?_, ?_, h1', h2'⟩⟩
  · intro q hq
    rw [hn]
    exact hk q hq
  · rw [hn]; exact Nat.le_refl _
  · rcases hv with ⟨-, a, b⟩ | ⟨-, a, b⟩ | ⟨-, a, b⟩ | ⟨rfl, hl⟩ | ⟨hf, rfl⟩
    · have b : i < 0 := b
      omega
    · have b : i < 0 := b
      omega
    · have b : i < 0 := b
      omega
    · rcases Z0_L hl with rfl | rfl | rfl | rfl | rfl | rfl
      · exact ⟨(W 1 (by decide)).2.1, rfl, by decide⟩
      · exact ⟨(W 4 (by decide)).2.1, rfl, by decide⟩
      · exact ⟨(W 5 (by decide)).2.1, rfl, by decide⟩
      · exact ⟨(W 0 (by decide)).2.1, rfl, by decide⟩
      · exact ⟨(W 2 (by decide)).2.1, rfl, by decide⟩
      · exact ⟨(W 3 (by decide)).2.1, rfl, by decide⟩
    · rcases hf with rfl | rfl | rfl
      · exact ⟨E8.1.trans x1, rfl, by decide⟩
      · exact ⟨E9.1.trans y1, rfl, by decide⟩
      · exact ⟨E16.1.trans t1, rfl, by decide⟩
  · exact (E8.2.2.2 0).trans x3
  · exact (W 0 (by decide)).1
  · exact (W 1 (by decide)).1
  · exact (W 2 (by decide)).1
  · exact (W 3 (by decide)).1
  · exact (W 4 (by decide)).1
  · exact (W 5 (by decide)).1
  · exact (E8.2.2.2 12).trans x4
  · exact E9.2.1.trans y2
  · have hq : 0 ≤ q ∧ q < 0 := hq
    omega
  · have hq : 0 ≤ q ∧ q < 0 := hq
    omega
  · have hq : 0 ≤ q ∧ q < 0 := hq
    omega
  · rcases hv with ⟨rfl, a, b⟩ | ⟨hF, rfl⟩ | ⟨-, a, b⟩ | ⟨-, a, b, -⟩ | ⟨-, a, b⟩ | ⟨-, a, b⟩ | ⟨-, a, b⟩ | ⟨-, a, b, -⟩
    · exact (E9.2.2.1 _).trans (y3 _)
    · rcases hF with rfl | rfl | rfl | rfl | rfl <;> exact (E8.2.2.1 _).trans ((x2 _).trans (hi _))
    · have b : t < 0 := b
      omega
    · have b : t / 6 < 0 := b
      omega
    · have b : t / 30 < 0 := b
      omega
    · have b : t < 0 := b
      omega
    · have b : t < 0 := b
      omega
    · have b : t / 27 < 0 := b
      omega
  · refine ⟨?_, ⟨(by decide : (0 : Nat) ≤ 60), (by decide : (0 : Int) ≤ 40)⟩, fun c => absurd rfl c, fun k a b => ?_⟩
    · rcases Z0_L hv with rfl | rfl | rfl | rfl | rfl | rfl <;> exact LL _ (by decide) (by decide) _
    · have b : k < 0 := b
      omega
  · exact E16.1.trans t1
  · exact (E16.2.2.2 0).trans t2
  · exact (E16.2.2.1 3).trans t3
  · exact (E16.2.2.1 1).trans t4
  · exact E17.1.trans t5
  · exact E17.2.1.trans t6
  · exact (E17.2.2.1 _).trans (t7 _)
  · rw [E17.2.2.1, t7]; decide
  · rw [sm0]; omega
  · rw [sm0]; omega

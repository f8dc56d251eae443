/-! ===== the world as numbers: addresses by order of making, kinds, lengths, whole-number slots, reference slots ===== -/
abbrev AV : Type := Int ⊕ (Nat ⊕ Value)
abbrev xI (z : Int) : AV := Sum.inl z
abbrev xR (n : Nat) : AV := Sum.inr (Sum.inl n)
abbrev xV (v : Value) : AV := Sum.inr (Sum.inr v)
abbrev xU : AV := xV (.retAddr 0)
abbrev GP : Type := va_G × (Nat → ClassId) × Nat × (Nat → Nat) × Nat × (Nat → Int32)
def g_D (g : GP) : va_G := g.1
def g_A (g : GP) : Nat → ClassId := g.2.1
def g_b (g : GP) : Nat := g.2.2.1
def g_s (g : GP) : Nat → Nat := g.2.2.2.1
def g_l (g : GP) : Nat := g.2.2.2.2.1
def g_x (g : GP) : Nat → Int32 := g.2.2.2.2.2
def g_a (g : GP) (n : Nat) : Nat := if n < 8 then g_s g n else g_b g + (n - 8)
def rv (g : GP) (n : Nat) : Value := if n = 0 then .null else .ref (g_a g n)
def cv (g : GP) : AV → Value
  | .inl z => .int (Int32.ofInt z)
  | .inr (.inl n) => rv g n
  | .inr (.inr v) => v
theorem rv_pos {g : GP} {n : Nat} (h : n ≠ 0) : rv g n = .ref (g_a g n) := if_neg h
theorem rv_0 {g : GP} : rv g 0 = .null := rfl
theorem ga_own {g : GP} {n : Nat} (h : 8 ≤ n) : g_a g n = g_b g + (n - 8) := if_neg (by omega)
theorem ga_inj {g : GP} {a b : Nat} (ha : 8 ≤ a) (hb : 8 ≤ b) (h : g_a g a = g_a g b) : a = b := by
  rw [ga_own ha, ga_own hb] at h
  omega
abbrev AH : Type := (Nat → Nat) × (Nat → Nat) × (Nat → Nat → Int) × (Nat → Nat → Nat) × Nat × Nat
def h_k (h : AH) : Nat → Nat := h.1
def h_l (h : AH) : Nat → Nat := h.2.1
def h_i (h : AH) : Nat → Nat → Int := h.2.2.1
def h_r (h : AH) : Nat → Nat → Nat := h.2.2.2.1
def h_n (h : AH) : Nat := h.2.2.2.2.1
def h_u (h : AH) : Nat := h.2.2.2.2.2
def u_2 {α : Type} (f : Nat → Nat → α) (a j : Nat) (x : α) : Nat → Nat → α := fun a' j' => if a' = a ∧ j' = j then x else f a' j'
def u_1 {α : Type} (f : Nat → α) (a : Nat) (x : α) : Nat → α := fun a' => if a' = a then x else f a'
theorem u2_s {α : Type} {f : Nat → Nat → α} {a j : Nat} {x : α} : u_2 f a j x a j = x := by simp [u_2]
theorem u2_a {α : Type} {f : Nat → Nat → α} {a j a' j' : Nat} {x : α} (h : a' ≠ a) : u_2 f a j x a' j' = f a' j' := by simp [u_2, h]
theorem u2_j {α : Type} {f : Nat → Nat → α} {a j a' j' : Nat} {x : α} (h : j' ≠ j) : u_2 f a j x a' j' = f a' j' := by simp [u_2, h]
theorem u1_s {α : Type} {f : Nat → α} {a : Nat} {x : α} : u_1 f a x a = x := by simp [u_1]
theorem u1_n {α : Type} {f : Nat → α} {a a' : Nat} {x : α} (h : a' ≠ a) : u_1 f a x a' = f a' := by simp [u_1, h]
/-- a whole number stored, a reference stored -/
def h_si (h : AH) (a j : Nat) (z : Int) : AH := (h.1, h.2.1, u_2 h.2.2.1 a j z, h.2.2.2.1, h.2.2.2.2.1, h.2.2.2.2.2)
def h_sr (h : AH) (a j : Nat) (r : Nat) : AH := (h.1, h.2.1, h.2.2.1, u_2 h.2.2.2.1 a j r, h.2.2.2.2.1, h.2.2.2.2.2)
/-- a thing made: its kind, its length, its slots -/
def h_mk (h : AH) (k n N : Nat) : AH := (u_1 h.1 h.2.2.2.2.1 k, u_1 h.2.1 h.2.2.2.2.1 n, (fun a j => if a = h.2.2.2.2.1 then 0 else h.2.2.1 a j), (fun a j => if a = h.2.2.2.2.1 then 0 else h.2.2.2.1 a j), h.2.2.2.2.1 + 1, h.2.2.2.2.2 + N)
/-- only the counts moved (a thing was made that nobody holds) -/
def h_ct (h : AH) (n u : Nat) : AH := (h.1, h.2.1, h.2.2.1, h.2.2.2.1, n, u)
/-- a stretch copied -/
def h_ci (h : AH) (a sp b dp n : Nat) : AH := (h.1, h.2.1, (fun q j => if q = b ∧ dp ≤ j ∧ j < dp + n then h.2.2.1 a (sp + (j - dp)) else h.2.2.1 q j), h.2.2.2.1, h.2.2.2.2.1, h.2.2.2.2.2)
def h_cr (h : AH) (a sp b dp n : Nat) : AH := (h.1, h.2.1, h.2.2.1, (fun q j => if q = b ∧ dp ≤ j ∧ j < dp + n then h.2.2.2.1 a (sp + (j - dp)) else h.2.2.2.1 q j), h.2.2.2.2.1, h.2.2.2.2.2)
/-- the fields of the classes: how many, which are references -/
def c_N : Nat → Nat
  | 0 => 4
  | 1 => 4
  | 2 => 6
  | 3 => 6
  | 4 => 3
  | 5 => 5
  | 6 => 11
  | 7 => 3
  | 8 => 13
  | 9 => 31
  | _ => 0
def c_R : Nat → Nat → Bool
  | 0, 0 => true
  | 1, 0 => true
  | 2, 0 => true
  | 2, 1 => true
  | 2, 2 => true
  | 2, 3 => true
  | 2, 5 => true
  | 3, 0 => true
  | 3, 1 => true
  | 3, 2 => true
  | 3, 3 => true
  | 3, 5 => true
  | 4, 1 => true
  | 5, 3 => true
  | 6, 1 => true
  | 6, 4 => true
  | 7, 0 => true
  | 7, 1 => true
  | 8, 0 => true
  | 8, 2 => true
  | 8, 3 => true
  | 8, 4 => true
  | 8, 5 => true
  | 8, 10 => true
  | 8, 11 => true
  | 8, 12 => true
  | 9, 0 => true
  | 9, 1 => true
  | 9, 2 => true
  | 9, 3 => true
  | 9, 4 => true
  | 9, 5 => true
  | 9, 6 => true
  | 9, 7 => true
  | 9, 8 => true
  | 9, 9 => true
  | 9, 10 => true
  | 9, 11 => true
  | 9, 12 => true
  | 9, 13 => true
  | 9, 14 => true
  | 9, 15 => true
  | 9, 16 => true
  | 9, 17 => true
  | 9, 18 => true
  | 9, 30 => true
  | _, _ => false
def f_v (g : GP) (r : Bool) (z : Int) (n : Nat) : Value := if r = true then rv g n else .int (Int32.ofInt z)
def a_v (g : GP) (t : Nat) (z : Int) (n : Nat) : Value := if t = 4 then rv g n else if t = 5 then .long (Int64.ofInt z) else if t = 6 then .double (UInt64.ofNat z.toNat) else .int (Int32.ofInt z)
def g_ty : Nat → FieldType
  | 0 => .byte
  | 1 => .char
  | 2 => .int
  | 3 => .boolean
  | 4 => .object "java/lang/Object"
  | 5 => .long
  | _ => .double
def g_t (g : GP) : List (ClassId × FieldType) := [(g_A g 0, .byte), (g_A g 1, .char), (g_A g 2, .int), (g_A g 3, .boolean), (g_A g 4, .object "java/lang/Object"), (g_A g 5, .long), (g_A g 6, .double)]
/-- the cell of the thing a -/
def Ce (g : GP) (h : AH) (a : Nat) (cell : Cell) : Prop :=
  (h_k h a ≤ 10 ∧ cell.cls = (g_D g).1 (h_k h a - 1) ∧ cell.vm = .none ∧ ∀ j, j < c_N (h_k h a - 1) → cell.slots[(g_D g).2 (h_k h a - 1) j]? = some (f_v g (c_R (h_k h a - 1) j) (h_i h a j) (h_r h a j))) ∨
  (20 ≤ h_k h a ∧ h_k h a ≤ 26 ∧ cell = arrV (g_A g (h_k h a - 20)) (h_l h a) (fun j => a_v g (h_k h a - 20) (h_i h a j) (h_r h a j)))
def z_CC : Nat := 603072
def z_CS : Nat := 7215210
def z_s (b : Nat) (H : Heap) : Nat := ((H.toList.map (fun c => c.slots.size)).drop b).sum
def Rp (g : GP) (h : AH) (H : Heap) : Prop :=
  g_b g + h_n h = H.size + 8 ∧ 8 ≤ h_n h ∧ (∀ a, h_k h a ≠ 0 → 8 ≤ a ∧ a < h_n h ∧ ∃ cell, H[g_a g a]? = some cell ∧ Ce g h a cell) ∧ z_s (g_b g) H ≤ h_u h ∧ h_n h ≤ z_CC ∧ h_u h ≤ z_CS
theorem z_s_congr {b : Nat} {H H' : Heap} (hz : H'.size = H.size) (h : ∀ q : Nat, (H'[q]?).map (fun c => c.slots.size) = (H[q]?).map (fun c => c.slots.size)) : z_s b H' = z_s b H := by
  have e : H'.toList.map (fun c => c.slots.size) = H.toList.map (fun c => c.slots.size) := by
    apply List.ext_getElem?
    intro i
    simp only [List.getElem?_map, Array.getElem?_toList]
    exact h i
  rw [z_s, z_s, e]
theorem z_s_push {b N : Nat} {H H' : Heap} {cell : Cell} (hb : b ≤ H.size) (hz : H'.size = H.size + 1) (hc : H'[H.size]? = some cell) (hN : cell.slots.size = N) (h : ∀ q : Nat, q < H.size → H'[q]? = H[q]?) : z_s b H' = z_s b H + N := by
  have e : H'.toList.map (fun c => c.slots.size) = H.toList.map (fun c => c.slots.size) ++ [N] := by
    apply List.ext_getElem?
    intro i
    simp only [List.getElem?_map, Array.getElem?_toList]
    by_cases hi : i < H.size
    · rw [h i hi, List.getElem?_append_left (by simpa using hi)]
      simp
    · by_cases hi2 : i = H.size
      · subst hi2
        rw [hc, List.getElem?_append_right (by simp)]
        simp [hN]
      · rw [Array.getElem?_eq_none (by omega), List.getElem?_append_right (by simp; omega)]
        rw [List.getElem?_eq_none (by simp; omega)]
        rfl
  rw [z_s, z_s, e, List.drop_append_of_le_length (by simpa using hb)]
  simp
/-- Ce looks at one thing's rows alone -/
theorem Ce.congr {g : GP} {h h' : AH} {a : Nat} {cell : Cell} (hk : h_k h' a = h_k h a) (hl : h_l h' a = h_l h a) (hi : ∀ j, h_i h' a j = h_i h a j) (hr : ∀ j, h_r h' a j = h_r h a j) (hc : Ce g h a cell) : Ce g h' a cell := by
  unfold Ce at hc ⊢
  simp only [hk, hl, hi, hr]
  exact hc
theorem Ce.none {g : GP} {h : AH} {a : Nat} {cell : Cell} (hc : Ce g h a cell) : cell.vm = .none := by
  rcases hc with ⟨-, -, h1, -⟩ | ⟨-, -, h1⟩
  · exact h1
  · rw [h1]; rfl
/-- one thing's cell changed, its size the same -/
theorem Rp.upd {g : GP} {h h' : AH} {H H' : Heap} {a : Nat} {cell cell' : Cell} (P : Rp g h H) (hk : h_k h a ≠ 0) (hc : H[g_a g a]? = some cell) (e1 : H'[g_a g a]? = some cell') (e2 : H'.size = H.size) (e3 : ∀ q, q ≠ g_a g a → H'[q]? = H[q]?)
    (hs : cell'.slots.size = cell.slots.size) (hce : Ce g h' a cell') (k1 : h_k h' = h_k h) (k2 : ∀ q, q ≠ a → h_l h' q = h_l h q ∧ (∀ j, h_i h' q j = h_i h q j) ∧ ∀ j, h_r h' q j = h_r h q j) (k3 : h_n h' = h_n h) (k4 : h_u h' = h_u h) : Rp g h' H' := by
  obtain ⟨p1, p2, p3, p4, p5, p6⟩ := P
  refine ⟨by rw [k3, e2]; exact p1, by rw [k3]; exact p2, fun q hq => ?_, ?_, by rw [k3]; exact p5, by rw [k4]; exact p6⟩
  · rw [k1] at hq
    obtain ⟨h1, h2, c, h3, h4⟩ := p3 q hq
    refine ⟨h1, by rw [k3]; exact h2, ?_⟩
    by_cases e : q = a
    · subst e
      exact ⟨cell', e1, hce⟩
    · refine ⟨c, ?_, Ce.congr (by rw [k1]) (k2 q e).1 (k2 q e).2.1 (k2 q e).2.2 h4⟩
      rw [e3 _ (fun z => e (ga_inj h1 (p3 a hk).1 z))]
      exact h3
  · rw [k4]
    refine Nat.le_trans (Nat.le_of_eq (z_s_congr e2 fun q => ?_)) p4
    by_cases e : q = g_a g a
    · subst e
      rw [e1, hc]
      simp [hs]
    · rw [e3 q e]
/-- a thing made -/
theorem Rp.mk {g : GP} {h h' : AH} {H H' : Heap} {cell : Cell} {N : Nat} (P : Rp g h H) (e1 : H'[H.size]? = some cell) (e2 : H'.size = H.size + 1) (e3 : ∀ q, q < H.size → H'[q]? = H[q]?) (hs : cell.slots.size ≤ N)
    (hce : h_k h' (h_n h) ≠ 0 → Ce g h' (h_n h) cell) (k2 : ∀ q, q ≠ h_n h → h_k h' q = h_k h q ∧ h_l h' q = h_l h q ∧ (∀ j, h_i h' q j = h_i h q j) ∧ ∀ j, h_r h' q j = h_r h q j) (k3 : h_n h' = h_n h + 1) (k4 : h_u h' = h_u h + N) (c1 : h_n h + 1 ≤ z_CC) (c2 : h_u h + N ≤ z_CS) : Rp g h' H' := by
  obtain ⟨p1, p2, p3, p4, p5, p6⟩ := P
  refine ⟨by omega, by omega, fun q hq => ?_, ?_, by omega, by omega⟩
  · by_cases e : q = h_n h
    · subst e
      refine ⟨p2, by omega, cell, ?_, hce hq⟩
      rw [ga_own p2, show g_b g + (h_n h - 8) = H.size by omega]
      exact e1
    · rw [(k2 q e).1] at hq
      obtain ⟨h1, h2, c, h3, h4⟩ := p3 q hq
      refine ⟨h1, by omega, c, ?_, Ce.congr (k2 q e).1 (k2 q e).2.1 (k2 q e).2.2.1 (k2 q e).2.2.2 h4⟩
      rw [e3 _ (by rw [ga_own h1]; omega)]
      exact h3
  · rw [k4, z_s_push (by omega) e2 e1 rfl e3]
    omega
theorem Rp.own {g : GP} {h : AH} {H : Heap} {a : Nat} (P : Rp g h H) (hk : h_k h a ≠ 0) : 8 ≤ a := (P.2.2.1 a hk).1
theorem Rp.lt {g : GP} {h : AH} {H : Heap} {a : Nat} (P : Rp g h H) (hk : h_k h a ≠ 0) : a < h_n h := (P.2.2.1 a hk).2.1
theorem Rp.rv {g : GP} {h : AH} {H : Heap} {a : Nat} (P : Rp g h H) (hk : h_k h a ≠ 0) : rv g a = .ref (g_a g a) := rv_pos (by have := P.own hk; omega)
theorem Rp.base {g : GP} {h : AH} {H : Heap} {a : Nat} (P : Rp g h H) (hk : h_k h a ≠ 0) : g_b g ≤ g_a g a := by
  rw [ga_own (P.own hk)]; omega
theorem Rp.obj {g : GP} {h : AH} {H : Heap} {a ci : Nat} (P : Rp g h H) (hk : h_k h a = ci + 1) (hci : ci < 10) : ∃ cell, H[g_a g a]? = some cell ∧ cell.cls = (g_D g).1 ci ∧ cell.vm = .none ∧ ∀ j, j < c_N ci → cell.slots[(g_D g).2 ci j]? = some (f_v g (c_R ci j) (h_i h a j) (h_r h a j)) := by
  obtain ⟨-, -, cell, h3, h4⟩ := P.2.2.1 a (by omega)
  rcases h4 with ⟨-, h1, h2, h5⟩ | ⟨h1, -⟩
  · rw [hk] at h1 h5
    exact ⟨cell, h3, h1, h2, h5⟩
  · omega
theorem Rp.arr {g : GP} {h : AH} {H : Heap} {a t : Nat} (P : Rp g h H) (hk : h_k h a = 20 + t) : H[g_a g a]? = some (arrV (g_A g t) (h_l h a) (fun j => a_v g t (h_i h a j) (h_r h a j))) := by
  obtain ⟨-, -, cell, h3, h4⟩ := P.2.2.1 a (by omega)
  rcases h4 with ⟨h1, -⟩ | ⟨-, -, h5⟩
  · omega
  · rw [h3, h5, hk, show 20 + t - 20 = t by omega]
theorem k_ty {g : GP} {s : State} {cl : List vw_C} (hK : va_K (g_D g) cl (g_t g) s) {t : Nat} (ht : t ≤ 6) : ArrOfT s (g_A g t) (g_ty t) ∧ va_RA s (g_A g t) (g_ty t) := by
  have h : (g_t g)[t]? = some (g_A g t, g_ty t) := by
    match t, ht with
    | 0, _ => rfl
    | 1, _ => rfl
    | 2, _ => rfl
    | 3, _ => rfl
    | 4, _ => rfl
    | 5, _ => rfl
    | 6, _ => rfl
  exact hK.2 t _ h
/-- the counts may be said anew, nearer -/
theorem st_tight {p : Program} {l : Launch} {e : Env} {R : Room} {s : State} {m : MethodId} {args : Array Value} {below : List Frame} {meth : Method} {c : Code} {T : State} {locs : List Loc} {cells slots k n : Nat}
    (X : Stand p l e R s m args below meth c T locs cells slots) (h1 : T.heap.size ≤ s.heap.size + k) (h2 : ((T.heap.toList.drop s.heap.size).map (·.slots.size)).sum ≤ n) : Stand p l e R s m args below meth c T locs k n := by
  obtain ⟨a1, a2, a3, a4, a5, a6, a7, a8, a9, a10, a11, a12, a13, a14⟩ := X
  obtain ⟨b1, b2, b3, b4, b5, b6⟩ := a14
  exact ⟨a1, a2, a3, a4, a5, a6, a7, a8, a9, a10, a11, a12, a13, b1, b2, h1, b4, h2, b6⟩
theorem st_sum {p : Program} {l : Launch} {e : Env} {R : Room} {s : State} {m : MethodId} {args : Array Value} {below : List Frame} {meth : Method} {c : Code} {T : State} {locs : List Loc} {cells slots b : Nat}
    (X : Stand p l e R s m args below meth c T locs cells slots) (hb : b ≤ s.heap.size) : z_s b T.heap = z_s b s.heap + ((T.heap.toList.drop s.heap.size).map (·.slots.size)).sum := by
  obtain ⟨-, b2, -, -, -, b6⟩ := X.same
  have b2 : s.heap.size ≤ T.heap.size := b2
  have e : T.heap.toList.map (fun c => c.slots.size) = s.heap.toList.map (fun c => c.slots.size) ++ (T.heap.toList.drop s.heap.size).map (fun c => c.slots.size) := by
    apply List.ext_getElem?
    intro i
    by_cases hi : i < s.heap.size
    · rw [List.getElem?_append_left (by simpa using hi)]
      simp only [List.getElem?_map, Array.getElem?_toList]
      obtain ⟨c', h1, -, h3, -⟩ := b6 i _ (Array.getElem?_eq_getElem hi)
      have h1 : T.heap[i]? = some c' := h1
      rw [h1, Array.getElem?_eq_getElem hi]
      simp [h3]
    · rw [List.getElem?_append_right (by simp; omega)]
      simp only [List.getElem?_map, Array.getElem?_toList, List.getElem?_drop, List.length_map, Array.length_toList]
      rw [show s.heap.size + (i - s.heap.size) = i by omega]
  rw [z_s, z_s, e, List.drop_append_of_le_length (by simpa using hb), List.sum_append]

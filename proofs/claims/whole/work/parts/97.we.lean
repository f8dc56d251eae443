/-- cells that are new need no naming -/
theorem fe_forget {s t : State} {o : Outcome} {L : List Loc} {k n : Nat} (h : FrameEnd s o t L k n) (hL : ∀ q ∈ L, s.heap.size ≤ q.base) : Framed s o t [] k n := by
  obtain ⟨h1, h2, a, b, c, d, e, f⟩ := h
  refine ⟨h1, h2, a, b, c, d, e, fun x cell hx => ?_⟩
  obtain ⟨c', x1, x2, x3, x4⟩ := f x cell hx
  refine ⟨c', x1, x2, x3, fun i _ => x4 i (fun w => ?_)⟩
  have h8 : s.heap.size ≤ x := hL _ w
  have h9 := (Array.getElem?_eq_some_iff.mp hx).1
  omega
theorem ws_end {g : GP} {R : Room} {below : List Frame} {args : Array Value} {s t : State} (h : EV g Q1 R below args s t) (hb : g_b g = s.heap.size) (hc : R.cells = 603072) (hs : R.slots = 7215210) : lw_Z below args s t := by
  obtain ⟨o, o1, o2, o3⟩ := h
  rcases o3 with ⟨⟨⟨v, h', rfl, o5, o6⟩, o7⟩, L, o8, o9⟩ | ⟨q, rfl, E, ce, L9, ⟨⟨h', x1, x2⟩, x3⟩, x4⟩
  · have o6 : (.inl v : Res) = .inl (some (xI 1)) := o6
    cases o6
    have hF := fe_forget o8 (fun q hq => by have h9 : g_b g ≤ q.base := o9 q hq; omega)
    rw [hc, hs] at hF
    exact ⟨_, o1, o2, rfl, lw_closed (d0 := s.drawn) (Drawn.sameBut.refl s.drawn lw_cs) hF.1 hF.2.1 hF.2.2⟩
  · have x2 : (.inr E : Res) = .inl (some (xI 1)) := x2
    cases x2

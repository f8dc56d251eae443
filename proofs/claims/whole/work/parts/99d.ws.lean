theorem z_s_all {H : Heap} : z_s H.size H = 0 := by
  unfold z_s
  rw [List.drop_eq_nil_of_le (by simp)]
  rfl
/-- the walk of the law's body, from the entry that the Statement allows to its end -/
theorem ws_walk {p : Program} {e : Env} {s : State} {m : MethodId} {below : List Frame} {meth : Method} {c : Code} (l : Launch) (hflags : l.flags = flags0) {b L : Nat} {xs : Nat → Int32} (hL : L ≤ 2560) (C0 : lw_At p s m meth c b L xs) (hname : meth.name = yL_law.name) (htab : c.exceptionTable.toList = []) : W p l e room_1 s m #[Value.ref b] below meth c s.heap [] 0 0 (lw_Z below #[Value.ref b] s) (entryFrame m ([Value.ref b] : List Value).toArray 9) := by
  obtain ⟨hx, hb, hr, hml, hown, hts, hX, hbl, hlocks, hgv⟩ := C0
  have hf : ∀ w ∈ fl_1, w.before #[Value.ref b] s = true := flat_of_before _ hgv
  obtain ⟨D, A, hK⟩ := ka_start hts
  obtain ⟨S, hS5, hF⟩ := sf_start hts hf hX hbl D A
  have hfl : l.stackTraces = false := by
    unfold Launch.stackTraces
    rw [hflags]
    decide +kernel
  have e5 : cv (D, A, s.heap.size, S, L, xs) (xR 5) = .ref b := by
    show rv (D, A, s.heap.size, S, L, xs) 5 = _
    rw [rv_pos (by decide)]
    show Value.ref (S 5) = _
    rw [hS5]
  have hl := lv_entry ([.ref b]) (n := 9) (Nat.le_of_ble_eq_true rfl)
  rw [lg_entry_eq]
  generalize (lg_sl ([.ref b]) ++ List.replicate (9 - (lg_sl ([.ref b])).length) Slot.unset).toArray = ls at hl ⊢
  have hl1 : lv_has ls 9 (lv_args 0 ([xR 5].map (cv (D, A, s.heap.size, S, L, xs)))) := by
    rw [List.map_cons, e5]
    exact hl
  have hLH : LH (D, A, s.heap.size, S, L, xs) ls 9 [xR 5, xU, xU, xU, xU, xU, xU, xU, xU] := LH.entry (as := [xR 5]) (fun v hv => by
    rw [List.mem_singleton.mp hv, e5]
    rfl) (by decide) hl1
  have hz : z_s s.heap.size s.heap = 0 := z_s_all
  have hRp : Rp (D, A, s.heap.size, S, L, xs) ((fun _ => 0, fun _ => 0, fun _ _ => 0, fun _ _ => 0, 8, 0) : AH) s.heap := ⟨rfl, Nat.le_refl _, fun a ha => absurd rfl ha, Nat.le_of_eq hz, Nat.le_of_ble_eq_true rfl, Nat.zero_le _⟩
  have hC : Cx (D, A, s.heap.size, S, L, xs) m_L_law 15 p l room_1 s m #[Value.ref b] meth c := by
    refine ⟨hx, hb, hml, hown, gw_start hts, hK, hr, hname, hlocks, hfl, ⟨Nat.le_of_ble_eq_true rfl, Nat.le_of_ble_eq_true rfl, ?_, ?_⟩, Nat.le_refl _, hF, htab⟩
    · show 603072 = z_CC - (s.heap.size - s.heap.size)
      rw [Nat.sub_self]
      rfl
    · show 7215210 = z_CS - z_s s.heap.size s.heap
      rw [hz]
      rfl
  have key := T_law (D, A, s.heap.size, S, L, xs) hL (h := ((fun _ => 0, fun _ => 0, fun _ _ => 0, fun _ _ => 0, 8, 0) : AH)) rfl (fun _ => rfl) (Nat.zero_le _) p l e room_1 s m #[Value.ref b] below meth c s.heap [] 0 0 ls hC hRp va_S.rf hLH
  exact W_mono (fun t h => ws_end h rfl rfl rfl) key

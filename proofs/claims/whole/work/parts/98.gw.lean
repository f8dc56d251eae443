theorem tb_at {w : Cond} (i : Nat) (h : tables_1[i]? = some w) : w ∈ lw_tbl := List.mem_append_right _ (List.mem_of_getElem? h)
/-- all the words that the walk reads hold at the start -/
theorem gw_start {args : Array Value} {s : State} (hts : ∀ w ∈ lw_tbl, w.before args s = true) : ∀ w ∈ GW, w.before args s = true := by
  intro w hw
  have hw := (List.mem_filter.mp hw).1
  rcases List.mem_append.mp hw with hw | hw
  · exact hts w hw
  · have hi : (Cond.instantiable "java/lang/StringBuilder" 4).before args s = true := hts _ (tb_at 69 (by decide +kernel))
    obtain ⟨y, hy, rfl⟩ := List.mem_map.mp hw
    simp only [z_prv, List.mem_cons, List.not_mem_nil, or_false] at hy
    rcases hy with rfl | rfl | rfl
    · exact sel_priv (by decide +kernel) hi (hts _ (tb_at 671 (by decide +kernel))) (hts _ (tb_at 672 (by decide +kernel))) (hts _ (tb_at 1577 (by decide +kernel)))
    · exact sel_priv (by decide +kernel) hi (hts _ (tb_at 675 (by decide +kernel))) (hts _ (tb_at 676 (by decide +kernel))) (hts _ (tb_at 1578 (by decide +kernel)))
    · exact sel_priv (by decide +kernel) hi (hts _ (tb_at 738 (by decide +kernel))) (hts _ (tb_at 739 (by decide +kernel))) (hts _ (tb_at 1581 (by decide +kernel)))

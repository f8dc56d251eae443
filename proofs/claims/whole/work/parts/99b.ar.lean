theorem ar_start {args : Array Value} {s : State} {ty : FieldType} (h : (Cond.arrayClass ty).before args s = true) (hp : ty.isReference = false) : ∃ cA, ArrOfT s cA ty ∧ va_RA s cA ty := by
  obtain ⟨cA, kA, comp, hfind, hk, hkind⟩ := Cond.arrayClass_spec h
  refine ⟨cA, ?_, ?_⟩
  · exact fun n z => ⟨(fun k h => by cases h), kA, hk, comp, hkind⟩
  · cases ty <;> first | exact hfind | cases hp

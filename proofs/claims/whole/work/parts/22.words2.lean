-- deps: 09 10 11 12 13 14 20
theorem c_RJ0_1059 : CaS RJ0 1059 m_J3_checkIndex_8e157 3 := ⟨⟨(gwi 1167 (by decide +kernel) (by decide +kernel)), (gwi 22 (by decide +kernel) (by decide +kernel)), (gwi 166 (by decide +kernel) (by decide +kernel)), by decide, by decide +kernel, by decide⟩, (gwi 165 (by decide +kernel) (by decide +kernel))⟩

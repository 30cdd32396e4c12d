/-! java/util/Arrays: its methods, what they link -/
abbrev mJ7_rangeCheck_23922 : zM := (yJ7_rangeCheck_23922, cJ7_rangeCheck_23922, 3, none)
abbrev dJ7_rangeCheck_23922 : Nat × Nat := (0, 0)
abbrev mJ7_fill_53178 : zM := (yJ7_fill_53178, cJ7_fill_53178, 4, none)
abbrev dJ7_fill_53178 : Nat × Nat := (0, 0)
abbrev mJ7_fill_eb02e : zM := (yJ7_fill_eb02e, cJ7_fill_eb02e, 5, none)
abbrev dJ7_fill_eb02e : Nat × Nat := (1, 22)
set_option maxRecDepth 20000 in
theorem kJ7_rangeCheck_23922 : zLc mJ7_rangeCheck_23922 3 := ⟨zCh_3 (List.mem_of_getElem? (i := 19) rfl) rfl, zCh_1 (List.mem_of_getElem? (i := 7) (by decide +kernel)) rfl, by decide, by decide, by decide +kernel⟩
set_option maxRecDepth 20000 in
theorem kJ7_fill_53178 : zLc mJ7_fill_53178 2 := ⟨zCh_1 (List.mem_of_getElem? (i := 141) rfl) rfl, zCh_1 (List.mem_of_getElem? (i := 7) (by decide +kernel)) rfl, by decide, by decide, by decide +kernel⟩
set_option maxRecDepth 20000 in
theorem kJ7_fill_eb02e : zLc mJ7_fill_eb02e 4 := ⟨zCh_3 (List.mem_of_getElem? (i := 16) rfl) rfl, zCh_1 (List.mem_of_getElem? (i := 7) (by decide +kernel)) rfl, by decide, by decide, by decide +kernel⟩
theorem lJ7_13 : Cond.methodLink RJ7 13 yJ7_rangeCheck_23922 ∈ zT ∧ Cond.static yJ7_rangeCheck_23922 ∈ zT := ⟨zCh_3 (List.mem_of_getElem? (i := 17) (by decide +kernel)) rfl, zCh_3 (List.mem_of_getElem? (i := 18) (by decide +kernel)) rfl⟩

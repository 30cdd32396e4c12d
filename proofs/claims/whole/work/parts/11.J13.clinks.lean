/-! java/lang/Long: its methods, what they link -/
abbrev mJ13_compare_74951 : zM := (yJ13_compare_74951, cJ13_compare_74951, 4, some .int)
abbrev dJ13_compare_74951 : Nat × Nat := (0, 0)
abbrev mJ13_compareUnsigned_74951 : zM := (yJ13_compareUnsigned_74951, cJ13_compareUnsigned_74951, 4, some .int)
abbrev dJ13_compareUnsigned_74951 : Nat × Nat := (1, 23)
set_option maxRecDepth 20000 in
theorem kJ13_compare_74951 : zLc mJ13_compare_74951 2 := ⟨zCh_5 (List.mem_of_getElem? (i := 180) rfl) rfl, zCh_1 (List.mem_of_getElem? (i := 17) (by decide +kernel)) rfl, by decide, by decide, by decide +kernel⟩
set_option maxRecDepth 20000 in
theorem kJ13_compareUnsigned_74951 : zLc mJ13_compareUnsigned_74951 2 := ⟨zCh_5 (List.mem_of_getElem? (i := 176) rfl) rfl, zCh_1 (List.mem_of_getElem? (i := 17) (by decide +kernel)) rfl, by decide, by decide, by decide +kernel⟩
theorem lJ13_302 : Cond.methodLink RJ13 302 yJ13_compare_74951 ∈ zT ∧ Cond.static yJ13_compare_74951 ∈ zT := ⟨zCh_5 (List.mem_of_getElem? (i := 178) (by decide +kernel)) rfl, zCh_5 (List.mem_of_getElem? (i := 179) (by decide +kernel)) rfl⟩
theorem nJ13_168 : Cond.constantLong RJ13 168 (-9223372036854775808 : Int64) ∈ zT := zCh_5 (List.mem_of_getElem? (i := 177) (by decide +kernel)) rfl

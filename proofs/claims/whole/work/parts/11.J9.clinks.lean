/-! java/lang/Math: its methods, what they link -/
abbrev mJ9_max_7cf53 : zM := (yJ9_max_7cf53, cJ9_max_7cf53, 2, some .int)
abbrev dJ9_max_7cf53 : Nat × Nat := (0, 0)
abbrev mJ9_min_7cf53 : zM := (yJ9_min_7cf53, cJ9_min_7cf53, 2, some .int)
abbrev dJ9_min_7cf53 : Nat × Nat := (0, 0)
set_option maxRecDepth 20000 in
theorem kJ9_max_7cf53 : zLc mJ9_max_7cf53 2 := ⟨zCh_1 (List.mem_of_getElem? (i := 166) rfl) rfl, zCh_1 (List.mem_of_getElem? (i := 8) (by decide +kernel)) rfl, by decide, by decide, by decide +kernel⟩
set_option maxRecDepth 20000 in
theorem kJ9_min_7cf53 : zLc mJ9_min_7cf53 2 := ⟨zCh_3 (List.mem_of_getElem? (i := 63) rfl) rfl, zCh_1 (List.mem_of_getElem? (i := 8) (by decide +kernel)) rfl, by decide, by decide, by decide +kernel⟩

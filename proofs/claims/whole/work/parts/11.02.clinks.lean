/-! QuorumLedger$Hasher: its methods, what they link -/
abbrev mX2_init : zM := (yX2_init, cX2_init, 1, none)
abbrev dX2_init : Nat × Nat := (1, 20)
abbrev mX2_open : zM := (yX2_open, cX2_open, 1, none)
abbrev dX2_open : Nat × Nat := (0, 0)
abbrev mX2_add : zM := (yX2_add, cX2_add, 2, none)
abbrev dX2_add : Nat × Nat := (0, 0)
abbrev mX2_add_ : zM := (yX2_add_, cX2_add_, 4, none)
abbrev dX2_add_ : Nat × Nat := (1, 40)
abbrev mX2_close : zM := (yX2_close, cX2_close, 6, none)
abbrev dX2_close : Nat × Nat := (2, 46)
abbrev mX2_squeeze : zM := (yX2_squeeze, cX2_squeeze, 14, none)
abbrev dX2_squeeze : Nat × Nat := (0, 0)
abbrev mX2_digest : zM := (yX2_digest, cX2_digest, 6, none)
abbrev dX2_digest : Nat × Nat := (3, 71)
abbrev mX2_clear : zM := (yX2_clear, cX2_clear, 1, none)
abbrev dX2_clear : Nat × Nat := (0, 0)
abbrev mX2_leaf : zM := (yX2_leaf, cX2_leaf, 4, none)
abbrev dX2_leaf : Nat × Nat := (3, 71)
abbrev mX2_plant : zM := (yX2_plant, cX2_plant, 8, none)
abbrev dX2_plant : Nat × Nat := (3, 71)
abbrev mX2_climb : zM := (yX2_climb, cX2_climb, 8, some .int)
abbrev dX2_climb : Nat × Nat := (3, 71)
abbrev mX2_step : zM := (yX2_step, cX2_step, 7, some .int)
abbrev dX2_step : Nat × Nat := (1, 40)
abbrev mX2_top : zM := (yX2_top, cX2_top, 3, none)
abbrev dX2_top : Nat × Nat := (2, 46)
set_option maxRecDepth 20000 in
theorem kX2_init : zLc mX2_init 0 := ⟨zCh_1 (List.mem_of_getElem? (i := 33) rfl) rfl, zCh_1 (List.mem_of_getElem? (i := 3) (by decide +kernel)) rfl, by decide, by decide, by decide +kernel⟩
set_option maxRecDepth 20000 in
theorem kX2_open : zLc mX2_open 0 := ⟨zCh_3 (List.mem_of_getElem? (i := 0) rfl) rfl, zCh_1 (List.mem_of_getElem? (i := 3) (by decide +kernel)) rfl, by decide, by decide, by decide +kernel⟩
set_option maxRecDepth 20000 in
theorem kX2_add : zLc mX2_add 1 := ⟨zCh_3 (List.mem_of_getElem? (i := 4) rfl) rfl, zCh_1 (List.mem_of_getElem? (i := 3) (by decide +kernel)) rfl, by decide, by decide, by decide +kernel⟩
set_option maxRecDepth 20000 in
theorem kX2_add_ : zLc mX2_add_ 3 := ⟨zCh_3 (List.mem_of_getElem? (i := 8) rfl) rfl, zCh_1 (List.mem_of_getElem? (i := 3) (by decide +kernel)) rfl, by decide, by decide, by decide +kernel⟩
set_option maxRecDepth 20000 in
theorem kX2_close : zLc mX2_close 2 := ⟨zCh_3 (List.mem_of_getElem? (i := 13) rfl) rfl, zCh_1 (List.mem_of_getElem? (i := 3) (by decide +kernel)) rfl, by decide, by decide, by decide +kernel⟩
set_option maxRecDepth 20000 in
theorem kX2_squeeze : zLc mX2_squeeze 1 := ⟨zCh_3 (List.mem_of_getElem? (i := 25) rfl) rfl, zCh_1 (List.mem_of_getElem? (i := 3) (by decide +kernel)) rfl, by decide, by decide, by decide +kernel⟩
set_option maxRecDepth 20000 in
theorem kX2_digest : zLc mX2_digest 5 := ⟨zCh_3 (List.mem_of_getElem? (i := 210) rfl) rfl, zCh_1 (List.mem_of_getElem? (i := 3) (by decide +kernel)) rfl, by decide, by decide, by decide +kernel⟩
set_option maxRecDepth 20000 in
theorem kX2_clear : zLc mX2_clear 0 := ⟨zCh_2 (List.mem_of_getElem? (i := 221) rfl) rfl, zCh_1 (List.mem_of_getElem? (i := 3) (by decide +kernel)) rfl, by decide, by decide, by decide +kernel⟩
set_option maxRecDepth 20000 in
theorem kX2_leaf : zLc mX2_leaf 3 := ⟨zCh_2 (List.mem_of_getElem? (i := 236) rfl) rfl, zCh_1 (List.mem_of_getElem? (i := 3) (by decide +kernel)) rfl, by decide, by decide, by decide +kernel⟩
set_option maxRecDepth 20000 in
theorem kX2_plant : zLc mX2_plant 2 := ⟨zCh_3 (List.mem_of_getElem? (i := 201) rfl) rfl, zCh_1 (List.mem_of_getElem? (i := 3) (by decide +kernel)) rfl, by decide, by decide, by decide +kernel⟩
set_option maxRecDepth 20000 in
theorem kX2_climb : zLc mX2_climb 3 := ⟨zCh_3 (List.mem_of_getElem? (i := 31) rfl) rfl, zCh_1 (List.mem_of_getElem? (i := 3) (by decide +kernel)) rfl, by decide, by decide, by decide +kernel⟩
set_option maxRecDepth 20000 in
theorem kX2_step : zLc mX2_step 4 := ⟨zCh_3 (List.mem_of_getElem? (i := 35) rfl) rfl, zCh_1 (List.mem_of_getElem? (i := 3) (by decide +kernel)) rfl, by decide, by decide, by decide +kernel⟩
set_option maxRecDepth 20000 in
theorem kX2_top : zLc mX2_top 2 := ⟨zCh_3 (List.mem_of_getElem? (i := 39) rfl) rfl, zCh_1 (List.mem_of_getElem? (i := 3) (by decide +kernel)) rfl, by decide, by decide, by decide +kernel⟩
theorem lX2_35 : Cond.methodLink RX2 35 yJ7_fill_eb02e ∈ zT ∧ Cond.static yJ7_fill_eb02e ∈ zT := ⟨zCh_3 (List.mem_of_getElem? (i := 14) (by decide +kernel)) rfl, zCh_3 (List.mem_of_getElem? (i := 15) (by decide +kernel)) rfl⟩
theorem lX2_44 : Cond.methodLink RX2 44 yX2_squeeze ∈ zT ∧ Cond.instanceMethod yX2_squeeze ∈ zT ∧ Cond.selects yX2_squeeze.cls yX2_squeeze yX2_squeeze ∈ zT := ⟨zCh_3 (List.mem_of_getElem? (i := 22) (by decide +kernel)) rfl, zCh_3 (List.mem_of_getElem? (i := 24) (by decide +kernel)) rfl, zIn 1 (by decide +kernel) rfl⟩
theorem lX2_51 : Cond.methodLink RX2 51 yX2_open ∈ zT ∧ Cond.instanceMethod yX2_open ∈ zT ∧ Cond.selects yX2_open.cls yX2_open yX2_open ∈ zT := ⟨zCh_2 (List.mem_of_getElem? (i := 237) (by decide +kernel)) rfl, zCh_2 (List.mem_of_getElem? (i := 238) (by decide +kernel)) rfl, zCh_2 (List.mem_of_getElem? (i := 239) (by decide +kernel)) rfl⟩
theorem lX2_54 : Cond.methodLink RX2 54 yX2_add_ ∈ zT ∧ Cond.instanceMethod yX2_add_ ∈ zT ∧ Cond.selects yX2_add_.cls yX2_add_ yX2_add_ ∈ zT := ⟨zCh_3 (List.mem_of_getElem? (i := 5) (by decide +kernel)) rfl, zCh_3 (List.mem_of_getElem? (i := 6) (by decide +kernel)) rfl, zCh_3 (List.mem_of_getElem? (i := 7) (by decide +kernel)) rfl⟩
theorem lX2_58 : Cond.methodLink RX2 58 yX2_close ∈ zT ∧ Cond.instanceMethod yX2_close ∈ zT ∧ Cond.selects yX2_close.cls yX2_close yX2_close ∈ zT := ⟨zCh_3 (List.mem_of_getElem? (i := 10) (by decide +kernel)) rfl, zCh_3 (List.mem_of_getElem? (i := 11) (by decide +kernel)) rfl, zCh_3 (List.mem_of_getElem? (i := 12) (by decide +kernel)) rfl⟩
theorem lX2_65 : Cond.methodLink RX2 65 yX2_add ∈ zT ∧ Cond.instanceMethod yX2_add ∈ zT ∧ Cond.selects yX2_add.cls yX2_add yX2_add ∈ zT := ⟨zCh_3 (List.mem_of_getElem? (i := 1) (by decide +kernel)) rfl, zCh_3 (List.mem_of_getElem? (i := 2) (by decide +kernel)) rfl, zCh_3 (List.mem_of_getElem? (i := 3) (by decide +kernel)) rfl⟩
theorem lX2_67 : Cond.methodLink RX2 67 yX1_evidenceSize ∈ zT ∧ Cond.static yX1_evidenceSize ∈ zT := ⟨zCh_3 (List.mem_of_getElem? (i := 202) (by decide +kernel)) rfl, zCh_3 (List.mem_of_getElem? (i := 203) (by decide +kernel)) rfl⟩
theorem lX2_73 : Cond.methodLink RX2 73 yX2_step ∈ zT ∧ Cond.instanceMethod yX2_step ∈ zT ∧ Cond.selects yX2_step.cls yX2_step yX2_step ∈ zT := ⟨zCh_3 (List.mem_of_getElem? (i := 32) (by decide +kernel)) rfl, zCh_3 (List.mem_of_getElem? (i := 34) (by decide +kernel)) rfl, zIn 2 (by decide +kernel) rfl⟩
theorem fX2_11 : Cond.fieldLink RX2 11 "QuorumLedger$Hasher" "text" "[B" ∈ zT := zCh_1 (List.mem_of_getElem? (i := 35) (by decide +kernel)) rfl
theorem fX2_15 : Cond.fieldLink RX2 15 "QuorumLedger$Hasher" "words" "[I" ∈ zT := zCh_1 (List.mem_of_getElem? (i := 36) (by decide +kernel)) rfl
theorem fX2_19 : Cond.fieldLink RX2 19 "QuorumLedger$Hasher" "sums" "[I" ∈ zT := zCh_1 (List.mem_of_getElem? (i := 37) (by decide +kernel)) rfl
theorem fX2_22 : Cond.fieldLink RX2 22 "QuorumLedger$Hasher" "leaves" "[B" ∈ zT := zCh_1 (List.mem_of_getElem? (i := 38) (by decide +kernel)) rfl
theorem fX2_25 : Cond.fieldLink RX2 25 "QuorumLedger$Hasher" "length" "I" ∈ zT := zCh_1 (List.mem_of_getElem? (i := 39) (by decide +kernel)) rfl
theorem fX2_41 : Cond.fieldLink RX2 41 "QuorumLedger$Hasher" "FIRST" "[I" ∈ zT := zCh_3 (List.mem_of_getElem? (i := 20) (by decide +kernel)) rfl
theorem fX2_48 : Cond.fieldLink RX2 48 "QuorumLedger$Hasher" "ADDED" "[I" ∈ zT := zCh_3 (List.mem_of_getElem? (i := 26) (by decide +kernel)) rfl
theorem fX2_62 : Cond.fieldLink RX2 62 "QuorumLedger$Hasher" "standing" "I" ∈ zT := zCh_1 (List.mem_of_getElem? (i := 40) (by decide +kernel)) rfl
theorem qX2_3 : Cond.methodLink RX2 3 Lib.objectInit ∈ zT := zCh_1 (List.mem_of_getElem? (i := 34) (by decide +kernel)) rfl
theorem qX2_29 : Cond.methodLink RX2 29 arraycopyName ∈ zT := zCh_3 (List.mem_of_getElem? (i := 9) (by decide +kernel)) rfl

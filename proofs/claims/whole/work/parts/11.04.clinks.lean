/-! QuorumLedger$Log: its methods, what they link -/
abbrev mX4_init : zM := (yX4_init, cX4_init, 1, none)
abbrev dX4_init : Nat × Nat := (1, 20)
abbrev mX4_open : zM := (yX4_open, cX4_open, 4, none)
abbrev dX4_open : Nat × Nat := (1, 22)
abbrev mX4_add : zM := (yX4_add, cX4_add, 4, none)
abbrev dX4_add : Nat × Nat := (1, 40)
abbrev mX4_write : zM := (yX4_write, cX4_write, 7, some .boolean)
abbrev dX4_write : Nat × Nat := (1, 40)
abbrev mX4_noteChain : zM := (yX4_noteChain, cX4_noteChain, 5, some .boolean)
abbrev dX4_noteChain : Nat × Nat := (2, 66)
abbrev mX4_noteSnap : zM := (yX4_noteSnap, cX4_noteSnap, 3, some .boolean)
abbrev dX4_noteSnap : Nat × Nat := (2, 66)
abbrev mX4_jot : zM := (yX4_jot, cX4_jot, 6, some .boolean)
abbrev dX4_jot : Nat × Nat := (2, 66)
abbrev mX4_canRead : zM := (yX4_canRead, cX4_canRead, 2, some .boolean)
abbrev dX4_canRead : Nat × Nat := (0, 0)
abbrev mX4_fetch : zM := (yX4_fetch, cX4_fetch, 7, some .int)
abbrev dX4_fetch : Nat × Nat := (1, 40)
set_option maxRecDepth 20000 in
theorem kX4_init : zLc mX4_init 0 := ⟨zCh_1 (List.mem_of_getElem? (i := 237) rfl) rfl, zCh_1 (List.mem_of_getElem? (i := 10) (by decide +kernel)) rfl, by decide, by decide, by decide +kernel⟩
set_option maxRecDepth 20000 in
theorem kX4_open : zLc mX4_open 3 := ⟨zCh_3 (List.mem_of_getElem? (i := 50) rfl) rfl, zCh_1 (List.mem_of_getElem? (i := 10) (by decide +kernel)) rfl, by decide, by decide, by decide +kernel⟩
set_option maxRecDepth 20000 in
theorem kX4_add : zLc mX4_add 3 := ⟨zCh_3 (List.mem_of_getElem? (i := 55) rfl) rfl, zCh_1 (List.mem_of_getElem? (i := 10) (by decide +kernel)) rfl, by decide, by decide, by decide +kernel⟩
set_option maxRecDepth 20000 in
theorem kX4_write : zLc mX4_write 1 := ⟨zCh_3 (List.mem_of_getElem? (i := 60) rfl) rfl, zCh_1 (List.mem_of_getElem? (i := 10) (by decide +kernel)) rfl, by decide, by decide, by decide +kernel⟩
set_option maxRecDepth 20000 in
theorem kX4_noteChain : zLc mX4_noteChain 4 := ⟨zCh_4 (List.mem_of_getElem? (i := 89) rfl) rfl, zCh_1 (List.mem_of_getElem? (i := 10) (by decide +kernel)) rfl, by decide, by decide, by decide +kernel⟩
set_option maxRecDepth 20000 in
theorem kX4_noteSnap : zLc mX4_noteSnap 1 := ⟨zCh_4 (List.mem_of_getElem? (i := 32) rfl) rfl, zCh_1 (List.mem_of_getElem? (i := 10) (by decide +kernel)) rfl, by decide, by decide, by decide +kernel⟩
set_option maxRecDepth 20000 in
theorem kX4_jot : zLc mX4_jot 5 := ⟨zCh_3 (List.mem_of_getElem? (i := 46) rfl) rfl, zCh_1 (List.mem_of_getElem? (i := 10) (by decide +kernel)) rfl, by decide, by decide, by decide +kernel⟩
set_option maxRecDepth 20000 in
theorem kX4_canRead : zLc mX4_canRead 1 := ⟨zCh_5 (List.mem_of_getElem? (i := 127) rfl) rfl, zCh_1 (List.mem_of_getElem? (i := 10) (by decide +kernel)) rfl, by decide, by decide, by decide +kernel⟩
set_option maxRecDepth 20000 in
theorem kX4_fetch : zLc mX4_fetch 3 := ⟨zCh_5 (List.mem_of_getElem? (i := 123) rfl) rfl, zCh_1 (List.mem_of_getElem? (i := 10) (by decide +kernel)) rfl, by decide, by decide, by decide +kernel⟩
theorem lX4_45 : Cond.methodLink RX4 45 yJ9_min_7cf53 ∈ zT ∧ Cond.static yJ9_min_7cf53 ∈ zT := ⟨zCh_3 (List.mem_of_getElem? (i := 61) (by decide +kernel)) rfl, zCh_3 (List.mem_of_getElem? (i := 62) (by decide +kernel)) rfl⟩
theorem lX4_57 : Cond.methodLink RX4 57 yX4_open ∈ zT ∧ Cond.instanceMethod yX4_open ∈ zT ∧ Cond.selects yX4_open.cls yX4_open yX4_open ∈ zT := ⟨zCh_3 (List.mem_of_getElem? (i := 47) (by decide +kernel)) rfl, zCh_3 (List.mem_of_getElem? (i := 49) (by decide +kernel)) rfl, zIn 3 (by decide +kernel) rfl⟩
theorem lX4_61 : Cond.methodLink RX4 61 yX4_add ∈ zT ∧ Cond.instanceMethod yX4_add ∈ zT ∧ Cond.selects yX4_add.cls yX4_add yX4_add ∈ zT := ⟨zCh_3 (List.mem_of_getElem? (i := 52) (by decide +kernel)) rfl, zCh_3 (List.mem_of_getElem? (i := 54) (by decide +kernel)) rfl, zIn 4 (by decide +kernel) rfl⟩
theorem lX4_64 : Cond.methodLink RX4 64 yX4_write ∈ zT ∧ Cond.instanceMethod yX4_write ∈ zT ∧ Cond.selects yX4_write.cls yX4_write yX4_write ∈ zT := ⟨zCh_3 (List.mem_of_getElem? (i := 57) (by decide +kernel)) rfl, zCh_3 (List.mem_of_getElem? (i := 59) (by decide +kernel)) rfl, zIn 5 (by decide +kernel) rfl⟩
theorem lX4_71 : Cond.methodLink RX4 71 yX5_two ∈ zT ∧ Cond.instanceMethod yX5_two ∈ zT ∧ Cond.selects yX5_two.cls yX5_two yX5_two ∈ zT := ⟨zCh_4 (List.mem_of_getElem? (i := 33) (by decide +kernel)) rfl, zCh_3 (List.mem_of_getElem? (i := 226) (by decide +kernel)) rfl, zCh_3 (List.mem_of_getElem? (i := 227) (by decide +kernel)) rfl⟩
theorem lX4_84 : Cond.methodLink RX4 84 yX4_canRead ∈ zT ∧ Cond.instanceMethod yX4_canRead ∈ zT ∧ Cond.selects yX4_canRead.cls yX4_canRead yX4_canRead ∈ zT := ⟨zCh_5 (List.mem_of_getElem? (i := 124) (by decide +kernel)) rfl, zCh_5 (List.mem_of_getElem? (i := 125) (by decide +kernel)) rfl, zCh_5 (List.mem_of_getElem? (i := 126) (by decide +kernel)) rfl⟩
theorem lX4_28 : Cond.methodLinkNest RX4 28 yX11_putTwo "QuorumLedger" ∈ zN ∧ Cond.static yX11_putTwo ∈ zT := ⟨zNin 531 (by decide +kernel) rfl, zCh_2 (List.mem_of_getElem? (i := 227) (by decide +kernel)) rfl⟩
theorem fX4_13 : Cond.fieldLink RX4 13 "QuorumLedger$Log" "sectors" "[[B" ∈ zT := zCh_2 (List.mem_of_getElem? (i := 1) (by decide +kernel)) rfl
theorem fX4_17 : Cond.fieldLink RX4 17 "QuorumLedger$Log" "sound" "[Z" ∈ zT := zCh_2 (List.mem_of_getElem? (i := 3) (by decide +kernel)) rfl
theorem fX4_21 : Cond.fieldLink RX4 21 "QuorumLedger$Log" "note" "[B" ∈ zT := zCh_2 (List.mem_of_getElem? (i := 4) (by decide +kernel)) rfl
theorem fX4_24 : Cond.fieldLink RX4 24 "QuorumLedger$Log" "blockSizes" "[I" ∈ zT := zCh_2 (List.mem_of_getElem? (i := 5) (by decide +kernel)) rfl
theorem fX4_32 : Cond.fieldLink RX4 32 "QuorumLedger$Log" "length" "I" ∈ zT := zCh_2 (List.mem_of_getElem? (i := 6) (by decide +kernel)) rfl
theorem fX4_42 : Cond.fieldLink RX4 42 "QuorumLedger$Log" "cutIn" "I" ∈ zT := zCh_2 (List.mem_of_getElem? (i := 14) (by decide +kernel)) rfl
theorem fX4_51 : Cond.fieldLink RX4 51 "QuorumLedger$Log" "written" "I" ∈ zT := zCh_2 (List.mem_of_getElem? (i := 12) (by decide +kernel)) rfl
theorem fX4_54 : Cond.fieldLink RX4 54 "QuorumLedger$Log" "whole" "I" ∈ zT := zCh_2 (List.mem_of_getElem? (i := 10) (by decide +kernel)) rfl
theorem fX4_68 : Cond.fieldLink RX4 68 "QuorumLedger$Log" "snapAt" "I" ∈ zT := zCh_2 (List.mem_of_getElem? (i := 7) (by decide +kernel)) rfl
theorem fX4_77 : Cond.fieldLink RX4 77 "QuorumLedger$Message" "row" "[B" ∈ zT := zCh_3 (List.mem_of_getElem? (i := 120) (by decide +kernel)) rfl
theorem fX4_80 : Cond.fieldLink RX4 80 "QuorumLedger$Message" "length" "I" ∈ zT := zCh_3 (List.mem_of_getElem? (i := 129) (by decide +kernel)) rfl
theorem fX4_81 : Cond.fieldLink RX4 81 "QuorumLedger$Log" "number" "I" ∈ zT := zCh_2 (List.mem_of_getElem? (i := 8) (by decide +kernel)) rfl
theorem qX4_3 : Cond.methodLink RX4 3 Lib.objectInit ∈ zT := zCh_1 (List.mem_of_getElem? (i := 238) (by decide +kernel)) rfl
theorem qX4_36 : Cond.methodLink RX4 36 arraycopyName ∈ zT := zCh_3 (List.mem_of_getElem? (i := 56) (by decide +kernel)) rfl
theorem clX4_11 : Cond.classLink RX4 11 "[B" ∈ zT := zCh_1 (List.mem_of_getElem? (i := 239) (by decide +kernel)) rfl

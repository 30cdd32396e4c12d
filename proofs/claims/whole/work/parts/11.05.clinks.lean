/-! QuorumLedger$Message: its methods, what they link -/
abbrev mX5_init : zM := (yX5_init, cX5_init, 2, none)
abbrev dX5_init : Nat × Nat := (1, 20)
abbrev mX5_at : zM := (yX5_at, cX5_at, 2, some .int)
abbrev dX5_at : Nat × Nat := (0, 0)
abbrev mX5_two : zM := (yX5_two, cX5_two, 2, some .int)
abbrev dX5_two : Nat × Nat := (0, 0)
abbrev mX5_kind : zM := (yX5_kind, cX5_kind, 1, some .int)
abbrev dX5_kind : Nat × Nat := (0, 0)
abbrev mX5_signer : zM := (yX5_signer, cX5_signer, 1, some .int)
abbrev dX5_signer : Nat × Nat := (0, 0)
abbrev mX5_blockAt : zM := (yX5_blockAt, cX5_blockAt, 1, some .int)
abbrev dX5_blockAt : Nat × Nat := (1, 20)
abbrev mX5_readId : zM := (yX5_readId, cX5_readId, 4, none)
abbrev dX5_readId : Nat × Nat := (1, 26)
abbrev mX5_writeId : zM := (yX5_writeId, cX5_writeId, 4, none)
abbrev dX5_writeId : Nat × Nat := (0, 0)
abbrev mX5_isFor : zM := (yX5_isFor, cX5_isFor, 4, some .boolean)
abbrev dX5_isFor : Nat × Nat := (0, 0)
abbrev mX5_endsLike : zM := (yX5_endsLike, cX5_endsLike, 2, some .boolean)
abbrev dX5_endsLike : Nat × Nat := (1, 23)
abbrev mX5_endsBelow : zM := (yX5_endsBelow, cX5_endsBelow, 3, some .boolean)
abbrev dX5_endsBelow : Nat × Nat := (2, 46)
set_option maxRecDepth 20000 in
theorem kX5_init : zLc mX5_init 1 := ⟨zCh_3 (List.mem_of_getElem? (i := 112) rfl) rfl, zCh_1 (List.mem_of_getElem? (i := 14) (by decide +kernel)) rfl, by decide, by decide, by decide +kernel⟩
set_option maxRecDepth 20000 in
theorem kX5_at : zLc mX5_at 1 := ⟨zCh_3 (List.mem_of_getElem? (i := 232) rfl) rfl, zCh_1 (List.mem_of_getElem? (i := 14) (by decide +kernel)) rfl, by decide, by decide, by decide +kernel⟩
set_option maxRecDepth 20000 in
theorem kX5_two : zLc mX5_two 1 := ⟨zCh_3 (List.mem_of_getElem? (i := 228) rfl) rfl, zCh_1 (List.mem_of_getElem? (i := 14) (by decide +kernel)) rfl, by decide, by decide, by decide +kernel⟩
set_option maxRecDepth 20000 in
theorem kX5_kind : zLc mX5_kind 0 := ⟨zCh_4 (List.mem_of_getElem? (i := 0) rfl) rfl, zCh_1 (List.mem_of_getElem? (i := 14) (by decide +kernel)) rfl, by decide, by decide, by decide +kernel⟩
set_option maxRecDepth 20000 in
theorem kX5_signer : zLc mX5_signer 0 := ⟨zCh_3 (List.mem_of_getElem? (i := 76) rfl) rfl, zCh_1 (List.mem_of_getElem? (i := 14) (by decide +kernel)) rfl, by decide, by decide, by decide +kernel⟩
set_option maxRecDepth 20000 in
theorem kX5_blockAt : zLc mX5_blockAt 0 := ⟨zCh_5 (List.mem_of_getElem? (i := 8) rfl) rfl, zCh_1 (List.mem_of_getElem? (i := 14) (by decide +kernel)) rfl, by decide, by decide, by decide +kernel⟩
set_option maxRecDepth 20000 in
theorem kX5_readId : zLc mX5_readId 2 := ⟨zCh_3 (List.mem_of_getElem? (i := 214) rfl) rfl, zCh_1 (List.mem_of_getElem? (i := 14) (by decide +kernel)) rfl, by decide, by decide, by decide +kernel⟩
set_option maxRecDepth 20000 in
theorem kX5_writeId : zLc mX5_writeId 2 := ⟨zCh_4 (List.mem_of_getElem? (i := 93) rfl) rfl, zCh_1 (List.mem_of_getElem? (i := 14) (by decide +kernel)) rfl, by decide, by decide, by decide +kernel⟩
set_option maxRecDepth 20000 in
theorem kX5_isFor : zLc mX5_isFor 1 := ⟨zCh_4 (List.mem_of_getElem? (i := 68) rfl) rfl, zCh_1 (List.mem_of_getElem? (i := 14) (by decide +kernel)) rfl, by decide, by decide, by decide +kernel⟩
set_option maxRecDepth 20000 in
theorem kX5_endsLike : zLc mX5_endsLike 1 := ⟨zCh_5 (List.mem_of_getElem? (i := 164) rfl) rfl, zCh_1 (List.mem_of_getElem? (i := 14) (by decide +kernel)) rfl, by decide, by decide, by decide +kernel⟩
set_option maxRecDepth 20000 in
theorem kX5_endsBelow : zLc mX5_endsBelow 1 := ⟨zCh_5 (List.mem_of_getElem? (i := 173) rfl) rfl, zCh_1 (List.mem_of_getElem? (i := 14) (by decide +kernel)) rfl, by decide, by decide, by decide +kernel⟩
theorem lX5_23 : Cond.methodLink RX5 23 yX5_kind ∈ zT ∧ Cond.instanceMethod yX5_kind ∈ zT ∧ Cond.selects yX5_kind.cls yX5_kind yX5_kind ∈ zT := ⟨zCh_5 (List.mem_of_getElem? (i := 9) (by decide +kernel)) rfl, zCh_3 (List.mem_of_getElem? (i := 238) (by decide +kernel)) rfl, zCh_3 (List.mem_of_getElem? (i := 239) (by decide +kernel)) rfl⟩
theorem lX5_35 : Cond.methodLink RX5 35 yX5_isFor ∈ zT ∧ Cond.instanceMethod yX5_isFor ∈ zT ∧ Cond.selects yX5_isFor.cls yX5_isFor yX5_isFor ∈ zT := ⟨zCh_5 (List.mem_of_getElem? (i := 165) (by decide +kernel)) rfl, zCh_4 (List.mem_of_getElem? (i := 66) (by decide +kernel)) rfl, zCh_4 (List.mem_of_getElem? (i := 67) (by decide +kernel)) rfl⟩
theorem lX5_39 : Cond.methodLink RX5 39 yJ13_compareUnsigned_74951 ∈ zT ∧ Cond.static yJ13_compareUnsigned_74951 ∈ zT := ⟨zCh_5 (List.mem_of_getElem? (i := 174) (by decide +kernel)) rfl, zCh_5 (List.mem_of_getElem? (i := 175) (by decide +kernel)) rfl⟩
theorem lX5_31 : Cond.methodLinkNest RX5 31 yX11_eight "QuorumLedger" ∈ zN ∧ Cond.static yX11_eight ∈ zT := ⟨zNin 695 (by decide +kernel) rfl, zCh_3 (List.mem_of_getElem? (i := 216) (by decide +kernel)) rfl⟩
theorem fX5_9 : Cond.fieldLink RX5 9 "QuorumLedger$Message" "id" "[J" ∈ zT := zCh_3 (List.mem_of_getElem? (i := 123) (by decide +kernel)) rfl
theorem fX5_15 : Cond.fieldLink RX5 15 "QuorumLedger$Message" "row" "[B" ∈ zT := zCh_3 (List.mem_of_getElem? (i := 114) (by decide +kernel)) rfl
theorem fX5_19 : Cond.fieldLink RX5 19 "QuorumLedger$Message" "length" "I" ∈ zT := zCh_3 (List.mem_of_getElem? (i := 126) (by decide +kernel)) rfl
theorem fX5_27 : Cond.fieldLink RX5 27 "QuorumLedger$Message" "named" "Z" ∈ zT := zCh_3 (List.mem_of_getElem? (i := 139) (by decide +kernel)) rfl
theorem qX5_3 : Cond.methodLink RX5 3 Lib.objectInit ∈ zT := zCh_3 (List.mem_of_getElem? (i := 113) (by decide +kernel)) rfl

/-! QuorumLedger$Sky: its methods, what they link -/
abbrev mX9_init : zM := (yX9_init, cX9_init, 2, none)
abbrev dX9_init : Nat × Nat := (1, 20)
abbrev mX9_hasRoom : zM := (yX9_hasRoom, cX9_hasRoom, 1, some .boolean)
abbrev dX9_hasRoom : Nat × Nat := (0, 0)
abbrev mX9_slot : zM := (yX9_slot, cX9_slot, 2, some .int)
abbrev dX9_slot : Nat × Nat := (0, 0)
abbrev mX9_loadOf : zM := (yX9_loadOf, cX9_loadOf, 3, some (.object "QuorumLedger$Message"))
abbrev dX9_loadOf : Nat × Nat := (1, 21)
abbrev mX9_senderOf : zM := (yX9_senderOf, cX9_senderOf, 3, some .int)
abbrev dX9_senderOf : Nat × Nat := (1, 21)
abbrev mX9_receiverOf : zM := (yX9_receiverOf, cX9_receiverOf, 3, some .int)
abbrev dX9_receiverOf : Nat × Nat := (1, 21)
abbrev mX9_isRipe : zM := (yX9_isRipe, cX9_isRipe, 3, some .boolean)
abbrev dX9_isRipe : Nat × Nat := (1, 21)
abbrev mX9_post : zM := (yX9_post, cX9_post, 4, none)
abbrev dX9_post : Nat × Nat := (1, 24)
abbrev mX9_launch : zM := (yX9_launch, cX9_launch, 5, none)
abbrev dX9_launch : Nat × Nat := (0, 0)
abbrev mX9_take : zM := (yX9_take, cX9_take, 5, some (.object "QuorumLedger$Message"))
abbrev dX9_take : Nat × Nat := (1, 21)
abbrev mX9_fresh : zM := (yX9_fresh, cX9_fresh, 4, some (.object "QuorumLedger$Message"))
abbrev dX9_fresh : Nat × Nat := (2, 41)
abbrev mX9_drop : zM := (yX9_drop, cX9_drop, 2, none)
abbrev dX9_drop : Nat × Nat := (0, 0)
set_option maxRecDepth 20000 in
theorem kX9_init : zLc mX9_init 0 := ⟨zCh_1 (List.mem_of_getElem? (i := 83) rfl) rfl, zCh_1 (List.mem_of_getElem? (i := 5) (by decide +kernel)) rfl, by decide, by decide, by decide +kernel⟩
set_option maxRecDepth 20000 in
theorem kX9_hasRoom : zLc mX9_hasRoom 0 := ⟨zCh_4 (List.mem_of_getElem? (i := 200) rfl) rfl, zCh_1 (List.mem_of_getElem? (i := 5) (by decide +kernel)) rfl, by decide, by decide, by decide +kernel⟩
set_option maxRecDepth 20000 in
theorem kX9_slot : zLc mX9_slot 1 := ⟨zCh_5 (List.mem_of_getElem? (i := 32) rfl) rfl, zCh_1 (List.mem_of_getElem? (i := 5) (by decide +kernel)) rfl, by decide, by decide, by decide +kernel⟩
set_option maxRecDepth 20000 in
theorem kX9_loadOf : zLc mX9_loadOf 1 := ⟨zCh_5 (List.mem_of_getElem? (i := 28) rfl) rfl, zCh_1 (List.mem_of_getElem? (i := 5) (by decide +kernel)) rfl, by decide, by decide, by decide +kernel⟩
set_option maxRecDepth 20000 in
theorem kX9_senderOf : zLc mX9_senderOf 1 := ⟨zCh_5 (List.mem_of_getElem? (i := 83) rfl) rfl, zCh_1 (List.mem_of_getElem? (i := 5) (by decide +kernel)) rfl, by decide, by decide, by decide +kernel⟩
set_option maxRecDepth 20000 in
theorem kX9_receiverOf : zLc mX9_receiverOf 1 := ⟨zCh_5 (List.mem_of_getElem? (i := 87) rfl) rfl, zCh_1 (List.mem_of_getElem? (i := 5) (by decide +kernel)) rfl, by decide, by decide, by decide +kernel⟩
set_option maxRecDepth 20000 in
theorem kX9_isRipe : zLc mX9_isRipe 1 := ⟨zCh_5 (List.mem_of_getElem? (i := 193) rfl) rfl, zCh_1 (List.mem_of_getElem? (i := 5) (by decide +kernel)) rfl, by decide, by decide, by decide +kernel⟩
set_option maxRecDepth 20000 in
theorem kX9_post : zLc mX9_post 3 := ⟨zCh_4 (List.mem_of_getElem? (i := 9) rfl) rfl, zCh_1 (List.mem_of_getElem? (i := 5) (by decide +kernel)) rfl, by decide, by decide, by decide +kernel⟩
set_option maxRecDepth 20000 in
theorem kX9_launch : zLc mX9_launch 3 := ⟨zCh_4 (List.mem_of_getElem? (i := 13) rfl) rfl, zCh_1 (List.mem_of_getElem? (i := 5) (by decide +kernel)) rfl, by decide, by decide, by decide +kernel⟩
set_option maxRecDepth 20000 in
theorem kX9_take : zLc mX9_take 1 := ⟨zCh_5 (List.mem_of_getElem? (i := 91) rfl) rfl, zCh_1 (List.mem_of_getElem? (i := 5) (by decide +kernel)) rfl, by decide, by decide, by decide +kernel⟩
set_option maxRecDepth 20000 in
theorem kX9_fresh : zLc mX9_fresh 1 := ⟨zCh_3 (List.mem_of_getElem? (i := 108) rfl) rfl, zCh_1 (List.mem_of_getElem? (i := 5) (by decide +kernel)) rfl, by decide, by decide, by decide +kernel⟩
set_option maxRecDepth 20000 in
theorem kX9_drop : zLc mX9_drop 1 := ⟨zCh_3 (List.mem_of_getElem? (i := 80) rfl) rfl, zCh_1 (List.mem_of_getElem? (i := 5) (by decide +kernel)) rfl, by decide, by decide, by decide +kernel⟩
theorem lX9_40 : Cond.methodLink RX9 40 yX9_slot ∈ zT ∧ Cond.instanceMethod yX9_slot ∈ zT ∧ Cond.selects yX9_slot.cls yX9_slot yX9_slot ∈ zT := ⟨zCh_5 (List.mem_of_getElem? (i := 29) (by decide +kernel)) rfl, zCh_5 (List.mem_of_getElem? (i := 31) (by decide +kernel)) rfl, zIn 16 (by decide +kernel) rfl⟩
theorem lX9_50 : Cond.methodLink RX9 50 yX9_launch ∈ zT ∧ Cond.instanceMethod yX9_launch ∈ zT ∧ Cond.selects yX9_launch.cls yX9_launch yX9_launch ∈ zT := ⟨zCh_4 (List.mem_of_getElem? (i := 10) (by decide +kernel)) rfl, zCh_4 (List.mem_of_getElem? (i := 11) (by decide +kernel)) rfl, zCh_4 (List.mem_of_getElem? (i := 12) (by decide +kernel)) rfl⟩
theorem lX9_67 : Cond.methodLink RX9 67 yX5_init ∈ zT ∧ Cond.instanceMethod yX5_init ∈ zT := ⟨zCh_3 (List.mem_of_getElem? (i := 110) (by decide +kernel)) rfl, zCh_3 (List.mem_of_getElem? (i := 111) (by decide +kernel)) rfl⟩
theorem lX9_77 : Cond.methodLink RX9 77 yJ9_min_7cf53 ∈ zT ∧ Cond.static yJ9_min_7cf53 ∈ zT := ⟨zCh_3 (List.mem_of_getElem? (i := 161) (by decide +kernel)) rfl, zCh_3 (List.mem_of_getElem? (i := 62) (by decide +kernel)) rfl⟩
theorem lX9_83 : Cond.methodLink RX9 83 yJ9_max_7cf53 ∈ zT ∧ Cond.static yJ9_max_7cf53 ∈ zT := ⟨zCh_3 (List.mem_of_getElem? (i := 162) (by decide +kernel)) rfl, zCh_1 (List.mem_of_getElem? (i := 165) (by decide +kernel)) rfl⟩
theorem fX9_11 : Cond.fieldLink RX9 11 "QuorumLedger$Sky" "order" "[I" ∈ zT := zCh_1 (List.mem_of_getElem? (i := 87) (by decide +kernel)) rfl
theorem fX9_15 : Cond.fieldLink RX9 15 "QuorumLedger$Sky" "vacant" "[I" ∈ zT := zCh_1 (List.mem_of_getElem? (i := 88) (by decide +kernel)) rfl
theorem fX9_18 : Cond.fieldLink RX9 18 "QuorumLedger$Sky" "senders" "[I" ∈ zT := zCh_1 (List.mem_of_getElem? (i := 89) (by decide +kernel)) rfl
theorem fX9_21 : Cond.fieldLink RX9 21 "QuorumLedger$Sky" "receivers" "[I" ∈ zT := zCh_1 (List.mem_of_getElem? (i := 90) (by decide +kernel)) rfl
theorem fX9_24 : Cond.fieldLink RX9 24 "QuorumLedger$Sky" "times" "[I" ∈ zT := zCh_1 (List.mem_of_getElem? (i := 91) (by decide +kernel)) rfl
theorem fX9_29 : Cond.fieldLink RX9 29 "QuorumLedger$Sky" "loads" "[LQuorumLedger$Message;" ∈ zT := zCh_1 (List.mem_of_getElem? (i := 92) (by decide +kernel)) rfl
theorem fX9_33 : Cond.fieldLink RX9 33 "QuorumLedger$Sky" "flights" "I" ∈ zT := zCh_1 (List.mem_of_getElem? (i := 96) (by decide +kernel)) rfl
theorem fX9_37 : Cond.fieldLink RX9 37 "QuorumLedger$Sky" "first" "I" ∈ zT := zCh_1 (List.mem_of_getElem? (i := 93) (by decide +kernel)) rfl
theorem fX9_44 : Cond.fieldLink RX9 44 "QuorumLedger$Sky" "ticks" "I" ∈ zT := zCh_1 (List.mem_of_getElem? (i := 100) (by decide +kernel)) rfl
theorem fX9_47 : Cond.fieldLink RX9 47 "QuorumLedger$Sky" "sent" "I" ∈ zT := zCh_1 (List.mem_of_getElem? (i := 102) (by decide +kernel)) rfl
theorem fX9_54 : Cond.fieldLink RX9 54 "QuorumLedger$Sky" "lost" "I" ∈ zT := zCh_1 (List.mem_of_getElem? (i := 104) (by decide +kernel)) rfl
theorem fX9_57 : Cond.fieldLink RX9 57 "QuorumLedger$Message" "users" "I" ∈ zT := zCh_3 (List.mem_of_getElem? (i := 134) (by decide +kernel)) rfl
theorem fX9_60 : Cond.fieldLink RX9 60 "QuorumLedger$Sky" "smallRows" "LQuorumLedger$Message;" ∈ zT := zCh_1 (List.mem_of_getElem? (i := 94) (by decide +kernel)) rfl
theorem fX9_64 : Cond.fieldLink RX9 64 "QuorumLedger$Sky" "greatRows" "LQuorumLedger$Message;" ∈ zT := zCh_1 (List.mem_of_getElem? (i := 95) (by decide +kernel)) rfl
theorem fX9_70 : Cond.fieldLink RX9 70 "QuorumLedger$Message" "next" "LQuorumLedger$Message;" ∈ zT := zCh_3 (List.mem_of_getElem? (i := 145) (by decide +kernel)) rfl
theorem fX9_73 : Cond.fieldLink RX9 73 "QuorumLedger$Message" "row" "[B" ∈ zT := zCh_3 (List.mem_of_getElem? (i := 121) (by decide +kernel)) rfl
theorem fX9_86 : Cond.fieldLink RX9 86 "QuorumLedger$Message" "length" "I" ∈ zT := zCh_3 (List.mem_of_getElem? (i := 131) (by decide +kernel)) rfl
theorem fX9_89 : Cond.fieldLink RX9 89 "QuorumLedger$Message" "form" "I" ∈ zT := zCh_3 (List.mem_of_getElem? (i := 137) (by decide +kernel)) rfl
theorem fX9_92 : Cond.fieldLink RX9 92 "QuorumLedger$Message" "named" "Z" ∈ zT := zCh_3 (List.mem_of_getElem? (i := 143) (by decide +kernel)) rfl
theorem qX9_3 : Cond.methodLink RX9 3 Lib.objectInit ∈ zT := zCh_1 (List.mem_of_getElem? (i := 84) (by decide +kernel)) rfl
theorem clX9_27 : Cond.classLink RX9 27 "QuorumLedger$Message" ∈ zT := zCh_1 (List.mem_of_getElem? (i := 85) (by decide +kernel)) rfl

/-! QuorumLedger$Node: its methods, what they link -/
abbrev mX6_init : zM := (yX6_init, cX6_init, 3, none)
abbrev dX6_init : Nat × Nat := (2, 43)
abbrev mX6_setTimer : zM := (yX6_setTimer, cX6_setTimer, 2, none)
abbrev dX6_setTimer : Nat × Nat := (0, 0)
abbrev mX6_timersSet : zM := (yX6_timersSet, cX6_timersSet, 1, some .int)
abbrev dX6_timersSet : Nat × Nat := (0, 0)
abbrev mX6_fall : zM := (yX6_fall, cX6_fall, 1, none)
abbrev dX6_fall : Nat × Nat := (2, 51)
abbrev mX6_wake : zM := (yX6_wake, cX6_wake, 2, none)
abbrev dX6_wake : Nat × Nat := (4, 85)
abbrev mX6_ask : zM := (yX6_ask, cX6_ask, 2, some (.object "QuorumLedger$Message"))
abbrev dX6_ask : Nat × Nat := (3, 64)
abbrev mX6_enter : zM := (yX6_enter, cX6_enter, 2, none)
abbrev dX6_enter : Nat × Nat := (2, 51)
abbrev mX6_setLocked : zM := (yX6_setLocked, cX6_setLocked, 3, none)
abbrev dX6_setLocked : Nat × Nat := (1, 21)
abbrev mX6_setValid : zM := (yX6_setValid, cX6_setValid, 3, none)
abbrev dX6_setValid : Nat × Nat := (1, 21)
abbrev mX6_vote : zM := (yX6_vote, cX6_vote, 4, some (.object "QuorumLedger$Message"))
abbrev dX6_vote : Nat × Nat := (3, 64)
abbrev mX6_decided : zM := (yX6_decided, cX6_decided, 4, some (.object "QuorumLedger$Message"))
abbrev dX6_decided : Nat × Nat := (3, 66)
abbrev mX6_forgetAnswers : zM := (yX6_forgetAnswers, cX6_forgetAnswers, 4, none)
abbrev dX6_forgetAnswers : Nat × Nat := (1, 21)
abbrev mX6_snapshot : zM := (yX6_snapshot, cX6_snapshot, 4, some (.object "QuorumLedger$Message"))
abbrev dX6_snapshot : Nat × Nat := (3, 64)
set_option maxRecDepth 20000 in
theorem kX6_init : zLc mX6_init 2 := ⟨zCh_1 (List.mem_of_getElem? (i := 231) rfl) rfl, zCh_1 (List.mem_of_getElem? (i := 9) (by decide +kernel)) rfl, by decide, by decide, by decide +kernel⟩
set_option maxRecDepth 20000 in
theorem kX6_setTimer : zLc mX6_setTimer 1 := ⟨zCh_3 (List.mem_of_getElem? (i := 97) rfl) rfl, zCh_1 (List.mem_of_getElem? (i := 9) (by decide +kernel)) rfl, by decide, by decide, by decide +kernel⟩
set_option maxRecDepth 20000 in
theorem kX6_timersSet : zLc mX6_timersSet 0 := ⟨zCh_6 (List.mem_of_getElem? (i := 9) rfl) rfl, zCh_1 (List.mem_of_getElem? (i := 9) (by decide +kernel)) rfl, by decide, by decide, by decide +kernel⟩
set_option maxRecDepth 20000 in
theorem kX6_fall : zLc mX6_fall 0 := ⟨zCh_3 (List.mem_of_getElem? (i := 67) rfl) rfl, zCh_1 (List.mem_of_getElem? (i := 9) (by decide +kernel)) rfl, by decide, by decide, by decide +kernel⟩
set_option maxRecDepth 20000 in
theorem kX6_wake : zLc mX6_wake 0 := ⟨zCh_5 (List.mem_of_getElem? (i := 237) rfl) rfl, zCh_1 (List.mem_of_getElem? (i := 9) (by decide +kernel)) rfl, by decide, by decide, by decide +kernel⟩
set_option maxRecDepth 20000 in
theorem kX6_ask : zLc mX6_ask 0 := ⟨zCh_5 (List.mem_of_getElem? (i := 146) rfl) rfl, zCh_1 (List.mem_of_getElem? (i := 9) (by decide +kernel)) rfl, by decide, by decide, by decide +kernel⟩
set_option maxRecDepth 20000 in
theorem kX6_enter : zLc mX6_enter 1 := ⟨zCh_4 (List.mem_of_getElem? (i := 49) rfl) rfl, zCh_1 (List.mem_of_getElem? (i := 9) (by decide +kernel)) rfl, by decide, by decide, by decide +kernel⟩
set_option maxRecDepth 20000 in
theorem kX6_setLocked : zLc mX6_setLocked 2 := ⟨zCh_4 (List.mem_of_getElem? (i := 53) rfl) rfl, zCh_1 (List.mem_of_getElem? (i := 9) (by decide +kernel)) rfl, by decide, by decide, by decide +kernel⟩
set_option maxRecDepth 20000 in
theorem kX6_setValid : zLc mX6_setValid 2 := ⟨zCh_4 (List.mem_of_getElem? (i := 57) rfl) rfl, zCh_1 (List.mem_of_getElem? (i := 9) (by decide +kernel)) rfl, by decide, by decide, by decide +kernel⟩
set_option maxRecDepth 20000 in
theorem kX6_vote : zLc mX6_vote 2 := ⟨zCh_4 (List.mem_of_getElem? (i := 142) rfl) rfl, zCh_1 (List.mem_of_getElem? (i := 9) (by decide +kernel)) rfl, by decide, by decide, by decide +kernel⟩
set_option maxRecDepth 20000 in
theorem kX6_decided : zLc mX6_decided 1 := ⟨zCh_5 (List.mem_of_getElem? (i := 119) rfl) rfl, zCh_1 (List.mem_of_getElem? (i := 9) (by decide +kernel)) rfl, by decide, by decide, by decide +kernel⟩
set_option maxRecDepth 20000 in
theorem kX6_forgetAnswers : zLc mX6_forgetAnswers 2 := ⟨zCh_4 (List.mem_of_getElem? (i := 44) rfl) rfl, zCh_1 (List.mem_of_getElem? (i := 9) (by decide +kernel)) rfl, by decide, by decide, by decide +kernel⟩
set_option maxRecDepth 20000 in
theorem kX6_snapshot : zLc mX6_snapshot 0 := ⟨zCh_5 (List.mem_of_getElem? (i := 132) rfl) rfl, zCh_1 (List.mem_of_getElem? (i := 9) (by decide +kernel)) rfl, by decide, by decide, by decide +kernel⟩
theorem lX6_20 : Cond.methodLink RX6 20 yX0_init ∈ zT ∧ Cond.instanceMethod yX0_init ∈ zT := ⟨zCh_2 (List.mem_of_getElem? (i := 39) (by decide +kernel)) rfl, zCh_1 (List.mem_of_getElem? (i := 136) (by decide +kernel)) rfl⟩
theorem lX6_74 : Cond.methodLink RX6 74 yX8_init ∈ zT ∧ Cond.instanceMethod yX8_init ∈ zT := ⟨zCh_2 (List.mem_of_getElem? (i := 43) (by decide +kernel)) rfl, zCh_2 (List.mem_of_getElem? (i := 44) (by decide +kernel)) rfl⟩
theorem lX6_89 : Cond.methodLink RX6 89 yJ7_fill_53178 ∈ zT ∧ Cond.static yJ7_fill_53178 ∈ zT := ⟨zCh_3 (List.mem_of_getElem? (i := 68) (by decide +kernel)) rfl, zCh_1 (List.mem_of_getElem? (i := 140) (by decide +kernel)) rfl⟩
theorem lX6_95 : Cond.methodLink RX6 95 yX8_clear ∈ zT ∧ Cond.instanceMethod yX8_clear ∈ zT ∧ Cond.selects yX8_clear.cls yX8_clear yX8_clear ∈ zT := ⟨zCh_3 (List.mem_of_getElem? (i := 69) (by decide +kernel)) rfl, zCh_3 (List.mem_of_getElem? (i := 70) (by decide +kernel)) rfl, zCh_3 (List.mem_of_getElem? (i := 71) (by decide +kernel)) rfl⟩
theorem lX6_99 : Cond.methodLink RX6 99 yX8_clearDecided ∈ zT ∧ Cond.instanceMethod yX8_clearDecided ∈ zT ∧ Cond.selects yX8_clearDecided.cls yX8_clearDecided yX8_clearDecided ∈ zT := ⟨zCh_3 (List.mem_of_getElem? (i := 85) (by decide +kernel)) rfl, zCh_3 (List.mem_of_getElem? (i := 86) (by decide +kernel)) rfl, zCh_3 (List.mem_of_getElem? (i := 87) (by decide +kernel)) rfl⟩
theorem lX6_102 : Cond.methodLink RX6 102 yX8_clearRest ∈ zT ∧ Cond.instanceMethod yX8_clearRest ∈ zT ∧ Cond.selects yX8_clearRest.cls yX8_clearRest yX8_clearRest ∈ zT := ⟨zCh_3 (List.mem_of_getElem? (i := 89) (by decide +kernel)) rfl, zCh_3 (List.mem_of_getElem? (i := 90) (by decide +kernel)) rfl, zCh_3 (List.mem_of_getElem? (i := 91) (by decide +kernel)) rfl⟩
theorem lX6_111 : Cond.methodLink RX6 111 yX6_setTimer ∈ zT ∧ Cond.instanceMethod yX6_setTimer ∈ zT ∧ Cond.selects yX6_setTimer.cls yX6_setTimer yX6_setTimer ∈ zT := ⟨zCh_5 (List.mem_of_getElem? (i := 238) (by decide +kernel)) rfl, zCh_3 (List.mem_of_getElem? (i := 95) (by decide +kernel)) rfl, zCh_3 (List.mem_of_getElem? (i := 96) (by decide +kernel)) rfl⟩
theorem lX6_115 : Cond.methodLink RX6 115 yX6_ask ∈ zT ∧ Cond.instanceMethod yX6_ask ∈ zT ∧ Cond.selects yX6_ask.cls yX6_ask yX6_ask ∈ zT := ⟨zCh_5 (List.mem_of_getElem? (i := 239) (by decide +kernel)) rfl, zCh_5 (List.mem_of_getElem? (i := 144) (by decide +kernel)) rfl, zCh_5 (List.mem_of_getElem? (i := 145) (by decide +kernel)) rfl⟩
theorem lX6_119 : Cond.methodLink RX6 119 yX10_spread ∈ zT ∧ Cond.instanceMethod yX10_spread ∈ zT ∧ Cond.selects yX10_spread.cls yX10_spread yX10_spread ∈ zT := ⟨zCh_6 (List.mem_of_getElem? (i := 0) (by decide +kernel)) rfl, zCh_4 (List.mem_of_getElem? (i := 3) (by decide +kernel)) rfl, zCh_4 (List.mem_of_getElem? (i := 4) (by decide +kernel)) rfl⟩
theorem lX6_123 : Cond.methodLink RX6 123 yX9_drop ∈ zT ∧ Cond.instanceMethod yX9_drop ∈ zT ∧ Cond.selects yX9_drop.cls yX9_drop yX9_drop ∈ zT := ⟨zCh_4 (List.mem_of_getElem? (i := 45) (by decide +kernel)) rfl, zCh_3 (List.mem_of_getElem? (i := 78) (by decide +kernel)) rfl, zCh_3 (List.mem_of_getElem? (i := 79) (by decide +kernel)) rfl⟩
theorem lX6_127 : Cond.methodLink RX6 127 yX9_fresh ∈ zT ∧ Cond.instanceMethod yX9_fresh ∈ zT ∧ Cond.selects yX9_fresh.cls yX9_fresh yX9_fresh ∈ zT := ⟨zCh_4 (List.mem_of_getElem? (i := 143) (by decide +kernel)) rfl, zCh_3 (List.mem_of_getElem? (i := 106) (by decide +kernel)) rfl, zCh_3 (List.mem_of_getElem? (i := 107) (by decide +kernel)) rfl⟩
theorem lX6_138 : Cond.methodLink RX6 138 yX6_setLocked ∈ zT ∧ Cond.instanceMethod yX6_setLocked ∈ zT ∧ Cond.selects yX6_setLocked.cls yX6_setLocked yX6_setLocked ∈ zT := ⟨zCh_4 (List.mem_of_getElem? (i := 50) (by decide +kernel)) rfl, zCh_4 (List.mem_of_getElem? (i := 51) (by decide +kernel)) rfl, zCh_4 (List.mem_of_getElem? (i := 52) (by decide +kernel)) rfl⟩
theorem lX6_142 : Cond.methodLink RX6 142 yX6_setValid ∈ zT ∧ Cond.instanceMethod yX6_setValid ∈ zT ∧ Cond.selects yX6_setValid.cls yX6_setValid yX6_setValid ∈ zT := ⟨zCh_4 (List.mem_of_getElem? (i := 54) (by decide +kernel)) rfl, zCh_4 (List.mem_of_getElem? (i := 55) (by decide +kernel)) rfl, zCh_4 (List.mem_of_getElem? (i := 56) (by decide +kernel)) rfl⟩
theorem lX6_175 : Cond.methodLink RX6 175 yX5_writeId ∈ zT ∧ Cond.instanceMethod yX5_writeId ∈ zT ∧ Cond.selects yX5_writeId.cls yX5_writeId yX5_writeId ∈ zT := ⟨zCh_4 (List.mem_of_getElem? (i := 146) (by decide +kernel)) rfl, zCh_4 (List.mem_of_getElem? (i := 91) (by decide +kernel)) rfl, zCh_4 (List.mem_of_getElem? (i := 92) (by decide +kernel)) rfl⟩
theorem lX6_182 : Cond.methodLink RX6 182 yX4_fetch ∈ zT ∧ Cond.instanceMethod yX4_fetch ∈ zT ∧ Cond.selects yX4_fetch.cls yX4_fetch yX4_fetch ∈ zT := ⟨zCh_5 (List.mem_of_getElem? (i := 120) (by decide +kernel)) rfl, zCh_5 (List.mem_of_getElem? (i := 121) (by decide +kernel)) rfl, zCh_5 (List.mem_of_getElem? (i := 122) (by decide +kernel)) rfl⟩
theorem lX6_189 : Cond.methodLink RX6 189 yX0_encode ∈ zT ∧ Cond.instanceMethod yX0_encode ∈ zT ∧ Cond.selects yX0_encode.cls yX0_encode yX0_encode ∈ zT := ⟨zCh_5 (List.mem_of_getElem? (i := 133) (by decide +kernel)) rfl, zCh_2 (List.mem_of_getElem? (i := 223) (by decide +kernel)) rfl, zCh_2 (List.mem_of_getElem? (i := 224) (by decide +kernel)) rfl⟩
theorem lX6_11 : Cond.methodLinkNest RX6 11 yX4_init "QuorumLedger" ∈ zN ∧ Cond.instanceMethod yX4_init ∈ zT := ⟨zNin 235 (by decide +kernel) rfl, zCh_1 (List.mem_of_getElem? (i := 236) (by decide +kernel)) rfl⟩
theorem lX6_134 : Cond.methodLinkNest RX6 134 yX11_putTwo "QuorumLedger" ∈ zN ∧ Cond.static yX11_putTwo ∈ zT := ⟨zNin 864 (by decide +kernel) rfl, zCh_2 (List.mem_of_getElem? (i := 227) (by decide +kernel)) rfl⟩
theorem fX6_12 : Cond.fieldLink RX6 12 "QuorumLedger$Node" "log" "LQuorumLedger$Log;" ∈ zT := zCh_2 (List.mem_of_getElem? (i := 105) (by decide +kernel)) rfl
theorem fX6_21 : Cond.fieldLink RX6 21 "QuorumLedger$Node" "book" "LQuorumLedger$Book;" ∈ zT := zCh_2 (List.mem_of_getElem? (i := 112) (by decide +kernel)) rfl
theorem fX6_25 : Cond.fieldLink RX6 25 "QuorumLedger$Node" "lastId" "[B" ∈ zT := zCh_2 (List.mem_of_getElem? (i := 115) (by decide +kernel)) rfl
theorem fX6_29 : Cond.fieldLink RX6 29 "QuorumLedger$Node" "timers" "[I" ∈ zT := zCh_2 (List.mem_of_getElem? (i := 118) (by decide +kernel)) rfl
theorem fX6_35 : Cond.fieldLink RX6 35 "QuorumLedger$Node" "answers" "[LQuorumLedger$Message;" ∈ zT := zCh_2 (List.mem_of_getElem? (i := 121) (by decide +kernel)) rfl
theorem fX6_39 : Cond.fieldLink RX6 39 "QuorumLedger$Node" "up" "Z" ∈ zT := zCh_2 (List.mem_of_getElem? (i := 122) (by decide +kernel)) rfl
theorem fX6_43 : Cond.fieldLink RX6 43 "QuorumLedger$Node" "height" "I" ∈ zT := zCh_2 (List.mem_of_getElem? (i := 126) (by decide +kernel)) rfl
theorem fX6_47 : Cond.fieldLink RX6 47 "QuorumLedger$Node" "lockedRound" "I" ∈ zT := zCh_2 (List.mem_of_getElem? (i := 136) (by decide +kernel)) rfl
theorem fX6_50 : Cond.fieldLink RX6 50 "QuorumLedger$Node" "validRound" "I" ∈ zT := zCh_2 (List.mem_of_getElem? (i := 139) (by decide +kernel)) rfl
theorem fX6_53 : Cond.fieldLink RX6 53 "QuorumLedger$Node" "pending" "I" ∈ zT := zCh_2 (List.mem_of_getElem? (i := 153) (by decide +kernel)) rfl
theorem fX6_56 : Cond.fieldLink RX6 56 "QuorumLedger$Node" "world" "LQuorumLedger$World;" ∈ zT := zCh_2 (List.mem_of_getElem? (i := 99) (by decide +kernel)) rfl
theorem fX6_60 : Cond.fieldLink RX6 60 "QuorumLedger$Node" "number" "I" ∈ zT := zCh_2 (List.mem_of_getElem? (i := 102) (by decide +kernel)) rfl
theorem fX6_65 : Cond.fieldLink RX6 65 "QuorumLedger$World" "sky" "LQuorumLedger$Sky;" ∈ zT := zCh_1 (List.mem_of_getElem? (i := 186) (by decide +kernel)) rfl
theorem fX6_71 : Cond.fieldLink RX6 71 "QuorumLedger$World" "total" "I" ∈ zT := zCh_1 (List.mem_of_getElem? (i := 172) (by decide +kernel)) rfl
theorem fX6_77 : Cond.fieldLink RX6 77 "QuorumLedger$Node" "shelf" "LQuorumLedger$Shelf;" ∈ zT := zCh_2 (List.mem_of_getElem? (i := 108) (by decide +kernel)) rfl
theorem fX6_81 : Cond.fieldLink RX6 81 "QuorumLedger$Sky" "ticks" "I" ∈ zT := zCh_1 (List.mem_of_getElem? (i := 98) (by decide +kernel)) rfl
theorem fX6_86 : Cond.fieldLink RX6 86 "QuorumLedger$Node" "round" "I" ∈ zT := zCh_2 (List.mem_of_getElem? (i := 130) (by decide +kernel)) rfl
theorem fX6_105 : Cond.fieldLink RX6 105 "QuorumLedger$Node" "been" "I" ∈ zT := zCh_2 (List.mem_of_getElem? (i := 148) (by decide +kernel)) rfl
theorem fX6_108 : Cond.fieldLink RX6 108 "QuorumLedger$Node" "step" "I" ∈ zT := zCh_2 (List.mem_of_getElem? (i := 133) (by decide +kernel)) rfl
theorem fX6_131 : Cond.fieldLink RX6 131 "QuorumLedger$Message" "row" "[B" ∈ zT := zCh_3 (List.mem_of_getElem? (i := 119) (by decide +kernel)) rfl
theorem fX6_145 : Cond.fieldLink RX6 145 "QuorumLedger$Node" "sent" "I" ∈ zT := zCh_2 (List.mem_of_getElem? (i := 150) (by decide +kernel)) rfl
theorem fX6_148 : Cond.fieldLink RX6 148 "QuorumLedger$Log" "number" "I" ∈ zT := zCh_2 (List.mem_of_getElem? (i := 9) (by decide +kernel)) rfl
theorem fX6_149 : Cond.fieldLink RX6 149 "QuorumLedger$Message" "users" "I" ∈ zT := zCh_3 (List.mem_of_getElem? (i := 133) (by decide +kernel)) rfl
theorem fX6_152 : Cond.fieldLink RX6 152 "QuorumLedger$Node" "locked" "LQuorumLedger$Message;" ∈ zT := zCh_2 (List.mem_of_getElem? (i := 142) (by decide +kernel)) rfl
theorem fX6_156 : Cond.fieldLink RX6 156 "QuorumLedger$Node" "valid" "LQuorumLedger$Message;" ∈ zT := zCh_2 (List.mem_of_getElem? (i := 145) (by decide +kernel)) rfl
theorem fX6_159 : Cond.fieldLink RX6 159 "QuorumLedger$Message" "form" "I" ∈ zT := zCh_3 (List.mem_of_getElem? (i := 136) (by decide +kernel)) rfl
theorem fX6_162 : Cond.fieldLink RX6 162 "QuorumLedger$Message" "id" "[J" ∈ zT := zCh_3 (List.mem_of_getElem? (i := 124) (by decide +kernel)) rfl
theorem fX6_172 : Cond.fieldLink RX6 172 "QuorumLedger$Message" "named" "Z" ∈ zT := zCh_3 (List.mem_of_getElem? (i := 142) (by decide +kernel)) rfl
theorem fX6_179 : Cond.fieldLink RX6 179 "QuorumLedger$World" "desk" "[B" ∈ zT := zCh_1 (List.mem_of_getElem? (i := 197) (by decide +kernel)) rfl
theorem fX6_186 : Cond.fieldLink RX6 186 "QuorumLedger$World" "digest" "[B" ∈ zT := zCh_1 (List.mem_of_getElem? (i := 201) (by decide +kernel)) rfl
theorem qX6_3 : Cond.methodLink RX6 3 Lib.objectInit ∈ zT := zCh_1 (List.mem_of_getElem? (i := 232) (by decide +kernel)) rfl
theorem qX6_166 : Cond.methodLink RX6 166 arraycopyName ∈ zT := zCh_4 (List.mem_of_getElem? (i := 145) (by decide +kernel)) rfl
theorem clX6_9 : Cond.classLink RX6 9 "QuorumLedger$Log" ∈ zT := zCh_1 (List.mem_of_getElem? (i := 233) (by decide +kernel)) rfl
theorem clX6_18 : Cond.classLink RX6 18 "QuorumLedger$Book" ∈ zT := zCh_2 (List.mem_of_getElem? (i := 38) (by decide +kernel)) rfl
theorem clX6_33 : Cond.classLink RX6 33 "QuorumLedger$Message" ∈ zT := zCh_2 (List.mem_of_getElem? (i := 40) (by decide +kernel)) rfl
theorem clX6_63 : Cond.classLink RX6 63 "QuorumLedger$Shelf" ∈ zT := zCh_2 (List.mem_of_getElem? (i := 41) (by decide +kernel)) rfl

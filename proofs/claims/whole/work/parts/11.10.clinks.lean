/-! QuorumLedger$World: its methods, what they link -/
abbrev mX10_init : zM := (yX10_init, cX10_init, 5, none)
abbrev dX10_init : Nat × Nat := (2, 43)
abbrev mX10_found : zM := (yX10_found, cX10_found, 8, some (.object "QuorumLedger$World"))
abbrev dX10_found : Nat × Nat := (7, 167)
abbrev mX10_proposer : zM := (yX10_proposer, cX10_proposer, 3, some .int)
abbrev dX10_proposer : Nat × Nat := (0, 0)
abbrev mX10_spread : zM := (yX10_spread, cX10_spread, 6, none)
abbrev dX10_spread : Nat × Nat := (2, 47)
abbrev mX10_land : zM := (yX10_land, cX10_land, 7, some .int)
abbrev dX10_land : Nat × Nat := (7, 168)
abbrev mX10_passTime : zM := (yX10_passTime, cX10_passTime, 5, some .int)
abbrev dX10_passTime : Nat × Nat := (7, 167)
set_option maxRecDepth 20000 in
theorem kX10_init : zLc mX10_init 4 := ⟨zCh_1 (List.mem_of_getElem? (i := 77) rfl) rfl, zCh_1 (List.mem_of_getElem? (i := 2) (by decide +kernel)) rfl, by decide, by decide, by decide +kernel⟩
set_option maxRecDepth 20000 in
theorem kX10_found : zLc mX10_found 2 := ⟨zCh_1 (List.mem_of_getElem? (i := 28) rfl) rfl, zCh_1 (List.mem_of_getElem? (i := 2) (by decide +kernel)) rfl, by decide, by decide, by decide +kernel⟩
set_option maxRecDepth 20000 in
theorem kX10_proposer : zLc mX10_proposer 2 := ⟨zCh_3 (List.mem_of_getElem? (i := 101) rfl) rfl, zCh_1 (List.mem_of_getElem? (i := 2) (by decide +kernel)) rfl, by decide, by decide, by decide +kernel⟩
set_option maxRecDepth 20000 in
theorem kX10_spread : zLc mX10_spread 4 := ⟨zCh_4 (List.mem_of_getElem? (i := 5) rfl) rfl, zCh_1 (List.mem_of_getElem? (i := 2) (by decide +kernel)) rfl, by decide, by decide, by decide +kernel⟩
set_option maxRecDepth 20000 in
theorem kX10_land : zLc mX10_land 1 := ⟨zCh_5 (List.mem_of_getElem? (i := 79) rfl) rfl, zCh_1 (List.mem_of_getElem? (i := 2) (by decide +kernel)) rfl, by decide, by decide, by decide +kernel⟩
set_option maxRecDepth 20000 in
theorem kX10_passTime : zLc mX10_passTime 0 := ⟨zCh_5 (List.mem_of_getElem? (i := 197) rfl) rfl, zCh_1 (List.mem_of_getElem? (i := 2) (by decide +kernel)) rfl, by decide, by decide, by decide +kernel⟩
theorem lX10_11 : Cond.methodLink RX10 11 yX9_init ∈ zT ∧ Cond.instanceMethod yX9_init ∈ zT := ⟨zCh_1 (List.mem_of_getElem? (i := 81) (by decide +kernel)) rfl, zCh_1 (List.mem_of_getElem? (i := 82) (by decide +kernel)) rfl⟩
theorem lX10_20 : Cond.methodLink RX10 20 yX0_init ∈ zT ∧ Cond.instanceMethod yX0_init ∈ zT := ⟨zCh_1 (List.mem_of_getElem? (i := 135) (by decide +kernel)) rfl, zCh_1 (List.mem_of_getElem? (i := 136) (by decide +kernel)) rfl⟩
theorem lX10_56 : Cond.methodLink RX10 56 yJ9_max_7cf53 ∈ zT ∧ Cond.static yJ9_max_7cf53 ∈ zT := ⟨zCh_1 (List.mem_of_getElem? (i := 164) (by decide +kernel)) rfl, zCh_1 (List.mem_of_getElem? (i := 165) (by decide +kernel)) rfl⟩
theorem lX10_73 : Cond.methodLink RX10 73 yX1_init ∈ zT ∧ Cond.instanceMethod yX1_init ∈ zT := ⟨zCh_1 (List.mem_of_getElem? (i := 61) (by decide +kernel)) rfl, zCh_1 (List.mem_of_getElem? (i := 62) (by decide +kernel)) rfl⟩
theorem lX10_76 : Cond.methodLink RX10 76 yX10_init ∈ zT ∧ Cond.instanceMethod yX10_init ∈ zT := ⟨zCh_1 (List.mem_of_getElem? (i := 75) (by decide +kernel)) rfl, zCh_1 (List.mem_of_getElem? (i := 76) (by decide +kernel)) rfl⟩
theorem lX10_79 : Cond.methodLink RX10 79 yX6_init ∈ zT ∧ Cond.instanceMethod yX6_init ∈ zT := ⟨zCh_1 (List.mem_of_getElem? (i := 229) (by decide +kernel)) rfl, zCh_1 (List.mem_of_getElem? (i := 230) (by decide +kernel)) rfl⟩
theorem lX10_85 : Cond.methodLink RX10 85 yX7_settle ∈ zT ∧ Cond.static yX7_settle ∈ zT := ⟨zCh_2 (List.mem_of_getElem? (i := 195) (by decide +kernel)) rfl, zCh_2 (List.mem_of_getElem? (i := 196) (by decide +kernel)) rfl⟩
theorem lX10_91 : Cond.methodLink RX10 91 yX9_post ∈ zT ∧ Cond.instanceMethod yX9_post ∈ zT ∧ Cond.selects yX9_post.cls yX9_post yX9_post ∈ zT := ⟨zCh_4 (List.mem_of_getElem? (i := 6) (by decide +kernel)) rfl, zCh_4 (List.mem_of_getElem? (i := 7) (by decide +kernel)) rfl, zCh_4 (List.mem_of_getElem? (i := 8) (by decide +kernel)) rfl⟩
theorem lX10_95 : Cond.methodLink RX10 95 yX9_senderOf ∈ zT ∧ Cond.instanceMethod yX9_senderOf ∈ zT ∧ Cond.selects yX9_senderOf.cls yX9_senderOf yX9_senderOf ∈ zT := ⟨zCh_5 (List.mem_of_getElem? (i := 80) (by decide +kernel)) rfl, zCh_5 (List.mem_of_getElem? (i := 81) (by decide +kernel)) rfl, zCh_5 (List.mem_of_getElem? (i := 82) (by decide +kernel)) rfl⟩
theorem lX10_99 : Cond.methodLink RX10 99 yX9_receiverOf ∈ zT ∧ Cond.instanceMethod yX9_receiverOf ∈ zT ∧ Cond.selects yX9_receiverOf.cls yX9_receiverOf yX9_receiverOf ∈ zT := ⟨zCh_5 (List.mem_of_getElem? (i := 84) (by decide +kernel)) rfl, zCh_5 (List.mem_of_getElem? (i := 85) (by decide +kernel)) rfl, zCh_5 (List.mem_of_getElem? (i := 86) (by decide +kernel)) rfl⟩
theorem lX10_102 : Cond.methodLink RX10 102 yX9_take ∈ zT ∧ Cond.instanceMethod yX9_take ∈ zT ∧ Cond.selects yX9_take.cls yX9_take yX9_take ∈ zT := ⟨zCh_5 (List.mem_of_getElem? (i := 88) (by decide +kernel)) rfl, zCh_5 (List.mem_of_getElem? (i := 89) (by decide +kernel)) rfl, zCh_5 (List.mem_of_getElem? (i := 90) (by decide +kernel)) rfl⟩
theorem lX10_110 : Cond.methodLink RX10 110 yX1_look ∈ zT ∧ Cond.instanceMethod yX1_look ∈ zT ∧ Cond.selects yX1_look.cls yX1_look yX1_look ∈ zT := ⟨zCh_5 (List.mem_of_getElem? (i := 92) (by decide +kernel)) rfl, zCh_4 (List.mem_of_getElem? (i := 204) (by decide +kernel)) rfl, zCh_4 (List.mem_of_getElem? (i := 205) (by decide +kernel)) rfl⟩
theorem lX10_114 : Cond.methodLink RX10 114 yX3_receive ∈ zT ∧ Cond.static yX3_receive ∈ zT := ⟨zCh_5 (List.mem_of_getElem? (i := 93) (by decide +kernel)) rfl, zCh_5 (List.mem_of_getElem? (i := 94) (by decide +kernel)) rfl⟩
theorem lX10_120 : Cond.methodLink RX10 120 yX5_at ∈ zT ∧ Cond.instanceMethod yX5_at ∈ zT ∧ Cond.selects yX5_at.cls yX5_at yX5_at ∈ zT := ⟨zCh_5 (List.mem_of_getElem? (i := 184) (by decide +kernel)) rfl, zCh_3 (List.mem_of_getElem? (i := 230) (by decide +kernel)) rfl, zCh_3 (List.mem_of_getElem? (i := 231) (by decide +kernel)) rfl⟩
theorem lX10_125 : Cond.methodLink RX10 125 yX9_drop ∈ zT ∧ Cond.instanceMethod yX9_drop ∈ zT ∧ Cond.selects yX9_drop.cls yX9_drop yX9_drop ∈ zT := ⟨zCh_5 (List.mem_of_getElem? (i := 185) (by decide +kernel)) rfl, zCh_3 (List.mem_of_getElem? (i := 78) (by decide +kernel)) rfl, zCh_3 (List.mem_of_getElem? (i := 79) (by decide +kernel)) rfl⟩
theorem lX10_136 : Cond.methodLink RX10 136 yX7_ring ∈ zT ∧ Cond.static yX7_ring ∈ zT := ⟨zCh_5 (List.mem_of_getElem? (i := 198) (by decide +kernel)) rfl, zCh_5 (List.mem_of_getElem? (i := 199) (by decide +kernel)) rfl⟩
theorem lX10_70 : Cond.methodLinkNest RX10 70 yX2_init "QuorumLedger" ∈ zN ∧ Cond.instanceMethod yX2_init ∈ zT := ⟨zNin 31 (by decide +kernel) rfl, zCh_1 (List.mem_of_getElem? (i := 32) (by decide +kernel)) rfl⟩
theorem fX10_12 : Cond.fieldLink RX10 12 "QuorumLedger$World" "sky" "LQuorumLedger$Sky;" ∈ zT := zCh_1 (List.mem_of_getElem? (i := 185) (by decide +kernel)) rfl
theorem fX10_21 : Cond.fieldLink RX10 21 "QuorumLedger$World" "draft" "LQuorumLedger$Book;" ∈ zT := zCh_1 (List.mem_of_getElem? (i := 192) (by decide +kernel)) rfl
theorem fX10_25 : Cond.fieldLink RX10 25 "QuorumLedger$World" "latest" "LQuorumLedger$Book;" ∈ zT := zCh_1 (List.mem_of_getElem? (i := 194) (by decide +kernel)) rfl
theorem fX10_28 : Cond.fieldLink RX10 28 "QuorumLedger$World" "desk" "[B" ∈ zT := zCh_1 (List.mem_of_getElem? (i := 196) (by decide +kernel)) rfl
theorem fX10_32 : Cond.fieldLink RX10 32 "QuorumLedger$World" "digest" "[B" ∈ zT := zCh_1 (List.mem_of_getElem? (i := 200) (by decide +kernel)) rfl
theorem fX10_35 : Cond.fieldLink RX10 35 "QuorumLedger$World" "faults" "I" ∈ zT := zCh_1 (List.mem_of_getElem? (i := 169) (by decide +kernel)) rfl
theorem fX10_39 : Cond.fieldLink RX10 39 "QuorumLedger$World" "hasher" "LQuorumLedger$Hasher;" ∈ zT := zCh_1 (List.mem_of_getElem? (i := 182) (by decide +kernel)) rfl
theorem fX10_43 : Cond.fieldLink RX10 43 "QuorumLedger$World" "form" "LQuorumLedger$Form;" ∈ zT := zCh_1 (List.mem_of_getElem? (i := 190) (by decide +kernel)) rfl
theorem fX10_47 : Cond.fieldLink RX10 47 "QuorumLedger$World" "total" "I" ∈ zT := zCh_1 (List.mem_of_getElem? (i := 171) (by decide +kernel)) rfl
theorem fX10_50 : Cond.fieldLink RX10 50 "QuorumLedger$World" "honest" "I" ∈ zT := zCh_1 (List.mem_of_getElem? (i := 176) (by decide +kernel)) rfl
theorem fX10_53 : Cond.fieldLink RX10 53 "QuorumLedger$World" "quorum" "I" ∈ zT := zCh_1 (List.mem_of_getElem? (i := 178) (by decide +kernel)) rfl
theorem fX10_64 : Cond.fieldLink RX10 64 "QuorumLedger$World" "nodes" "[LQuorumLedger$Node;" ∈ zT := zCh_1 (List.mem_of_getElem? (i := 180) (by decide +kernel)) rfl
theorem fX10_82 : Cond.fieldLink RX10 82 "QuorumLedger$Node" "pending" "I" ∈ zT := zCh_2 (List.mem_of_getElem? (i := 155) (by decide +kernel)) rfl
theorem fX10_106 : Cond.fieldLink RX10 106 "QuorumLedger$Node" "up" "Z" ∈ zT := zCh_2 (List.mem_of_getElem? (i := 124) (by decide +kernel)) rfl
theorem fX10_129 : Cond.fieldLink RX10 129 "QuorumLedger$Sky" "ticks" "I" ∈ zT := zCh_1 (List.mem_of_getElem? (i := 99) (by decide +kernel)) rfl
theorem fX10_132 : Cond.fieldLink RX10 132 "QuorumLedger$Node" "timers" "[I" ∈ zT := zCh_2 (List.mem_of_getElem? (i := 119) (by decide +kernel)) rfl
theorem qX10_3 : Cond.methodLink RX10 3 Lib.objectInit ∈ zT := zCh_1 (List.mem_of_getElem? (i := 78) (by decide +kernel)) rfl
theorem clX10_9 : Cond.classLink RX10 9 "QuorumLedger$Sky" ∈ zT := zCh_1 (List.mem_of_getElem? (i := 79) (by decide +kernel)) rfl
theorem clX10_13 : Cond.classLink RX10 13 "QuorumLedger$World" ∈ zT := zCh_1 (List.mem_of_getElem? (i := 57) (by decide +kernel)) rfl
theorem clX10_18 : Cond.classLink RX10 18 "QuorumLedger$Book" ∈ zT := zCh_1 (List.mem_of_getElem? (i := 133) (by decide +kernel)) rfl
theorem clX10_62 : Cond.classLink RX10 62 "QuorumLedger$Node" ∈ zT := zCh_1 (List.mem_of_getElem? (i := 167) (by decide +kernel)) rfl
theorem clX10_68 : Cond.classLink RX10 68 "QuorumLedger$Hasher" ∈ zT := zCh_1 (List.mem_of_getElem? (i := 29) (by decide +kernel)) rfl
theorem clX10_71 : Cond.classLink RX10 71 "QuorumLedger$Form" ∈ zT := zCh_1 (List.mem_of_getElem? (i := 59) (by decide +kernel)) rfl

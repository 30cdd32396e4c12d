/-! QuorumLedger: its methods, what they link -/
abbrev mX11_init : zM := (yX11_init, cX11_init, 4, none)
abbrev dX11_init : Nat × Nat := (8, 194)
abbrev mX11_feed : zM := (yX11_feed, cX11_feed, 6, some .boolean)
abbrev dX11_feed : Nat × Nat := (1, 22)
abbrev mX11_putInt : zM := (yX11_putInt, cX11_putInt, 3, none)
abbrev dX11_putInt : Nat × Nat := (0, 0)
abbrev mX11_lie : zM := (yX11_lie, cX11_lie, 6, some .boolean)
abbrev dX11_lie : Nat × Nat := (7, 168)
abbrev mX11_pass : zM := (yX11_pass, cX11_pass, 5, some .boolean)
abbrev dX11_pass : Nat × Nat := (2, 47)
abbrev mX11_mayLie : zM := (yX11_mayLie, cX11_mayLie, 3, some .boolean)
abbrev dX11_mayLie : Nat × Nat := (1, 20)
abbrev mX11_seal : zM := (yX11_seal, cX11_seal, 7, some .int)
abbrev dX11_seal : Nat × Nat := (4, 98)
abbrev mX11_behindEvidences : zM := (yX11_behindEvidences, cX11_behindEvidences, 7, some .int)
abbrev dX11_behindEvidences : Nat × Nat := (1, 23)
abbrev mX11_stamp : zM := (yX11_stamp, cX11_stamp, 6, some .boolean)
abbrev dX11_stamp : Nat × Nat := (4, 96)
abbrev mX11_hash : zM := (yX11_hash, cX11_hash, 3, some .long)
abbrev dX11_hash : Nat × Nat := (4, 96)
abbrev mX11_submit : zM := (yX11_submit, cX11_submit, 11, some .boolean)
abbrev dX11_submit : Nat × Nat := (3, 72)
abbrev mX11_deliver : zM := (yX11_deliver, cX11_deliver, 2, some .int)
abbrev dX11_deliver : Nat × Nat := (8, 194)
abbrev mX11_calm : zM := (yX11_calm, cX11_calm, 5, some .int)
abbrev dX11_calm : Nat × Nat := (8, 194)
abbrev mX11_copy : zM := (yX11_copy, cX11_copy, 4, some .boolean)
abbrev dX11_copy : Nat × Nat := (2, 43)
abbrev mX11_flying : zM := (yX11_flying, cX11_flying, 4, some .int)
abbrev dX11_flying : Nat × Nat := (2, 43)
abbrev mX11_bytes : zM := (yX11_bytes, cX11_bytes, 4, some .long)
abbrev dX11_bytes : Nat × Nat := (2, 43)
abbrev mX11_tick : zM := (yX11_tick, cX11_tick, 1, some .int)
abbrev dX11_tick : Nat × Nat := (8, 191)
abbrev mX11_crash : zM := (yX11_crash, cX11_crash, 3, some .boolean)
abbrev dX11_crash : Nat × Nat := (3, 71)
abbrev mX11_cut : zM := (yX11_cut, cX11_cut, 4, some .boolean)
abbrev dX11_cut : Nat × Nat := (1, 21)
abbrev mX11_restart : zM := (yX11_restart, cX11_restart, 3, some .boolean)
abbrev dX11_restart : Nat × Nat := (7, 167)
abbrev mX11_state : zM := (yX11_state, cX11_state, 4, some .int)
abbrev dX11_state : Nat × Nat := (1, 21)
abbrev mX11_block : zM := (yX11_block, cX11_block, 6, some .long)
abbrev dX11_block : Nat × Nat := (2, 66)
abbrev mX11_paid : zM := (yX11_paid, cX11_paid, 4, some .int)
abbrev dX11_paid : Nat × Nat := (1, 21)
abbrev mX11_path : zM := (yX11_path, cX11_path, 6, some .long)
abbrev dX11_path : Nat × Nat := (4, 98)
abbrev mX11_account : zM := (yX11_account, cX11_account, 5, some .long)
abbrev dX11_account : Nat × Nat := (5, 116)
abbrev mX11_sector : zM := (yX11_sector, cX11_sector, 5, some .long)
abbrev dX11_sector : Nat × Nat := (1, 26)
abbrev mX11_proof : zM := (yX11_proof, cX11_proof, 7, some .boolean)
abbrev dX11_proof : Nat × Nat := (3, 71)
abbrev mX11_balance : zM := (yX11_balance, cX11_balance, 4, some .int)
abbrev dX11_balance : Nat × Nat := (1, 21)
abbrev mX11_count : zM := (yX11_count, cX11_count, 2, some .int)
abbrev dX11_count : Nat × Nat := (0, 0)
abbrev mX11_honestNode : zM := (yX11_honestNode, cX11_honestNode, 2, some (.object "QuorumLedger$Node"))
abbrev dX11_honestNode : Nat × Nat := (0, 0)
abbrev mX11_eight : zM := (yX11_eight, cX11_eight, 7, some .long)
abbrev dX11_eight : Nat × Nat := (0, 0)
abbrev mX11_sameBytes : zM := (yX11_sameBytes, cX11_sameBytes, 6, some .boolean)
abbrev dX11_sameBytes : Nat × Nat := (0, 0)
abbrev mX11_twoBytes : zM := (yX11_twoBytes, cX11_twoBytes, 2, some .int)
abbrev dX11_twoBytes : Nat × Nat := (0, 0)
abbrev mX11_putTwo : zM := (yX11_putTwo, cX11_putTwo, 3, none)
abbrev dX11_putTwo : Nat × Nat := (0, 0)
set_option maxRecDepth 20000 in
theorem kX11_init : zLc mX11_init 2 := ⟨zCh_1 (List.mem_of_getElem? (i := 22) rfl) rfl, zCh_1 (List.mem_of_getElem? (i := 1) (by decide +kernel)) rfl, by decide, by decide, by decide +kernel⟩
set_option maxRecDepth 20000 in
theorem kX11_feed : zLc mX11_feed 5 := ⟨zCh_4 (List.mem_of_getElem? (i := 184) rfl) rfl, zCh_1 (List.mem_of_getElem? (i := 1) (by decide +kernel)) rfl, by decide, by decide, by decide +kernel⟩
set_option maxRecDepth 20000 in
theorem kX11_putInt : zLc mX11_putInt 1 := ⟨zCh_4 (List.mem_of_getElem? (i := 188) rfl) rfl, zCh_1 (List.mem_of_getElem? (i := 1) (by decide +kernel)) rfl, by decide, by decide, by decide +kernel⟩
set_option maxRecDepth 20000 in
theorem kX11_lie : zLc mX11_lie 3 := ⟨zCh_4 (List.mem_of_getElem? (i := 192) rfl) rfl, zCh_1 (List.mem_of_getElem? (i := 1) (by decide +kernel)) rfl, by decide, by decide, by decide +kernel⟩
set_option maxRecDepth 20000 in
theorem kX11_pass : zLc mX11_pass 3 := ⟨zCh_5 (List.mem_of_getElem? (i := 24) rfl) rfl, zCh_1 (List.mem_of_getElem? (i := 1) (by decide +kernel)) rfl, by decide, by decide, by decide +kernel⟩
set_option maxRecDepth 20000 in
theorem kX11_mayLie : zLc mX11_mayLie 2 := ⟨zCh_4 (List.mem_of_getElem? (i := 196) rfl) rfl, zCh_1 (List.mem_of_getElem? (i := 1) (by decide +kernel)) rfl, by decide, by decide, by decide +kernel⟩
set_option maxRecDepth 20000 in
theorem kX11_seal : zLc mX11_seal 3 := ⟨zCh_5 (List.mem_of_getElem? (i := 36) rfl) rfl, zCh_1 (List.mem_of_getElem? (i := 1) (by decide +kernel)) rfl, by decide, by decide, by decide +kernel⟩
set_option maxRecDepth 20000 in
theorem kX11_behindEvidences : zLc mX11_behindEvidences 2 := ⟨zCh_5 (List.mem_of_getElem? (i := 40) rfl) rfl, zCh_1 (List.mem_of_getElem? (i := 1) (by decide +kernel)) rfl, by decide, by decide, by decide +kernel⟩
set_option maxRecDepth 20000 in
theorem kX11_stamp : zLc mX11_stamp 3 := ⟨zCh_5 (List.mem_of_getElem? (i := 53) rfl) rfl, zCh_1 (List.mem_of_getElem? (i := 1) (by decide +kernel)) rfl, by decide, by decide, by decide +kernel⟩
set_option maxRecDepth 20000 in
theorem kX11_hash : zLc mX11_hash 2 := ⟨zCh_5 (List.mem_of_getElem? (i := 59) rfl) rfl, zCh_1 (List.mem_of_getElem? (i := 1) (by decide +kernel)) rfl, by decide, by decide, by decide +kernel⟩
set_option maxRecDepth 20000 in
theorem kX11_submit : zLc mX11_submit 6 := ⟨zCh_5 (List.mem_of_getElem? (i := 64) rfl) rfl, zCh_1 (List.mem_of_getElem? (i := 1) (by decide +kernel)) rfl, by decide, by decide, by decide +kernel⟩
set_option maxRecDepth 20000 in
theorem kX11_deliver : zLc mX11_deliver 1 := ⟨zCh_5 (List.mem_of_getElem? (i := 75) rfl) rfl, zCh_1 (List.mem_of_getElem? (i := 1) (by decide +kernel)) rfl, by decide, by decide, by decide +kernel⟩
set_option maxRecDepth 20000 in
theorem kX11_calm : zLc mX11_calm 2 := ⟨zCh_5 (List.mem_of_getElem? (i := 189) rfl) rfl, zCh_1 (List.mem_of_getElem? (i := 1) (by decide +kernel)) rfl, by decide, by decide, by decide +kernel⟩
set_option maxRecDepth 20000 in
theorem kX11_copy : zLc mX11_copy 1 := ⟨zCh_5 (List.mem_of_getElem? (i := 204) rfl) rfl, zCh_1 (List.mem_of_getElem? (i := 1) (by decide +kernel)) rfl, by decide, by decide, by decide +kernel⟩
set_option maxRecDepth 20000 in
theorem kX11_flying : zLc mX11_flying 2 := ⟨zCh_5 (List.mem_of_getElem? (i := 211) rfl) rfl, zCh_1 (List.mem_of_getElem? (i := 1) (by decide +kernel)) rfl, by decide, by decide, by decide +kernel⟩
set_option maxRecDepth 20000 in
theorem kX11_bytes : zLc mX11_bytes 2 := ⟨zCh_5 (List.mem_of_getElem? (i := 215) rfl) rfl, zCh_1 (List.mem_of_getElem? (i := 1) (by decide +kernel)) rfl, by decide, by decide, by decide +kernel⟩
set_option maxRecDepth 20000 in
theorem kX11_tick : zLc mX11_tick 0 := ⟨zCh_5 (List.mem_of_getElem? (i := 220) rfl) rfl, zCh_1 (List.mem_of_getElem? (i := 1) (by decide +kernel)) rfl, by decide, by decide, by decide +kernel⟩
set_option maxRecDepth 20000 in
theorem kX11_crash : zLc mX11_crash 1 := ⟨zCh_5 (List.mem_of_getElem? (i := 224) rfl) rfl, zCh_1 (List.mem_of_getElem? (i := 1) (by decide +kernel)) rfl, by decide, by decide, by decide +kernel⟩
set_option maxRecDepth 20000 in
theorem kX11_cut : zLc mX11_cut 2 := ⟨zCh_5 (List.mem_of_getElem? (i := 229) rfl) rfl, zCh_1 (List.mem_of_getElem? (i := 1) (by decide +kernel)) rfl, by decide, by decide, by decide +kernel⟩
set_option maxRecDepth 20000 in
theorem kX11_restart : zLc mX11_restart 1 := ⟨zCh_5 (List.mem_of_getElem? (i := 233) rfl) rfl, zCh_1 (List.mem_of_getElem? (i := 1) (by decide +kernel)) rfl, by decide, by decide, by decide +kernel⟩
set_option maxRecDepth 20000 in
theorem kX11_state : zLc mX11_state 2 := ⟨zCh_6 (List.mem_of_getElem? (i := 5) rfl) rfl, zCh_1 (List.mem_of_getElem? (i := 1) (by decide +kernel)) rfl, by decide, by decide, by decide +kernel⟩
set_option maxRecDepth 20000 in
theorem kX11_block : zLc mX11_block 3 := ⟨zCh_6 (List.mem_of_getElem? (i := 13) rfl) rfl, zCh_1 (List.mem_of_getElem? (i := 1) (by decide +kernel)) rfl, by decide, by decide, by decide +kernel⟩
set_option maxRecDepth 20000 in
theorem kX11_paid : zLc mX11_paid 2 := ⟨zCh_6 (List.mem_of_getElem? (i := 18) rfl) rfl, zCh_1 (List.mem_of_getElem? (i := 1) (by decide +kernel)) rfl, by decide, by decide, by decide +kernel⟩
set_option maxRecDepth 20000 in
theorem kX11_path : zLc mX11_path 4 := ⟨zCh_6 (List.mem_of_getElem? (i := 24) rfl) rfl, zCh_1 (List.mem_of_getElem? (i := 1) (by decide +kernel)) rfl, by decide, by decide, by decide +kernel⟩
set_option maxRecDepth 20000 in
theorem kX11_account : zLc mX11_account 3 := ⟨zCh_6 (List.mem_of_getElem? (i := 28) rfl) rfl, zCh_1 (List.mem_of_getElem? (i := 1) (by decide +kernel)) rfl, by decide, by decide, by decide +kernel⟩
set_option maxRecDepth 20000 in
theorem kX11_sector : zLc mX11_sector 3 := ⟨zCh_6 (List.mem_of_getElem? (i := 34) rfl) rfl, zCh_1 (List.mem_of_getElem? (i := 1) (by decide +kernel)) rfl, by decide, by decide, by decide +kernel⟩
set_option maxRecDepth 20000 in
theorem kX11_proof : zLc mX11_proof 3 := ⟨zCh_6 (List.mem_of_getElem? (i := 39) rfl) rfl, zCh_1 (List.mem_of_getElem? (i := 1) (by decide +kernel)) rfl, by decide, by decide, by decide +kernel⟩
set_option maxRecDepth 20000 in
theorem kX11_balance : zLc mX11_balance 2 := ⟨zCh_6 (List.mem_of_getElem? (i := 48) rfl) rfl, zCh_1 (List.mem_of_getElem? (i := 1) (by decide +kernel)) rfl, by decide, by decide, by decide +kernel⟩
set_option maxRecDepth 20000 in
theorem kX11_count : zLc mX11_count 1 := ⟨zCh_6 (List.mem_of_getElem? (i := 52) rfl) rfl, zCh_1 (List.mem_of_getElem? (i := 1) (by decide +kernel)) rfl, by decide, by decide, by decide +kernel⟩
set_option maxRecDepth 20000 in
theorem kX11_honestNode : zLc mX11_honestNode 1 := ⟨zCh_5 (List.mem_of_getElem? (i := 49) rfl) rfl, zCh_1 (List.mem_of_getElem? (i := 1) (by decide +kernel)) rfl, by decide, by decide, by decide +kernel⟩
set_option maxRecDepth 20000 in
theorem kX11_eight : zLc mX11_eight 3 := ⟨zCh_3 (List.mem_of_getElem? (i := 217) rfl) rfl, zCh_1 (List.mem_of_getElem? (i := 1) (by decide +kernel)) rfl, by decide, by decide, by decide +kernel⟩
set_option maxRecDepth 20000 in
theorem kX11_sameBytes : zLc mX11_sameBytes 5 := ⟨zCh_4 (List.mem_of_getElem? (i := 25) rfl) rfl, zCh_1 (List.mem_of_getElem? (i := 1) (by decide +kernel)) rfl, by decide, by decide, by decide +kernel⟩
set_option maxRecDepth 20000 in
theorem kX11_twoBytes : zLc mX11_twoBytes 2 := ⟨zCh_4 (List.mem_of_getElem? (i := 40) rfl) rfl, zCh_1 (List.mem_of_getElem? (i := 1) (by decide +kernel)) rfl, by decide, by decide, by decide +kernel⟩
set_option maxRecDepth 20000 in
theorem kX11_putTwo : zLc mX11_putTwo 3 := ⟨zCh_2 (List.mem_of_getElem? (i := 228) rfl) rfl, zCh_1 (List.mem_of_getElem? (i := 1) (by decide +kernel)) rfl, by decide, by decide, by decide +kernel⟩
theorem lX11_16 : Cond.methodLink RX11 16 yX10_found ∈ zT ∧ Cond.static yX10_found ∈ zT := ⟨zCh_1 (List.mem_of_getElem? (i := 26) (by decide +kernel)) rfl, zCh_1 (List.mem_of_getElem? (i := 27) (by decide +kernel)) rfl⟩
theorem lX11_30 : Cond.methodLink RX11 30 yX11_putInt ∈ zT ∧ Cond.instanceMethod yX11_putInt ∈ zT ∧ Cond.selects yX11_putInt.cls yX11_putInt yX11_putInt ∈ zT := ⟨zCh_4 (List.mem_of_getElem? (i := 185) (by decide +kernel)) rfl, zCh_4 (List.mem_of_getElem? (i := 187) (by decide +kernel)) rfl, zIn 9 (by decide +kernel) rfl⟩
theorem lX11_34 : Cond.methodLink RX11 34 yX11_mayLie ∈ zT ∧ Cond.instanceMethod yX11_mayLie ∈ zT ∧ Cond.selects yX11_mayLie.cls yX11_mayLie yX11_mayLie ∈ zT := ⟨zCh_4 (List.mem_of_getElem? (i := 193) (by decide +kernel)) rfl, zCh_4 (List.mem_of_getElem? (i := 195) (by decide +kernel)) rfl, zIn 10 (by decide +kernel) rfl⟩
theorem lX11_42 : Cond.methodLink RX11 42 yX9_fresh ∈ zT ∧ Cond.instanceMethod yX9_fresh ∈ zT ∧ Cond.selects yX9_fresh.cls yX9_fresh yX9_fresh ∈ zT := ⟨zCh_4 (List.mem_of_getElem? (i := 201) (by decide +kernel)) rfl, zCh_3 (List.mem_of_getElem? (i := 106) (by decide +kernel)) rfl, zCh_3 (List.mem_of_getElem? (i := 107) (by decide +kernel)) rfl⟩
theorem lX11_63 : Cond.methodLink RX11 63 yX1_look ∈ zT ∧ Cond.instanceMethod yX1_look ∈ zT ∧ Cond.selects yX1_look.cls yX1_look yX1_look ∈ zT := ⟨zCh_4 (List.mem_of_getElem? (i := 203) (by decide +kernel)) rfl, zCh_4 (List.mem_of_getElem? (i := 204) (by decide +kernel)) rfl, zCh_4 (List.mem_of_getElem? (i := 205) (by decide +kernel)) rfl⟩
theorem lX11_72 : Cond.methodLink RX11 72 yX1_tellsBelow ∈ zT ∧ Cond.instanceMethod yX1_tellsBelow ∈ zT ∧ Cond.selects yX1_tellsBelow.cls yX1_tellsBelow yX1_tellsBelow ∈ zT := ⟨zCh_5 (List.mem_of_getElem? (i := 14) (by decide +kernel)) rfl, zCh_5 (List.mem_of_getElem? (i := 15) (by decide +kernel)) rfl, zCh_5 (List.mem_of_getElem? (i := 16) (by decide +kernel)) rfl⟩
theorem lX11_76 : Cond.methodLink RX11 76 yX9_post ∈ zT ∧ Cond.instanceMethod yX9_post ∈ zT ∧ Cond.selects yX9_post.cls yX9_post yX9_post ∈ zT := ⟨zCh_5 (List.mem_of_getElem? (i := 19) (by decide +kernel)) rfl, zCh_4 (List.mem_of_getElem? (i := 7) (by decide +kernel)) rfl, zCh_4 (List.mem_of_getElem? (i := 8) (by decide +kernel)) rfl⟩
theorem lX11_80 : Cond.methodLink RX11 80 yX9_drop ∈ zT ∧ Cond.instanceMethod yX9_drop ∈ zT ∧ Cond.selects yX9_drop.cls yX9_drop yX9_drop ∈ zT := ⟨zCh_5 (List.mem_of_getElem? (i := 20) (by decide +kernel)) rfl, zCh_3 (List.mem_of_getElem? (i := 78) (by decide +kernel)) rfl, zCh_3 (List.mem_of_getElem? (i := 79) (by decide +kernel)) rfl⟩
theorem lX11_84 : Cond.methodLink RX11 84 yX9_loadOf ∈ zT ∧ Cond.instanceMethod yX9_loadOf ∈ zT ∧ Cond.selects yX9_loadOf.cls yX9_loadOf yX9_loadOf ∈ zT := ⟨zCh_5 (List.mem_of_getElem? (i := 25) (by decide +kernel)) rfl, zCh_5 (List.mem_of_getElem? (i := 26) (by decide +kernel)) rfl, zCh_5 (List.mem_of_getElem? (i := 27) (by decide +kernel)) rfl⟩
theorem lX11_90 : Cond.methodLink RX11 90 yX9_hasRoom ∈ zT ∧ Cond.instanceMethod yX9_hasRoom ∈ zT ∧ Cond.selects yX9_hasRoom.cls yX9_hasRoom yX9_hasRoom ∈ zT := ⟨zCh_4 (List.mem_of_getElem? (i := 197) (by decide +kernel)) rfl, zCh_4 (List.mem_of_getElem? (i := 198) (by decide +kernel)) rfl, zCh_4 (List.mem_of_getElem? (i := 199) (by decide +kernel)) rfl⟩
theorem lX11_94 : Cond.methodLink RX11 94 yX11_behindEvidences ∈ zT ∧ Cond.instanceMethod yX11_behindEvidences ∈ zT ∧ Cond.selects yX11_behindEvidences.cls yX11_behindEvidences yX11_behindEvidences ∈ zT := ⟨zCh_5 (List.mem_of_getElem? (i := 37) (by decide +kernel)) rfl, zCh_5 (List.mem_of_getElem? (i := 39) (by decide +kernel)) rfl, zIn 17 (by decide +kernel) rfl⟩
theorem lX11_98 : Cond.methodLink RX11 98 yJ9_min_7cf53 ∈ zT ∧ Cond.static yJ9_min_7cf53 ∈ zT := ⟨zCh_5 (List.mem_of_getElem? (i := 42) (by decide +kernel)) rfl, zCh_3 (List.mem_of_getElem? (i := 62) (by decide +kernel)) rfl⟩
theorem lX11_107 : Cond.methodLink RX11 107 yX2_plant ∈ zT ∧ Cond.instanceMethod yX2_plant ∈ zT ∧ Cond.selects yX2_plant.cls yX2_plant yX2_plant ∈ zT := ⟨zCh_5 (List.mem_of_getElem? (i := 43) (by decide +kernel)) rfl, zCh_3 (List.mem_of_getElem? (i := 199) (by decide +kernel)) rfl, zCh_3 (List.mem_of_getElem? (i := 200) (by decide +kernel)) rfl⟩
theorem lX11_113 : Cond.methodLink RX11 113 yX2_climb ∈ zT ∧ Cond.instanceMethod yX2_climb ∈ zT ∧ Cond.selects yX2_climb.cls yX2_climb yX2_climb ∈ zT := ⟨zCh_5 (List.mem_of_getElem? (i := 44) (by decide +kernel)) rfl, zCh_3 (List.mem_of_getElem? (i := 29) (by decide +kernel)) rfl, zCh_3 (List.mem_of_getElem? (i := 30) (by decide +kernel)) rfl⟩
theorem lX11_117 : Cond.methodLink RX11 117 yX2_top ∈ zT ∧ Cond.instanceMethod yX2_top ∈ zT ∧ Cond.selects yX2_top.cls yX2_top yX2_top ∈ zT := ⟨zCh_5 (List.mem_of_getElem? (i := 45) (by decide +kernel)) rfl, zCh_3 (List.mem_of_getElem? (i := 37) (by decide +kernel)) rfl, zCh_3 (List.mem_of_getElem? (i := 38) (by decide +kernel)) rfl⟩
theorem lX11_120 : Cond.methodLink RX11 120 yX11_honestNode ∈ zT ∧ Cond.instanceMethod yX11_honestNode ∈ zT ∧ Cond.selects yX11_honestNode.cls yX11_honestNode yX11_honestNode ∈ zT := ⟨zCh_5 (List.mem_of_getElem? (i := 46) (by decide +kernel)) rfl, zCh_5 (List.mem_of_getElem? (i := 48) (by decide +kernel)) rfl, zIn 18 (by decide +kernel) rfl⟩
theorem lX11_138 : Cond.methodLink RX11 138 yX1_evidenceSize ∈ zT ∧ Cond.static yX1_evidenceSize ∈ zT := ⟨zCh_5 (List.mem_of_getElem? (i := 41) (by decide +kernel)) rfl, zCh_3 (List.mem_of_getElem? (i := 203) (by decide +kernel)) rfl⟩
theorem lX11_142 : Cond.methodLink RX11 142 yX2_digest ∈ zT ∧ Cond.instanceMethod yX2_digest ∈ zT ∧ Cond.selects yX2_digest.cls yX2_digest yX2_digest ∈ zT := ⟨zCh_5 (List.mem_of_getElem? (i := 54) (by decide +kernel)) rfl, zCh_3 (List.mem_of_getElem? (i := 208) (by decide +kernel)) rfl, zCh_3 (List.mem_of_getElem? (i := 209) (by decide +kernel)) rfl⟩
theorem lX11_146 : Cond.methodLink RX11 146 yX5_blockAt ∈ zT ∧ Cond.instanceMethod yX5_blockAt ∈ zT ∧ Cond.selects yX5_blockAt.cls yX5_blockAt yX5_blockAt ∈ zT := ⟨zCh_5 (List.mem_of_getElem? (i := 55) (by decide +kernel)) rfl, zCh_5 (List.mem_of_getElem? (i := 6) (by decide +kernel)) rfl, zCh_5 (List.mem_of_getElem? (i := 7) (by decide +kernel)) rfl⟩
theorem lX11_153 : Cond.methodLink RX11 153 yX11_eight ∈ zT ∧ Cond.static yX11_eight ∈ zT := ⟨zCh_5 (List.mem_of_getElem? (i := 60) (by decide +kernel)) rfl, zCh_3 (List.mem_of_getElem? (i := 216) (by decide +kernel)) rfl⟩
theorem lX11_166 : Cond.methodLink RX11 166 yX8_addPayment ∈ zT ∧ Cond.instanceMethod yX8_addPayment ∈ zT ∧ Cond.selects yX8_addPayment.cls yX8_addPayment yX8_addPayment ∈ zT := ⟨zCh_5 (List.mem_of_getElem? (i := 66) (by decide +kernel)) rfl, zCh_5 (List.mem_of_getElem? (i := 67) (by decide +kernel)) rfl, zCh_5 (List.mem_of_getElem? (i := 68) (by decide +kernel)) rfl⟩
theorem lX11_172 : Cond.methodLink RX11 172 yX0_putCode ∈ zT ∧ Cond.static yX0_putCode ∈ zT := ⟨zCh_5 (List.mem_of_getElem? (i := 70) (by decide +kernel)) rfl, zCh_3 (List.mem_of_getElem? (i := 196) (by decide +kernel)) rfl⟩
theorem lX11_176 : Cond.methodLink RX11 176 yX10_spread ∈ zT ∧ Cond.instanceMethod yX10_spread ∈ zT ∧ Cond.selects yX10_spread.cls yX10_spread yX10_spread ∈ zT := ⟨zCh_5 (List.mem_of_getElem? (i := 71) (by decide +kernel)) rfl, zCh_4 (List.mem_of_getElem? (i := 3) (by decide +kernel)) rfl, zCh_4 (List.mem_of_getElem? (i := 4) (by decide +kernel)) rfl⟩
theorem lX11_180 : Cond.methodLink RX11 180 yX10_land ∈ zT ∧ Cond.instanceMethod yX10_land ∈ zT ∧ Cond.selects yX10_land.cls yX10_land yX10_land ∈ zT := ⟨zCh_5 (List.mem_of_getElem? (i := 76) (by decide +kernel)) rfl, zCh_5 (List.mem_of_getElem? (i := 77) (by decide +kernel)) rfl, zCh_5 (List.mem_of_getElem? (i := 78) (by decide +kernel)) rfl⟩
theorem lX11_184 : Cond.methodLink RX11 184 yX9_isRipe ∈ zT ∧ Cond.instanceMethod yX9_isRipe ∈ zT ∧ Cond.selects yX9_isRipe.cls yX9_isRipe yX9_isRipe ∈ zT := ⟨zCh_5 (List.mem_of_getElem? (i := 190) (by decide +kernel)) rfl, zCh_5 (List.mem_of_getElem? (i := 191) (by decide +kernel)) rfl, zCh_5 (List.mem_of_getElem? (i := 192) (by decide +kernel)) rfl⟩
theorem lX11_188 : Cond.methodLink RX11 188 yX10_passTime ∈ zT ∧ Cond.instanceMethod yX10_passTime ∈ zT ∧ Cond.selects yX10_passTime.cls yX10_passTime yX10_passTime ∈ zT := ⟨zCh_5 (List.mem_of_getElem? (i := 194) (by decide +kernel)) rfl, zCh_5 (List.mem_of_getElem? (i := 195) (by decide +kernel)) rfl, zCh_5 (List.mem_of_getElem? (i := 196) (by decide +kernel)) rfl⟩
theorem lX11_191 : Cond.methodLink RX11 191 yX9_senderOf ∈ zT ∧ Cond.instanceMethod yX9_senderOf ∈ zT ∧ Cond.selects yX9_senderOf.cls yX9_senderOf yX9_senderOf ∈ zT := ⟨zCh_5 (List.mem_of_getElem? (i := 205) (by decide +kernel)) rfl, zCh_5 (List.mem_of_getElem? (i := 81) (by decide +kernel)) rfl, zCh_5 (List.mem_of_getElem? (i := 82) (by decide +kernel)) rfl⟩
theorem lX11_194 : Cond.methodLink RX11 194 yX9_receiverOf ∈ zT ∧ Cond.instanceMethod yX9_receiverOf ∈ zT ∧ Cond.selects yX9_receiverOf.cls yX9_receiverOf yX9_receiverOf ∈ zT := ⟨zCh_5 (List.mem_of_getElem? (i := 206) (by decide +kernel)) rfl, zCh_5 (List.mem_of_getElem? (i := 85) (by decide +kernel)) rfl, zCh_5 (List.mem_of_getElem? (i := 86) (by decide +kernel)) rfl⟩
theorem lX11_197 : Cond.methodLink RX11 197 yX9_launch ∈ zT ∧ Cond.instanceMethod yX9_launch ∈ zT ∧ Cond.selects yX9_launch.cls yX9_launch yX9_launch ∈ zT := ⟨zCh_5 (List.mem_of_getElem? (i := 207) (by decide +kernel)) rfl, zCh_4 (List.mem_of_getElem? (i := 11) (by decide +kernel)) rfl, zCh_4 (List.mem_of_getElem? (i := 12) (by decide +kernel)) rfl⟩
theorem lX11_202 : Cond.methodLink RX11 202 yX6_fall ∈ zT ∧ Cond.instanceMethod yX6_fall ∈ zT ∧ Cond.selects yX6_fall.cls yX6_fall yX6_fall ∈ zT := ⟨zCh_5 (List.mem_of_getElem? (i := 225) (by decide +kernel)) rfl, zCh_3 (List.mem_of_getElem? (i := 65) (by decide +kernel)) rfl, zCh_3 (List.mem_of_getElem? (i := 66) (by decide +kernel)) rfl⟩
theorem lX11_214 : Cond.methodLink RX11 214 yX6_wake ∈ zT ∧ Cond.instanceMethod yX6_wake ∈ zT ∧ Cond.selects yX6_wake.cls yX6_wake yX6_wake ∈ zT := ⟨zCh_5 (List.mem_of_getElem? (i := 234) (by decide +kernel)) rfl, zCh_5 (List.mem_of_getElem? (i := 235) (by decide +kernel)) rfl, zCh_5 (List.mem_of_getElem? (i := 236) (by decide +kernel)) rfl⟩
theorem lX11_217 : Cond.methodLink RX11 217 yX7_settle ∈ zT ∧ Cond.static yX7_settle ∈ zT := ⟨zCh_6 (List.mem_of_getElem? (i := 1) (by decide +kernel)) rfl, zCh_2 (List.mem_of_getElem? (i := 196) (by decide +kernel)) rfl⟩
theorem lX11_241 : Cond.methodLink RX11 241 yX6_timersSet ∈ zT ∧ Cond.instanceMethod yX6_timersSet ∈ zT ∧ Cond.selects yX6_timersSet.cls yX6_timersSet yX6_timersSet ∈ zT := ⟨zCh_6 (List.mem_of_getElem? (i := 6) (by decide +kernel)) rfl, zCh_6 (List.mem_of_getElem? (i := 7) (by decide +kernel)) rfl, zCh_6 (List.mem_of_getElem? (i := 8) (by decide +kernel)) rfl⟩
theorem lX11_259 : Cond.methodLink RX11 259 yX4_fetch ∈ zT ∧ Cond.instanceMethod yX4_fetch ∈ zT ∧ Cond.selects yX4_fetch.cls yX4_fetch yX4_fetch ∈ zT := ⟨zCh_6 (List.mem_of_getElem? (i := 14) (by decide +kernel)) rfl, zCh_5 (List.mem_of_getElem? (i := 121) (by decide +kernel)) rfl, zCh_5 (List.mem_of_getElem? (i := 122) (by decide +kernel)) rfl⟩
theorem lX11_269 : Cond.methodLink RX11 269 yX0_hasPaid ∈ zT ∧ Cond.instanceMethod yX0_hasPaid ∈ zT ∧ Cond.selects yX0_hasPaid.cls yX0_hasPaid yX0_hasPaid ∈ zT := ⟨zCh_6 (List.mem_of_getElem? (i := 19) (by decide +kernel)) rfl, zCh_2 (List.mem_of_getElem? (i := 230) (by decide +kernel)) rfl, zCh_2 (List.mem_of_getElem? (i := 231) (by decide +kernel)) rfl⟩
theorem lX11_272 : Cond.methodLink RX11 272 yX8_proofOf ∈ zT ∧ Cond.instanceMethod yX8_proofOf ∈ zT ∧ Cond.selects yX8_proofOf.cls yX8_proofOf yX8_proofOf ∈ zT := ⟨zCh_6 (List.mem_of_getElem? (i := 20) (by decide +kernel)) rfl, zCh_3 (List.mem_of_getElem? (i := 176) (by decide +kernel)) rfl, zCh_3 (List.mem_of_getElem? (i := 177) (by decide +kernel)) rfl⟩
theorem lX11_278 : Cond.methodLink RX11 278 yX0_plant ∈ zT ∧ Cond.instanceMethod yX0_plant ∈ zT ∧ Cond.selects yX0_plant.cls yX0_plant yX0_plant ∈ zT := ⟨zCh_6 (List.mem_of_getElem? (i := 29) (by decide +kernel)) rfl, zCh_2 (List.mem_of_getElem? (i := 215) (by decide +kernel)) rfl, zCh_2 (List.mem_of_getElem? (i := 216) (by decide +kernel)) rfl⟩
theorem lX11_281 : Cond.methodLink RX11 281 yX0_encode ∈ zT ∧ Cond.instanceMethod yX0_encode ∈ zT ∧ Cond.selects yX0_encode.cls yX0_encode yX0_encode ∈ zT := ⟨zCh_6 (List.mem_of_getElem? (i := 30) (by decide +kernel)) rfl, zCh_2 (List.mem_of_getElem? (i := 223) (by decide +kernel)) rfl, zCh_2 (List.mem_of_getElem? (i := 224) (by decide +kernel)) rfl⟩
theorem lX11_285 : Cond.methodLink RX11 285 yX4_canRead ∈ zT ∧ Cond.instanceMethod yX4_canRead ∈ zT ∧ Cond.selects yX4_canRead.cls yX4_canRead yX4_canRead ∈ zT := ⟨zCh_6 (List.mem_of_getElem? (i := 35) (by decide +kernel)) rfl, zCh_5 (List.mem_of_getElem? (i := 125) (by decide +kernel)) rfl, zCh_5 (List.mem_of_getElem? (i := 126) (by decide +kernel)) rfl⟩
theorem lX11_292 : Cond.methodLink RX11 292 yX2_open ∈ zT ∧ Cond.instanceMethod yX2_open ∈ zT ∧ Cond.selects yX2_open.cls yX2_open yX2_open ∈ zT := ⟨zCh_6 (List.mem_of_getElem? (i := 40) (by decide +kernel)) rfl, zCh_2 (List.mem_of_getElem? (i := 238) (by decide +kernel)) rfl, zCh_2 (List.mem_of_getElem? (i := 239) (by decide +kernel)) rfl⟩
theorem lX11_295 : Cond.methodLink RX11 295 yX2_add ∈ zT ∧ Cond.instanceMethod yX2_add ∈ zT ∧ Cond.selects yX2_add.cls yX2_add yX2_add ∈ zT := ⟨zCh_6 (List.mem_of_getElem? (i := 41) (by decide +kernel)) rfl, zCh_3 (List.mem_of_getElem? (i := 2) (by decide +kernel)) rfl, zCh_3 (List.mem_of_getElem? (i := 3) (by decide +kernel)) rfl⟩
theorem lX11_298 : Cond.methodLink RX11 298 yX2_add_ ∈ zT ∧ Cond.instanceMethod yX2_add_ ∈ zT ∧ Cond.selects yX2_add_.cls yX2_add_ yX2_add_ ∈ zT := ⟨zCh_6 (List.mem_of_getElem? (i := 42) (by decide +kernel)) rfl, zCh_3 (List.mem_of_getElem? (i := 6) (by decide +kernel)) rfl, zCh_3 (List.mem_of_getElem? (i := 7) (by decide +kernel)) rfl⟩
theorem lX11_301 : Cond.methodLink RX11 301 yX2_close ∈ zT ∧ Cond.instanceMethod yX2_close ∈ zT ∧ Cond.selects yX2_close.cls yX2_close yX2_close ∈ zT := ⟨zCh_6 (List.mem_of_getElem? (i := 43) (by decide +kernel)) rfl, zCh_3 (List.mem_of_getElem? (i := 11) (by decide +kernel)) rfl, zCh_3 (List.mem_of_getElem? (i := 12) (by decide +kernel)) rfl⟩
theorem lX11_304 : Cond.methodLink RX11 304 yX11_sameBytes ∈ zT ∧ Cond.static yX11_sameBytes ∈ zT := ⟨zCh_6 (List.mem_of_getElem? (i := 44) (by decide +kernel)) rfl, zCh_4 (List.mem_of_getElem? (i := 24) (by decide +kernel)) rfl⟩
theorem fX11_9 : Cond.fieldLink RX11 9 "QuorumLedger" "tape" "[B" ∈ zT := zCh_4 (List.mem_of_getElem? (i := 169) (by decide +kernel)) rfl
theorem fX11_13 : Cond.fieldLink RX11 13 "QuorumLedger" "answer" "[B" ∈ zT := zCh_4 (List.mem_of_getElem? (i := 170) (by decide +kernel)) rfl
theorem fX11_22 : Cond.fieldLink RX11 22 "QuorumLedger" "world" "LQuorumLedger$World;" ∈ zT := zCh_4 (List.mem_of_getElem? (i := 168) (by decide +kernel)) rfl
theorem fX11_26 : Cond.fieldLink RX11 26 "QuorumLedger" "fed" "I" ∈ zT := zCh_4 (List.mem_of_getElem? (i := 171) (by decide +kernel)) rfl
theorem fX11_38 : Cond.fieldLink RX11 38 "QuorumLedger$World" "sky" "LQuorumLedger$Sky;" ∈ zT := zCh_1 (List.mem_of_getElem? (i := 188) (by decide +kernel)) rfl
theorem fX11_48 : Cond.fieldLink RX11 48 "QuorumLedger$Message" "row" "[B" ∈ zT := zCh_3 (List.mem_of_getElem? (i := 118) (by decide +kernel)) rfl
theorem fX11_59 : Cond.fieldLink RX11 59 "QuorumLedger$World" "form" "LQuorumLedger$Form;" ∈ zT := zCh_1 (List.mem_of_getElem? (i := 191) (by decide +kernel)) rfl
theorem fX11_69 : Cond.fieldLink RX11 69 "QuorumLedger$World" "honest" "I" ∈ zT := zCh_1 (List.mem_of_getElem? (i := 177) (by decide +kernel)) rfl
theorem fX11_87 : Cond.fieldLink RX11 87 "QuorumLedger$World" "total" "I" ∈ zT := zCh_1 (List.mem_of_getElem? (i := 175) (by decide +kernel)) rfl
theorem fX11_103 : Cond.fieldLink RX11 103 "QuorumLedger$World" "hasher" "LQuorumLedger$Hasher;" ∈ zT := zCh_1 (List.mem_of_getElem? (i := 184) (by decide +kernel)) rfl
theorem fX11_124 : Cond.fieldLink RX11 124 "QuorumLedger$Node" "lastId" "[B" ∈ zT := zCh_2 (List.mem_of_getElem? (i := 117) (by decide +kernel)) rfl
theorem fX11_129 : Cond.fieldLink RX11 129 "QuorumLedger$Node" "book" "LQuorumLedger$Book;" ∈ zT := zCh_2 (List.mem_of_getElem? (i := 114) (by decide +kernel)) rfl
theorem fX11_133 : Cond.fieldLink RX11 133 "QuorumLedger$Book" "root" "[B" ∈ zT := zCh_1 (List.mem_of_getElem? (i := 147) (by decide +kernel)) rfl
theorem fX11_150 : Cond.fieldLink RX11 150 "QuorumLedger$Message" "length" "I" ∈ zT := zCh_3 (List.mem_of_getElem? (i := 130) (by decide +kernel)) rfl
theorem fX11_157 : Cond.fieldLink RX11 157 "QuorumLedger$Node" "up" "Z" ∈ zT := zCh_2 (List.mem_of_getElem? (i := 125) (by decide +kernel)) rfl
theorem fX11_162 : Cond.fieldLink RX11 162 "QuorumLedger$Node" "shelf" "LQuorumLedger$Shelf;" ∈ zT := zCh_2 (List.mem_of_getElem? (i := 111) (by decide +kernel)) rfl
theorem fX11_205 : Cond.fieldLink RX11 205 "QuorumLedger$Node" "log" "LQuorumLedger$Log;" ∈ zT := zCh_2 (List.mem_of_getElem? (i := 107) (by decide +kernel)) rfl
theorem fX11_209 : Cond.fieldLink RX11 209 "QuorumLedger$Log" "cutIn" "I" ∈ zT := zCh_2 (List.mem_of_getElem? (i := 15) (by decide +kernel)) rfl
theorem fX11_223 : Cond.fieldLink RX11 223 "QuorumLedger$Node" "height" "I" ∈ zT := zCh_2 (List.mem_of_getElem? (i := 129) (by decide +kernel)) rfl
theorem fX11_226 : Cond.fieldLink RX11 226 "QuorumLedger$Node" "round" "I" ∈ zT := zCh_2 (List.mem_of_getElem? (i := 132) (by decide +kernel)) rfl
theorem fX11_229 : Cond.fieldLink RX11 229 "QuorumLedger$Node" "step" "I" ∈ zT := zCh_2 (List.mem_of_getElem? (i := 135) (by decide +kernel)) rfl
theorem fX11_232 : Cond.fieldLink RX11 232 "QuorumLedger$Node" "lockedRound" "I" ∈ zT := zCh_2 (List.mem_of_getElem? (i := 138) (by decide +kernel)) rfl
theorem fX11_235 : Cond.fieldLink RX11 235 "QuorumLedger$Node" "validRound" "I" ∈ zT := zCh_2 (List.mem_of_getElem? (i := 141) (by decide +kernel)) rfl
theorem fX11_238 : Cond.fieldLink RX11 238 "QuorumLedger$Shelf" "pooled" "I" ∈ zT := zCh_2 (List.mem_of_getElem? (i := 66) (by decide +kernel)) rfl
theorem fX11_244 : Cond.fieldLink RX11 244 "QuorumLedger$Node" "sent" "I" ∈ zT := zCh_2 (List.mem_of_getElem? (i := 152) (by decide +kernel)) rfl
theorem fX11_247 : Cond.fieldLink RX11 247 "QuorumLedger$Log" "whole" "I" ∈ zT := zCh_2 (List.mem_of_getElem? (i := 11) (by decide +kernel)) rfl
theorem fX11_250 : Cond.fieldLink RX11 250 "QuorumLedger$Log" "written" "I" ∈ zT := zCh_2 (List.mem_of_getElem? (i := 13) (by decide +kernel)) rfl
theorem fX11_253 : Cond.fieldLink RX11 253 "QuorumLedger$Shelf" "proven" "I" ∈ zT := zCh_2 (List.mem_of_getElem? (i := 68) (by decide +kernel)) rfl
theorem fX11_256 : Cond.fieldLink RX11 256 "QuorumLedger$World" "desk" "[B" ∈ zT := zCh_1 (List.mem_of_getElem? (i := 199) (by decide +kernel)) rfl
theorem fX11_262 : Cond.fieldLink RX11 262 "QuorumLedger$Node" "locked" "LQuorumLedger$Message;" ∈ zT := zCh_2 (List.mem_of_getElem? (i := 144) (by decide +kernel)) rfl
theorem fX11_266 : Cond.fieldLink RX11 266 "QuorumLedger$Node" "valid" "LQuorumLedger$Message;" ∈ zT := zCh_2 (List.mem_of_getElem? (i := 147) (by decide +kernel)) rfl
theorem fX11_275 : Cond.fieldLink RX11 275 "QuorumLedger$Hasher" "standing" "I" ∈ zT := zCh_1 (List.mem_of_getElem? (i := 41) (by decide +kernel)) rfl
theorem fX11_288 : Cond.fieldLink RX11 288 "QuorumLedger$Log" "sectors" "[[B" ∈ zT := zCh_2 (List.mem_of_getElem? (i := 2) (by decide +kernel)) rfl
theorem fX11_308 : Cond.fieldLink RX11 308 "QuorumLedger$Book" "has" "[I" ∈ zT := zCh_1 (List.mem_of_getElem? (i := 143) (by decide +kernel)) rfl
theorem fX11_312 : Cond.fieldLink RX11 312 "QuorumLedger$Sky" "flights" "I" ∈ zT := zCh_1 (List.mem_of_getElem? (i := 97) (by decide +kernel)) rfl
theorem fX11_315 : Cond.fieldLink RX11 315 "QuorumLedger$Sky" "ticks" "I" ∈ zT := zCh_1 (List.mem_of_getElem? (i := 101) (by decide +kernel)) rfl
theorem fX11_318 : Cond.fieldLink RX11 318 "QuorumLedger$Sky" "sent" "I" ∈ zT := zCh_1 (List.mem_of_getElem? (i := 103) (by decide +kernel)) rfl
theorem fX11_319 : Cond.fieldLink RX11 319 "QuorumLedger$Sky" "lost" "I" ∈ zT := zCh_1 (List.mem_of_getElem? (i := 105) (by decide +kernel)) rfl
theorem fX11_322 : Cond.fieldLink RX11 322 "QuorumLedger$World" "nodes" "[LQuorumLedger$Node;" ∈ zT := zCh_1 (List.mem_of_getElem? (i := 181) (by decide +kernel)) rfl
theorem nX11_161 : Cond.constant RX11 161 (65535 : Int32) ∈ zT := zCh_5 (List.mem_of_getElem? (i := 65) (by decide +kernel)) rfl
theorem nX11_200 : Cond.constantLong RX11 200 (-1 : Int64) ∈ zT := zCh_5 (List.mem_of_getElem? (i := 216) (by decide +kernel)) rfl
theorem qX11_1 : Cond.methodLink RX11 1 Lib.objectInit ∈ zT := zCh_1 (List.mem_of_getElem? (i := 23) (by decide +kernel)) rfl
theorem qX11_53 : Cond.methodLink RX11 53 arraycopyName ∈ zT := zCh_4 (List.mem_of_getElem? (i := 202) (by decide +kernel)) rfl

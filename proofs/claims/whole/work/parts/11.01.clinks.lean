/-! QuorumLedger$Form: its methods, what they link -/
abbrev mX1_init : zM := (yX1_init, cX1_init, 3, none)
abbrev dX1_init : Nat × Nat := (1, 20)
abbrev mX1_look : zM := (yX1_look, cX1_look, 2, some .boolean)
abbrev dX1_look : Nat × Nat := (6, 147)
abbrev mX1_name : zM := (yX1_name, cX1_name, 3, none)
abbrev dX1_name : Nat × Nat := (4, 96)
abbrev mX1_fits : zM := (yX1_fits, cX1_fits, 3, some .boolean)
abbrev dX1_fits : Nat × Nat := (5, 125)
abbrev mX1_signFits : zM := (yX1_signFits, cX1_signFits, 2, some .boolean)
abbrev dX1_signFits : Nat × Nat := (2, 43)
abbrev mX1_heightFits : zM := (yX1_heightFits, cX1_heightFits, 3, some .boolean)
abbrev dX1_heightFits : Nat × Nat := (1, 21)
abbrev mX1_paymentFits : zM := (yX1_paymentFits, cX1_paymentFits, 5, some .boolean)
abbrev dX1_paymentFits : Nat × Nat := (1, 21)
abbrev mX1_evidenceSize : zM := (yX1_evidenceSize, cX1_evidenceSize, 4, some .int)
abbrev dX1_evidenceSize : Nat × Nat := (0, 0)
abbrev mX1_evidenceFits : zM := (yX1_evidenceFits, cX1_evidenceFits, 6, some .int)
abbrev dX1_evidenceFits : Nat × Nat := (2, 43)
abbrev mX1_isLess : zM := (yX1_isLess, cX1_isLess, 4, some .boolean)
abbrev dX1_isLess : Nat × Nat := (0, 0)
abbrev mX1_blockFits : zM := (yX1_blockFits, cX1_blockFits, 8, some .boolean)
abbrev dX1_blockFits : Nat × Nat := (4, 98)
abbrev mX1_snapshotFits : zM := (yX1_snapshotFits, cX1_snapshotFits, 4, some .boolean)
abbrev dX1_snapshotFits : Nat × Nat := (1, 21)
abbrev mX1_tellsBelow : zM := (yX1_tellsBelow, cX1_tellsBelow, 8, some .boolean)
abbrev dX1_tellsBelow : Nat × Nat := (2, 40)
set_option maxRecDepth 20000 in
theorem kX1_init : zLc mX1_init 2 := ⟨zCh_1 (List.mem_of_getElem? (i := 63) rfl) rfl, zCh_1 (List.mem_of_getElem? (i := 4) (by decide +kernel)) rfl, by decide, by decide, by decide +kernel⟩
set_option maxRecDepth 20000 in
theorem kX1_look : zLc mX1_look 1 := ⟨zCh_4 (List.mem_of_getElem? (i := 206) rfl) rfl, zCh_1 (List.mem_of_getElem? (i := 4) (by decide +kernel)) rfl, by decide, by decide, by decide +kernel⟩
set_option maxRecDepth 20000 in
theorem kX1_name : zLc mX1_name 1 := ⟨zCh_5 (List.mem_of_getElem? (i := 4) rfl) rfl, zCh_1 (List.mem_of_getElem? (i := 4) (by decide +kernel)) rfl, by decide, by decide, by decide +kernel⟩
set_option maxRecDepth 20000 in
theorem kX1_fits : zLc mX1_fits 2 := ⟨zCh_4 (List.mem_of_getElem? (i := 210) rfl) rfl, zCh_1 (List.mem_of_getElem? (i := 4) (by decide +kernel)) rfl, by decide, by decide, by decide +kernel⟩
set_option maxRecDepth 20000 in
theorem kX1_signFits : zLc mX1_signFits 1 := ⟨zCh_4 (List.mem_of_getElem? (i := 218) rfl) rfl, zCh_1 (List.mem_of_getElem? (i := 4) (by decide +kernel)) rfl, by decide, by decide, by decide +kernel⟩
set_option maxRecDepth 20000 in
theorem kX1_heightFits : zLc mX1_heightFits 2 := ⟨zCh_4 (List.mem_of_getElem? (i := 221) rfl) rfl, zCh_1 (List.mem_of_getElem? (i := 4) (by decide +kernel)) rfl, by decide, by decide, by decide +kernel⟩
set_option maxRecDepth 20000 in
theorem kX1_paymentFits : zLc mX1_paymentFits 2 := ⟨zCh_4 (List.mem_of_getElem? (i := 213) rfl) rfl, zCh_1 (List.mem_of_getElem? (i := 4) (by decide +kernel)) rfl, by decide, by decide, by decide +kernel⟩
set_option maxRecDepth 20000 in
theorem kX1_evidenceSize : zLc mX1_evidenceSize 3 := ⟨zCh_3 (List.mem_of_getElem? (i := 204) rfl) rfl, zCh_1 (List.mem_of_getElem? (i := 4) (by decide +kernel)) rfl, by decide, by decide, by decide +kernel⟩
set_option maxRecDepth 20000 in
theorem kX1_evidenceFits : zLc mX1_evidenceFits 3 := ⟨zCh_4 (List.mem_of_getElem? (i := 229) rfl) rfl, zCh_1 (List.mem_of_getElem? (i := 4) (by decide +kernel)) rfl, by decide, by decide, by decide +kernel⟩
set_option maxRecDepth 20000 in
theorem kX1_isLess : zLc mX1_isLess 3 := ⟨zCh_4 (List.mem_of_getElem? (i := 233) rfl) rfl, zCh_1 (List.mem_of_getElem? (i := 4) (by decide +kernel)) rfl, by decide, by decide, by decide +kernel⟩
set_option maxRecDepth 20000 in
theorem kX1_blockFits : zLc mX1_blockFits 3 := ⟨zCh_4 (List.mem_of_getElem? (i := 225) rfl) rfl, zCh_1 (List.mem_of_getElem? (i := 4) (by decide +kernel)) rfl, by decide, by decide, by decide +kernel⟩
set_option maxRecDepth 20000 in
theorem kX1_snapshotFits : zLc mX1_snapshotFits 1 := ⟨zCh_5 (List.mem_of_getElem? (i := 0) rfl) rfl, zCh_1 (List.mem_of_getElem? (i := 4) (by decide +kernel)) rfl, by decide, by decide, by decide +kernel⟩
set_option maxRecDepth 20000 in
theorem kX1_tellsBelow : zLc mX1_tellsBelow 2 := ⟨zCh_5 (List.mem_of_getElem? (i := 17) rfl) rfl, zCh_1 (List.mem_of_getElem? (i := 4) (by decide +kernel)) rfl, by decide, by decide, by decide +kernel⟩
theorem lX1_34 : Cond.methodLink RX1 34 yX1_fits ∈ zT ∧ Cond.instanceMethod yX1_fits ∈ zT ∧ Cond.selects yX1_fits.cls yX1_fits yX1_fits ∈ zT := ⟨zCh_4 (List.mem_of_getElem? (i := 207) (by decide +kernel)) rfl, zCh_4 (List.mem_of_getElem? (i := 209) (by decide +kernel)) rfl, zIn 11 (by decide +kernel) rfl⟩
theorem lX1_38 : Cond.methodLink RX1 38 yX1_name ∈ zT ∧ Cond.instanceMethod yX1_name ∈ zT ∧ Cond.selects yX1_name.cls yX1_name yX1_name ∈ zT := ⟨zCh_5 (List.mem_of_getElem? (i := 1) (by decide +kernel)) rfl, zCh_5 (List.mem_of_getElem? (i := 3) (by decide +kernel)) rfl, zIn 15 (by decide +kernel) rfl⟩
theorem lX1_42 : Cond.methodLink RX1 42 yX5_blockAt ∈ zT ∧ Cond.instanceMethod yX5_blockAt ∈ zT ∧ Cond.selects yX5_blockAt.cls yX5_blockAt yX5_blockAt ∈ zT := ⟨zCh_5 (List.mem_of_getElem? (i := 5) (by decide +kernel)) rfl, zCh_5 (List.mem_of_getElem? (i := 6) (by decide +kernel)) rfl, zCh_5 (List.mem_of_getElem? (i := 7) (by decide +kernel)) rfl⟩
theorem lX1_46 : Cond.methodLink RX1 46 yX2_digest ∈ zT ∧ Cond.instanceMethod yX2_digest ∈ zT ∧ Cond.selects yX2_digest.cls yX2_digest yX2_digest ∈ zT := ⟨zCh_5 (List.mem_of_getElem? (i := 10) (by decide +kernel)) rfl, zCh_3 (List.mem_of_getElem? (i := 208) (by decide +kernel)) rfl, zCh_3 (List.mem_of_getElem? (i := 209) (by decide +kernel)) rfl⟩
theorem lX1_51 : Cond.methodLink RX1 51 yX5_readId ∈ zT ∧ Cond.instanceMethod yX5_readId ∈ zT ∧ Cond.selects yX5_readId.cls yX5_readId yX5_readId ∈ zT := ⟨zCh_5 (List.mem_of_getElem? (i := 11) (by decide +kernel)) rfl, zCh_3 (List.mem_of_getElem? (i := 212) (by decide +kernel)) rfl, zCh_3 (List.mem_of_getElem? (i := 213) (by decide +kernel)) rfl⟩
theorem lX1_55 : Cond.methodLink RX1 55 yX5_kind ∈ zT ∧ Cond.instanceMethod yX5_kind ∈ zT ∧ Cond.selects yX5_kind.cls yX5_kind yX5_kind ∈ zT := ⟨zCh_5 (List.mem_of_getElem? (i := 12) (by decide +kernel)) rfl, zCh_3 (List.mem_of_getElem? (i := 238) (by decide +kernel)) rfl, zCh_3 (List.mem_of_getElem? (i := 239) (by decide +kernel)) rfl⟩
theorem lX1_58 : Cond.methodLink RX1 58 yX5_at ∈ zT ∧ Cond.instanceMethod yX5_at ∈ zT ∧ Cond.selects yX5_at.cls yX5_at yX5_at ∈ zT := ⟨zCh_5 (List.mem_of_getElem? (i := 13) (by decide +kernel)) rfl, zCh_3 (List.mem_of_getElem? (i := 230) (by decide +kernel)) rfl, zCh_3 (List.mem_of_getElem? (i := 231) (by decide +kernel)) rfl⟩
theorem lX1_62 : Cond.methodLink RX1 62 yX1_paymentFits ∈ zT ∧ Cond.static yX1_paymentFits ∈ zT := ⟨zCh_4 (List.mem_of_getElem? (i := 211) (by decide +kernel)) rfl, zCh_4 (List.mem_of_getElem? (i := 212) (by decide +kernel)) rfl⟩
theorem lX1_65 : Cond.methodLink RX1 65 yX1_signFits ∈ zT ∧ Cond.instanceMethod yX1_signFits ∈ zT ∧ Cond.selects yX1_signFits.cls yX1_signFits yX1_signFits ∈ zT := ⟨zCh_4 (List.mem_of_getElem? (i := 215) (by decide +kernel)) rfl, zCh_4 (List.mem_of_getElem? (i := 217) (by decide +kernel)) rfl, zIn 12 (by decide +kernel) rfl⟩
theorem lX1_73 : Cond.methodLink RX1 73 yX1_blockFits ∈ zT ∧ Cond.instanceMethod yX1_blockFits ∈ zT ∧ Cond.selects yX1_blockFits.cls yX1_blockFits yX1_blockFits ∈ zT := ⟨zCh_4 (List.mem_of_getElem? (i := 222) (by decide +kernel)) rfl, zCh_4 (List.mem_of_getElem? (i := 224) (by decide +kernel)) rfl, zIn 13 (by decide +kernel) rfl⟩
theorem lX1_77 : Cond.methodLink RX1 77 yX1_heightFits ∈ zT ∧ Cond.static yX1_heightFits ∈ zT := ⟨zCh_4 (List.mem_of_getElem? (i := 219) (by decide +kernel)) rfl, zCh_4 (List.mem_of_getElem? (i := 220) (by decide +kernel)) rfl⟩
theorem lX1_80 : Cond.methodLink RX1 80 yX1_evidenceFits ∈ zT ∧ Cond.instanceMethod yX1_evidenceFits ∈ zT ∧ Cond.selects yX1_evidenceFits.cls yX1_evidenceFits yX1_evidenceFits ∈ zT := ⟨zCh_4 (List.mem_of_getElem? (i := 226) (by decide +kernel)) rfl, zCh_4 (List.mem_of_getElem? (i := 228) (by decide +kernel)) rfl, zIn 14 (by decide +kernel) rfl⟩
theorem lX1_84 : Cond.methodLink RX1 84 yX1_snapshotFits ∈ zT ∧ Cond.static yX1_snapshotFits ∈ zT := ⟨zCh_4 (List.mem_of_getElem? (i := 238) (by decide +kernel)) rfl, zCh_4 (List.mem_of_getElem? (i := 239) (by decide +kernel)) rfl⟩
theorem lX1_87 : Cond.methodLink RX1 87 yX1_evidenceSize ∈ zT ∧ Cond.static yX1_evidenceSize ∈ zT := ⟨zCh_4 (List.mem_of_getElem? (i := 230) (by decide +kernel)) rfl, zCh_3 (List.mem_of_getElem? (i := 203) (by decide +kernel)) rfl⟩
theorem lX1_90 : Cond.methodLink RX1 90 yX1_isLess ∈ zT ∧ Cond.static yX1_isLess ∈ zT := ⟨zCh_4 (List.mem_of_getElem? (i := 231) (by decide +kernel)) rfl, zCh_4 (List.mem_of_getElem? (i := 232) (by decide +kernel)) rfl⟩
theorem lX1_93 : Cond.methodLink RX1 93 yX2_plant ∈ zT ∧ Cond.instanceMethod yX2_plant ∈ zT ∧ Cond.selects yX2_plant.cls yX2_plant yX2_plant ∈ zT := ⟨zCh_4 (List.mem_of_getElem? (i := 234) (by decide +kernel)) rfl, zCh_3 (List.mem_of_getElem? (i := 199) (by decide +kernel)) rfl, zCh_3 (List.mem_of_getElem? (i := 200) (by decide +kernel)) rfl⟩
theorem lX1_96 : Cond.methodLink RX1 96 yX2_climb ∈ zT ∧ Cond.instanceMethod yX2_climb ∈ zT ∧ Cond.selects yX2_climb.cls yX2_climb yX2_climb ∈ zT := ⟨zCh_4 (List.mem_of_getElem? (i := 235) (by decide +kernel)) rfl, zCh_3 (List.mem_of_getElem? (i := 29) (by decide +kernel)) rfl, zCh_3 (List.mem_of_getElem? (i := 30) (by decide +kernel)) rfl⟩
theorem lX1_100 : Cond.methodLink RX1 100 yX2_top ∈ zT ∧ Cond.instanceMethod yX2_top ∈ zT ∧ Cond.selects yX2_top.cls yX2_top yX2_top ∈ zT := ⟨zCh_4 (List.mem_of_getElem? (i := 236) (by decide +kernel)) rfl, zCh_3 (List.mem_of_getElem? (i := 37) (by decide +kernel)) rfl, zCh_3 (List.mem_of_getElem? (i := 38) (by decide +kernel)) rfl⟩
theorem lX1_107 : Cond.methodLink RX1 107 yX5_signer ∈ zT ∧ Cond.instanceMethod yX5_signer ∈ zT ∧ Cond.selects yX5_signer.cls yX5_signer yX5_signer ∈ zT := ⟨zCh_5 (List.mem_of_getElem? (i := 18) (by decide +kernel)) rfl, zCh_3 (List.mem_of_getElem? (i := 74) (by decide +kernel)) rfl, zCh_3 (List.mem_of_getElem? (i := 75) (by decide +kernel)) rfl⟩
theorem lX1_69 : Cond.methodLinkNest RX1 69 yX11_twoBytes "QuorumLedger" ∈ zN ∧ Cond.static yX11_twoBytes ∈ zT := ⟨zNin 934 (by decide +kernel) rfl, zCh_4 (List.mem_of_getElem? (i := 39) (by decide +kernel)) rfl⟩
theorem lX1_103 : Cond.methodLinkNest RX1 103 yX11_sameBytes "QuorumLedger" ∈ zN ∧ Cond.static yX11_sameBytes ∈ zT := ⟨zNin 957 (by decide +kernel) rfl, zCh_4 (List.mem_of_getElem? (i := 24) (by decide +kernel)) rfl⟩
theorem fX1_9 : Cond.fieldLink RX1 9 "QuorumLedger$Form" "digest" "[B" ∈ zT := zCh_1 (List.mem_of_getElem? (i := 67) (by decide +kernel)) rfl
theorem fX1_15 : Cond.fieldLink RX1 15 "QuorumLedger$Form" "hasher" "LQuorumLedger$Hasher;" ∈ zT := zCh_1 (List.mem_of_getElem? (i := 65) (by decide +kernel)) rfl
theorem fX1_19 : Cond.fieldLink RX1 19 "QuorumLedger$Form" "nodes" "I" ∈ zT := zCh_1 (List.mem_of_getElem? (i := 66) (by decide +kernel)) rfl
theorem fX1_23 : Cond.fieldLink RX1 23 "QuorumLedger$Message" "form" "I" ∈ zT := zCh_3 (List.mem_of_getElem? (i := 135) (by decide +kernel)) rfl
theorem fX1_28 : Cond.fieldLink RX1 28 "QuorumLedger$Message" "length" "I" ∈ zT := zCh_3 (List.mem_of_getElem? (i := 127) (by decide +kernel)) rfl
theorem fX1_31 : Cond.fieldLink RX1 31 "QuorumLedger$Message" "row" "[B" ∈ zT := zCh_3 (List.mem_of_getElem? (i := 115) (by decide +kernel)) rfl
theorem qX1_3 : Cond.methodLink RX1 3 Lib.objectInit ∈ zT := zCh_1 (List.mem_of_getElem? (i := 64) (by decide +kernel)) rfl

/-! QuorumLedger$Book: its methods, what they link -/
abbrev mX0_init : zM := (yX0_init, cX0_init, 1, none)
abbrev dX0_init : Nat × Nat := (1, 23)
abbrev mX0_mirror : zM := (yX0_mirror, cX0_mirror, 2, none)
abbrev dX0_mirror : Nat × Nat := (1, 40)
abbrev mX0_hasPaid : zM := (yX0_hasPaid, cX0_hasPaid, 2, some .boolean)
abbrev dX0_hasPaid : Nat × Nat := (0, 0)
abbrev mX0_punish : zM := (yX0_punish, cX0_punish, 4, some .boolean)
abbrev dX0_punish : Nat × Nat := (0, 0)
abbrev mX0_pay : zM := (yX0_pay, cX0_pay, 9, some .boolean)
abbrev dX0_pay : Nat × Nat := (0, 0)
abbrev mX0_play : zM := (yX0_play, cX0_play, 9, some .boolean)
abbrev dX0_play : Nat × Nat := (1, 28)
abbrev mX0_codeAt : zM := (yX0_codeAt, cX0_codeAt, 5, some .long)
abbrev dX0_codeAt : Nat × Nat := (0, 0)
abbrev mX0_putCode : zM := (yX0_putCode, cX0_putCode, 5, none)
abbrev dX0_putCode : Nat × Nat := (0, 0)
abbrev mX0_encode : zM := (yX0_encode, cX0_encode, 4, none)
abbrev dX0_encode : Nat × Nat := (1, 22)
abbrev mX0_load : zM := (yX0_load, cX0_load, 4, none)
abbrev dX0_load : Nat × Nat := (1, 21)
abbrev mX0_plant : zM := (yX0_plant, cX0_plant, 3, none)
abbrev dX0_plant : Nat × Nat := (4, 94)
abbrev mX0_isLike : zM := (yX0_isLike, cX0_isLike, 3, some .boolean)
abbrev dX0_isLike : Nat × Nat := (0, 0)
abbrev mX0_refresh : zM := (yX0_refresh, cX0_refresh, 3, none)
abbrev dX0_refresh : Nat × Nat := (5, 116)
set_option maxRecDepth 20000 in
theorem kX0_init : zLc mX0_init 0 := ⟨zCh_1 (List.mem_of_getElem? (i := 137) rfl) rfl, zCh_1 (List.mem_of_getElem? (i := 6) (by decide +kernel)) rfl, by decide, by decide, by decide +kernel⟩
set_option maxRecDepth 20000 in
theorem kX0_mirror : zLc mX0_mirror 1 := ⟨zCh_2 (List.mem_of_getElem? (i := 210) rfl) rfl, zCh_1 (List.mem_of_getElem? (i := 6) (by decide +kernel)) rfl, by decide, by decide, by decide +kernel⟩
set_option maxRecDepth 20000 in
theorem kX0_hasPaid : zLc mX0_hasPaid 1 := ⟨zCh_2 (List.mem_of_getElem? (i := 232) rfl) rfl, zCh_1 (List.mem_of_getElem? (i := 6) (by decide +kernel)) rfl, by decide, by decide, by decide +kernel⟩
set_option maxRecDepth 20000 in
theorem kX0_punish : zLc mX0_punish 2 := ⟨zCh_3 (List.mem_of_getElem? (i := 182) rfl) rfl, zCh_1 (List.mem_of_getElem? (i := 6) (by decide +kernel)) rfl, by decide, by decide, by decide +kernel⟩
set_option maxRecDepth 20000 in
theorem kX0_pay : zLc mX0_pay 2 := ⟨zCh_3 (List.mem_of_getElem? (i := 193) rfl) rfl, zCh_1 (List.mem_of_getElem? (i := 6) (by decide +kernel)) rfl, by decide, by decide, by decide +kernel⟩
set_option maxRecDepth 20000 in
theorem kX0_play : zLc mX0_play 3 := ⟨zCh_4 (List.mem_of_getElem? (i := 76) rfl) rfl, zCh_1 (List.mem_of_getElem? (i := 6) (by decide +kernel)) rfl, by decide, by decide, by decide +kernel⟩
set_option maxRecDepth 20000 in
theorem kX0_codeAt : zLc mX0_codeAt 2 := ⟨zCh_4 (List.mem_of_getElem? (i := 81) rfl) rfl, zCh_1 (List.mem_of_getElem? (i := 6) (by decide +kernel)) rfl, by decide, by decide, by decide +kernel⟩
set_option maxRecDepth 20000 in
theorem kX0_putCode : zLc mX0_putCode 3 := ⟨zCh_3 (List.mem_of_getElem? (i := 197) rfl) rfl, zCh_1 (List.mem_of_getElem? (i := 6) (by decide +kernel)) rfl, by decide, by decide, by decide +kernel⟩
set_option maxRecDepth 20000 in
theorem kX0_encode : zLc mX0_encode 3 := ⟨zCh_2 (List.mem_of_getElem? (i := 225) rfl) rfl, zCh_1 (List.mem_of_getElem? (i := 6) (by decide +kernel)) rfl, by decide, by decide, by decide +kernel⟩
set_option maxRecDepth 20000 in
theorem kX0_load : zLc mX0_load 1 := ⟨zCh_4 (List.mem_of_getElem? (i := 37) rfl) rfl, zCh_1 (List.mem_of_getElem? (i := 6) (by decide +kernel)) rfl, by decide, by decide, by decide +kernel⟩
set_option maxRecDepth 20000 in
theorem kX0_plant : zLc mX0_plant 1 := ⟨zCh_2 (List.mem_of_getElem? (i := 217) rfl) rfl, zCh_1 (List.mem_of_getElem? (i := 6) (by decide +kernel)) rfl, by decide, by decide, by decide +kernel⟩
set_option maxRecDepth 20000 in
theorem kX0_isLike : zLc mX0_isLike 1 := ⟨zCh_2 (List.mem_of_getElem? (i := 206) rfl) rfl, zCh_1 (List.mem_of_getElem? (i := 6) (by decide +kernel)) rfl, by decide, by decide, by decide +kernel⟩
set_option maxRecDepth 20000 in
theorem kX0_refresh : zLc mX0_refresh 2 := ⟨zCh_2 (List.mem_of_getElem? (i := 202) rfl) rfl, zCh_1 (List.mem_of_getElem? (i := 6) (by decide +kernel)) rfl, by decide, by decide, by decide +kernel⟩
theorem lX0_29 : Cond.methodLink RX0 29 yJ7_fill_53178 ∈ zT ∧ Cond.static yJ7_fill_53178 ∈ zT := ⟨zCh_1 (List.mem_of_getElem? (i := 139) (by decide +kernel)) rfl, zCh_1 (List.mem_of_getElem? (i := 140) (by decide +kernel)) rfl⟩
theorem lX0_46 : Cond.methodLink RX0 46 yX1_evidenceSize ∈ zT ∧ Cond.static yX1_evidenceSize ∈ zT := ⟨zCh_4 (List.mem_of_getElem? (i := 77) (by decide +kernel)) rfl, zCh_3 (List.mem_of_getElem? (i := 203) (by decide +kernel)) rfl⟩
theorem lX0_52 : Cond.methodLink RX0 52 yX0_punish ∈ zT ∧ Cond.instanceMethod yX0_punish ∈ zT ∧ Cond.selects yX0_punish.cls yX0_punish yX0_punish ∈ zT := ⟨zCh_4 (List.mem_of_getElem? (i := 78) (by decide +kernel)) rfl, zCh_3 (List.mem_of_getElem? (i := 180) (by decide +kernel)) rfl, zCh_3 (List.mem_of_getElem? (i := 181) (by decide +kernel)) rfl⟩
theorem lX0_56 : Cond.methodLink RX0 56 yX0_codeAt ∈ zT ∧ Cond.static yX0_codeAt ∈ zT := ⟨zCh_4 (List.mem_of_getElem? (i := 79) (by decide +kernel)) rfl, zCh_4 (List.mem_of_getElem? (i := 80) (by decide +kernel)) rfl⟩
theorem lX0_60 : Cond.methodLink RX0 60 yX0_pay ∈ zT ∧ Cond.instanceMethod yX0_pay ∈ zT ∧ Cond.selects yX0_pay.cls yX0_pay yX0_pay ∈ zT := ⟨zCh_4 (List.mem_of_getElem? (i := 82) (by decide +kernel)) rfl, zCh_3 (List.mem_of_getElem? (i := 191) (by decide +kernel)) rfl, zCh_3 (List.mem_of_getElem? (i := 192) (by decide +kernel)) rfl⟩
theorem lX0_68 : Cond.methodLink RX0 68 yX0_hasPaid ∈ zT ∧ Cond.instanceMethod yX0_hasPaid ∈ zT ∧ Cond.selects yX0_hasPaid.cls yX0_hasPaid yX0_hasPaid ∈ zT := ⟨zCh_2 (List.mem_of_getElem? (i := 229) (by decide +kernel)) rfl, zCh_2 (List.mem_of_getElem? (i := 230) (by decide +kernel)) rfl, zCh_2 (List.mem_of_getElem? (i := 231) (by decide +kernel)) rfl⟩
theorem lX0_76 : Cond.methodLink RX0 76 yX2_clear ∈ zT ∧ Cond.instanceMethod yX2_clear ∈ zT ∧ Cond.selects yX2_clear.cls yX2_clear yX2_clear ∈ zT := ⟨zCh_2 (List.mem_of_getElem? (i := 218) (by decide +kernel)) rfl, zCh_2 (List.mem_of_getElem? (i := 219) (by decide +kernel)) rfl, zCh_2 (List.mem_of_getElem? (i := 220) (by decide +kernel)) rfl⟩
theorem lX0_81 : Cond.methodLink RX0 81 yX0_encode ∈ zT ∧ Cond.instanceMethod yX0_encode ∈ zT ∧ Cond.selects yX0_encode.cls yX0_encode yX0_encode ∈ zT := ⟨zCh_2 (List.mem_of_getElem? (i := 222) (by decide +kernel)) rfl, zCh_2 (List.mem_of_getElem? (i := 223) (by decide +kernel)) rfl, zCh_2 (List.mem_of_getElem? (i := 224) (by decide +kernel)) rfl⟩
theorem lX0_85 : Cond.methodLink RX0 85 yX2_leaf ∈ zT ∧ Cond.instanceMethod yX2_leaf ∈ zT ∧ Cond.selects yX2_leaf.cls yX2_leaf yX2_leaf ∈ zT := ⟨zCh_2 (List.mem_of_getElem? (i := 233) (by decide +kernel)) rfl, zCh_2 (List.mem_of_getElem? (i := 234) (by decide +kernel)) rfl, zCh_2 (List.mem_of_getElem? (i := 235) (by decide +kernel)) rfl⟩
theorem lX0_88 : Cond.methodLink RX0 88 yX0_isLike ∈ zT ∧ Cond.instanceMethod yX0_isLike ∈ zT ∧ Cond.selects yX0_isLike.cls yX0_isLike yX0_isLike ∈ zT := ⟨zCh_2 (List.mem_of_getElem? (i := 203) (by decide +kernel)) rfl, zCh_2 (List.mem_of_getElem? (i := 205) (by decide +kernel)) rfl, zIn 0 (by decide +kernel) rfl⟩
theorem lX0_92 : Cond.methodLink RX0 92 yX0_mirror ∈ zT ∧ Cond.instanceMethod yX0_mirror ∈ zT ∧ Cond.selects yX0_mirror.cls yX0_mirror yX0_mirror ∈ zT := ⟨zCh_2 (List.mem_of_getElem? (i := 207) (by decide +kernel)) rfl, zCh_2 (List.mem_of_getElem? (i := 208) (by decide +kernel)) rfl, zCh_2 (List.mem_of_getElem? (i := 209) (by decide +kernel)) rfl⟩
theorem lX0_96 : Cond.methodLink RX0 96 yX0_plant ∈ zT ∧ Cond.instanceMethod yX0_plant ∈ zT ∧ Cond.selects yX0_plant.cls yX0_plant yX0_plant ∈ zT := ⟨zCh_2 (List.mem_of_getElem? (i := 214) (by decide +kernel)) rfl, zCh_2 (List.mem_of_getElem? (i := 215) (by decide +kernel)) rfl, zCh_2 (List.mem_of_getElem? (i := 216) (by decide +kernel)) rfl⟩
theorem lX0_100 : Cond.methodLink RX0 100 yX2_climb ∈ zT ∧ Cond.instanceMethod yX2_climb ∈ zT ∧ Cond.selects yX2_climb.cls yX2_climb yX2_climb ∈ zT := ⟨zCh_3 (List.mem_of_getElem? (i := 28) (by decide +kernel)) rfl, zCh_3 (List.mem_of_getElem? (i := 29) (by decide +kernel)) rfl, zCh_3 (List.mem_of_getElem? (i := 30) (by decide +kernel)) rfl⟩
theorem lX0_104 : Cond.methodLink RX0 104 yX2_top ∈ zT ∧ Cond.instanceMethod yX2_top ∈ zT ∧ Cond.selects yX2_top.cls yX2_top yX2_top ∈ zT := ⟨zCh_3 (List.mem_of_getElem? (i := 36) (by decide +kernel)) rfl, zCh_3 (List.mem_of_getElem? (i := 37) (by decide +kernel)) rfl, zCh_3 (List.mem_of_getElem? (i := 38) (by decide +kernel)) rfl⟩
theorem lX0_64 : Cond.methodLinkNest RX0 64 yX11_putTwo "QuorumLedger" ∈ zN ∧ Cond.static yX11_putTwo ∈ zT := ⟨zNin 466 (by decide +kernel) rfl, zCh_2 (List.mem_of_getElem? (i := 227) (by decide +kernel)) rfl⟩
theorem lX0_72 : Cond.methodLinkNest RX0 72 yX11_twoBytes "QuorumLedger" ∈ zN ∧ Cond.static yX11_twoBytes ∈ zT := ⟨zNin 758 (by decide +kernel) rfl, zCh_4 (List.mem_of_getElem? (i := 39) (by decide +kernel)) rfl⟩
theorem fX0_9 : Cond.fieldLink RX0 9 "QuorumLedger$Book" "has" "[I" ∈ zT := zCh_1 (List.mem_of_getElem? (i := 142) (by decide +kernel)) rfl
theorem fX0_15 : Cond.fieldLink RX0 15 "QuorumLedger$Book" "made" "[I" ∈ zT := zCh_1 (List.mem_of_getElem? (i := 144) (by decide +kernel)) rfl
theorem fX0_18 : Cond.fieldLink RX0 18 "QuorumLedger$Book" "root" "[B" ∈ zT := zCh_1 (List.mem_of_getElem? (i := 146) (by decide +kernel)) rfl
theorem fX0_22 : Cond.fieldLink RX0 22 "QuorumLedger$Book" "line" "[B" ∈ zT := zCh_1 (List.mem_of_getElem? (i := 149) (by decide +kernel)) rfl
theorem fX0_25 : Cond.fieldLink RX0 25 "QuorumLedger$Book" "stale" "Z" ∈ zT := zCh_1 (List.mem_of_getElem? (i := 150) (by decide +kernel)) rfl
theorem fX0_41 : Cond.fieldLink RX0 41 "QuorumLedger$Book" "fined" "I" ∈ zT := zCh_1 (List.mem_of_getElem? (i := 145) (by decide +kernel)) rfl
theorem nX0_45 : Cond.constant RX0 45 (65535 : Int32) ∈ zT := zCh_3 (List.mem_of_getElem? (i := 194) (by decide +kernel)) rfl
theorem qX0_3 : Cond.methodLink RX0 3 Lib.objectInit ∈ zT := zCh_1 (List.mem_of_getElem? (i := 138) (by decide +kernel)) rfl
theorem qX0_35 : Cond.methodLink RX0 35 arraycopyName ∈ zT := zCh_2 (List.mem_of_getElem? (i := 211) (by decide +kernel)) rfl

/-! QuorumLedger$Shelf: its methods, what they link -/
abbrev mX8_init : zM := (yX8_init, cX8_init, 3, none)
abbrev dX8_init : Nat × Nat := (1, 20)
abbrev mX8_page : zM := (yX8_page, cX8_page, 3, some .int)
abbrev dX8_page : Nat × Nat := (0, 0)
abbrev mX8_ballots : zM := (yX8_ballots, cX8_ballots, 3, some .int)
abbrev dX8_ballots : Nat × Nat := (0, 0)
abbrev mX8_top : zM := (yX8_top, cX8_top, 2, some .int)
abbrev dX8_top : Nat × Nat := (0, 0)
abbrev mX8_proposal : zM := (yX8_proposal, cX8_proposal, 4, some (.object "QuorumLedger$Message"))
abbrev dX8_proposal : Nat × Nat := (1, 22)
abbrev mX8_like : zM := (yX8_like, cX8_like, 3, some (.object "QuorumLedger$Message"))
abbrev dX8_like : Nat × Nat := (1, 22)
abbrev mX8_hold : zM := (yX8_hold, cX8_hold, 6, none)
abbrev dX8_hold : Nat × Nat := (1, 22)
abbrev mX8_verdict : zM := (yX8_verdict, cX8_verdict, 4, some .int)
abbrev dX8_verdict : Nat × Nat := (1, 22)
abbrev mX8_judge : zM := (yX8_judge, cX8_judge, 5, none)
abbrev dX8_judge : Nat × Nat := (1, 22)
abbrev mX8_votesFor : zM := (yX8_votesFor, cX8_votesFor, 10, some .int)
abbrev dX8_votesFor : Nat × Nat := (1, 23)
abbrev mX8_votesInAll : zM := (yX8_votesInAll, cX8_votesInAll, 8, some .int)
abbrev dX8_votesInAll : Nat × Nat := (1, 22)
abbrev mX8_signers : zM := (yX8_signers, cX8_signers, 9, some .int)
abbrev dX8_signers : Nat × Nat := (1, 22)
abbrev mX8_inOrder : zM := (yX8_inOrder, cX8_inOrder, 5, some (.object "QuorumLedger$Message"))
abbrev dX8_inOrder : Nat × Nat := (1, 22)
abbrev mX8_holdDecided : zM := (yX8_holdDecided, cX8_holdDecided, 3, some .boolean)
abbrev dX8_holdDecided : Nat × Nat := (0, 0)
abbrev mX8_decisionsFor : zM := (yX8_decisionsFor, cX8_decisionsFor, 4, some .int)
abbrev dX8_decisionsFor : Nat × Nat := (1, 23)
abbrev mX8_holdSnapshot : zM := (yX8_holdSnapshot, cX8_holdSnapshot, 3, some .boolean)
abbrev dX8_holdSnapshot : Nat × Nat := (1, 21)
abbrev mX8_snapshotsLike : zM := (yX8_snapshotsLike, cX8_snapshotsLike, 5, some .int)
abbrev dX8_snapshotsLike : Nat × Nat := (1, 25)
abbrev mX8_proofOf : zM := (yX8_proofOf, cX8_proofOf, 2, some (.object "QuorumLedger$Message"))
abbrev dX8_proofOf : Nat × Nat := (0, 0)
abbrev mX8_addProof : zM := (yX8_addProof, cX8_addProof, 3, some .boolean)
abbrev dX8_addProof : Nat × Nat := (1, 20)
abbrev mX8_paymentAt : zM := (yX8_paymentAt, cX8_paymentAt, 2, some .long)
abbrev dX8_paymentAt : Nat × Nat := (0, 0)
abbrev mX8_find : zM := (yX8_find, cX8_find, 4, some .int)
abbrev dX8_find : Nat × Nat := (0, 0)
abbrev mX8_addPayment : zM := (yX8_addPayment, cX8_addPayment, 3, some .boolean)
abbrev dX8_addPayment : Nat × Nat := (1, 23)
abbrev mX8_removePayment : zM := (yX8_removePayment, cX8_removePayment, 4, none)
abbrev dX8_removePayment : Nat × Nat := (1, 40)
abbrev mX8_clear : zM := (yX8_clear, cX8_clear, 10, none)
abbrev dX8_clear : Nat × Nat := (1, 22)
abbrev mX8_clearDecided : zM := (yX8_clearDecided, cX8_clearDecided, 2, none)
abbrev dX8_clearDecided : Nat × Nat := (1, 21)
abbrev mX8_clearRest : zM := (yX8_clearRest, cX8_clearRest, 2, none)
abbrev dX8_clearRest : Nat × Nat := (1, 21)
set_option maxRecDepth 20000 in
theorem kX8_init : zLc mX8_init 2 := ⟨zCh_2 (List.mem_of_getElem? (i := 45) rfl) rfl, zCh_1 (List.mem_of_getElem? (i := 11) (by decide +kernel)) rfl, by decide, by decide, by decide +kernel⟩
set_option maxRecDepth 20000 in
theorem kX8_page : zLc mX8_page 2 := ⟨zCh_3 (List.mem_of_getElem? (i := 236) rfl) rfl, zCh_1 (List.mem_of_getElem? (i := 11) (by decide +kernel)) rfl, by decide, by decide, by decide +kernel⟩
set_option maxRecDepth 20000 in
theorem kX8_ballots : zLc mX8_ballots 2 := ⟨zCh_3 (List.mem_of_getElem? (i := 84) rfl) rfl, zCh_1 (List.mem_of_getElem? (i := 11) (by decide +kernel)) rfl, by decide, by decide, by decide +kernel⟩
set_option maxRecDepth 20000 in
theorem kX8_top : zLc mX8_top 1 := ⟨zCh_4 (List.mem_of_getElem? (i := 108) rfl) rfl, zCh_1 (List.mem_of_getElem? (i := 11) (by decide +kernel)) rfl, by decide, by decide, by decide +kernel⟩
set_option maxRecDepth 20000 in
theorem kX8_proposal : zLc mX8_proposal 2 := ⟨zCh_4 (List.mem_of_getElem? (i := 112) rfl) rfl, zCh_1 (List.mem_of_getElem? (i := 11) (by decide +kernel)) rfl, by decide, by decide, by decide +kernel⟩
set_option maxRecDepth 20000 in
theorem kX8_like : zLc mX8_like 1 := ⟨zCh_5 (List.mem_of_getElem? (i := 159) rfl) rfl, zCh_1 (List.mem_of_getElem? (i := 11) (by decide +kernel)) rfl, by decide, by decide, by decide +kernel⟩
set_option maxRecDepth 20000 in
theorem kX8_hold : zLc mX8_hold 1 := ⟨zCh_3 (List.mem_of_getElem? (i := 224) rfl) rfl, zCh_1 (List.mem_of_getElem? (i := 11) (by decide +kernel)) rfl, by decide, by decide, by decide +kernel⟩
set_option maxRecDepth 20000 in
theorem kX8_verdict : zLc mX8_verdict 2 := ⟨zCh_4 (List.mem_of_getElem? (i := 123) rfl) rfl, zCh_1 (List.mem_of_getElem? (i := 11) (by decide +kernel)) rfl, by decide, by decide, by decide +kernel⟩
set_option maxRecDepth 20000 in
theorem kX8_judge : zLc mX8_judge 3 := ⟨zCh_4 (List.mem_of_getElem? (i := 127) rfl) rfl, zCh_1 (List.mem_of_getElem? (i := 11) (by decide +kernel)) rfl, by decide, by decide, by decide +kernel⟩
set_option maxRecDepth 20000 in
theorem kX8_votesFor : zLc mX8_votesFor 4 := ⟨zCh_4 (List.mem_of_getElem? (i := 116) rfl) rfl, zCh_1 (List.mem_of_getElem? (i := 11) (by decide +kernel)) rfl, by decide, by decide, by decide +kernel⟩
set_option maxRecDepth 20000 in
theorem kX8_votesInAll : zLc mX8_votesInAll 3 := ⟨zCh_4 (List.mem_of_getElem? (i := 164) rfl) rfl, zCh_1 (List.mem_of_getElem? (i := 11) (by decide +kernel)) rfl, by decide, by decide, by decide +kernel⟩
set_option maxRecDepth 20000 in
theorem kX8_signers : zLc mX8_signers 2 := ⟨zCh_4 (List.mem_of_getElem? (i := 134) rfl) rfl, zCh_1 (List.mem_of_getElem? (i := 11) (by decide +kernel)) rfl, by decide, by decide, by decide +kernel⟩
set_option maxRecDepth 20000 in
theorem kX8_inOrder : zLc mX8_inOrder 3 := ⟨zCh_5 (List.mem_of_getElem? (i := 142) rfl) rfl, zCh_1 (List.mem_of_getElem? (i := 11) (by decide +kernel)) rfl, by decide, by decide, by decide +kernel⟩
set_option maxRecDepth 20000 in
theorem kX8_holdDecided : zLc mX8_holdDecided 2 := ⟨zCh_5 (List.mem_of_getElem? (i := 150) rfl) rfl, zCh_1 (List.mem_of_getElem? (i := 11) (by decide +kernel)) rfl, by decide, by decide, by decide +kernel⟩
set_option maxRecDepth 20000 in
theorem kX8_decisionsFor : zLc mX8_decisionsFor 1 := ⟨zCh_4 (List.mem_of_getElem? (i := 64) rfl) rfl, zCh_1 (List.mem_of_getElem? (i := 11) (by decide +kernel)) rfl, by decide, by decide, by decide +kernel⟩
set_option maxRecDepth 20000 in
theorem kX8_holdSnapshot : zLc mX8_holdSnapshot 2 := ⟨zCh_5 (List.mem_of_getElem? (i := 112) rfl) rfl, zCh_1 (List.mem_of_getElem? (i := 11) (by decide +kernel)) rfl, by decide, by decide, by decide +kernel⟩
set_option maxRecDepth 20000 in
theorem kX8_snapshotsLike : zLc mX8_snapshotsLike 1 := ⟨zCh_4 (List.mem_of_getElem? (i := 22) rfl) rfl, zCh_1 (List.mem_of_getElem? (i := 11) (by decide +kernel)) rfl, by decide, by decide, by decide +kernel⟩
set_option maxRecDepth 20000 in
theorem kX8_proofOf : zLc mX8_proofOf 1 := ⟨zCh_3 (List.mem_of_getElem? (i := 178) rfl) rfl, zCh_1 (List.mem_of_getElem? (i := 11) (by decide +kernel)) rfl, by decide, by decide, by decide +kernel⟩
set_option maxRecDepth 20000 in
theorem kX8_addProof : zLc mX8_addProof 1 := ⟨zCh_5 (List.mem_of_getElem? (i := 106) rfl) rfl, zCh_1 (List.mem_of_getElem? (i := 11) (by decide +kernel)) rfl, by decide, by decide, by decide +kernel⟩
set_option maxRecDepth 20000 in
theorem kX8_paymentAt : zLc mX8_paymentAt 1 := ⟨zCh_3 (List.mem_of_getElem? (i := 189) rfl) rfl, zCh_1 (List.mem_of_getElem? (i := 11) (by decide +kernel)) rfl, by decide, by decide, by decide +kernel⟩
set_option maxRecDepth 20000 in
theorem kX8_find : zLc mX8_find 1 := ⟨zCh_4 (List.mem_of_getElem? (i := 103) rfl) rfl, zCh_1 (List.mem_of_getElem? (i := 11) (by decide +kernel)) rfl, by decide, by decide, by decide +kernel⟩
set_option maxRecDepth 20000 in
theorem kX8_addPayment : zLc mX8_addPayment 1 := ⟨zCh_5 (List.mem_of_getElem? (i := 69) rfl) rfl, zCh_1 (List.mem_of_getElem? (i := 11) (by decide +kernel)) rfl, by decide, by decide, by decide +kernel⟩
set_option maxRecDepth 20000 in
theorem kX8_removePayment : zLc mX8_removePayment 1 := ⟨zCh_4 (List.mem_of_getElem? (i := 99) rfl) rfl, zCh_1 (List.mem_of_getElem? (i := 11) (by decide +kernel)) rfl, by decide, by decide, by decide +kernel⟩
set_option maxRecDepth 20000 in
theorem kX8_clear : zLc mX8_clear 2 := ⟨zCh_3 (List.mem_of_getElem? (i := 72) rfl) rfl, zCh_1 (List.mem_of_getElem? (i := 11) (by decide +kernel)) rfl, by decide, by decide, by decide +kernel⟩
set_option maxRecDepth 20000 in
theorem kX8_clearDecided : zLc mX8_clearDecided 0 := ⟨zCh_3 (List.mem_of_getElem? (i := 88) rfl) rfl, zCh_1 (List.mem_of_getElem? (i := 11) (by decide +kernel)) rfl, by decide, by decide, by decide +kernel⟩
set_option maxRecDepth 20000 in
theorem kX8_clearRest : zLc mX8_clearRest 0 := ⟨zCh_3 (List.mem_of_getElem? (i := 92) rfl) rfl, zCh_1 (List.mem_of_getElem? (i := 11) (by decide +kernel)) rfl, by decide, by decide, by decide +kernel⟩
theorem lX8_51 : Cond.methodLink RX8 51 yX8_page ∈ zT ∧ Cond.instanceMethod yX8_page ∈ zT ∧ Cond.selects yX8_page.cls yX8_page yX8_page ∈ zT := ⟨zCh_3 (List.mem_of_getElem? (i := 233) (by decide +kernel)) rfl, zCh_3 (List.mem_of_getElem? (i := 235) (by decide +kernel)) rfl, zIn 7 (by decide +kernel) rfl⟩
theorem lX8_55 : Cond.methodLink RX8 55 yX5_two ∈ zT ∧ Cond.instanceMethod yX5_two ∈ zT ∧ Cond.selects yX5_two.cls yX5_two yX5_two ∈ zT := ⟨zCh_3 (List.mem_of_getElem? (i := 225) (by decide +kernel)) rfl, zCh_3 (List.mem_of_getElem? (i := 226) (by decide +kernel)) rfl, zCh_3 (List.mem_of_getElem? (i := 227) (by decide +kernel)) rfl⟩
theorem lX8_59 : Cond.methodLink RX8 59 yX5_at ∈ zT ∧ Cond.instanceMethod yX5_at ∈ zT ∧ Cond.selects yX5_at.cls yX5_at yX5_at ∈ zT := ⟨zCh_3 (List.mem_of_getElem? (i := 229) (by decide +kernel)) rfl, zCh_3 (List.mem_of_getElem? (i := 230) (by decide +kernel)) rfl, zCh_3 (List.mem_of_getElem? (i := 231) (by decide +kernel)) rfl⟩
theorem lX8_62 : Cond.methodLink RX8 62 yX5_signer ∈ zT ∧ Cond.instanceMethod yX5_signer ∈ zT ∧ Cond.selects yX5_signer.cls yX5_signer yX5_signer ∈ zT := ⟨zCh_3 (List.mem_of_getElem? (i := 73) (by decide +kernel)) rfl, zCh_3 (List.mem_of_getElem? (i := 74) (by decide +kernel)) rfl, zCh_3 (List.mem_of_getElem? (i := 75) (by decide +kernel)) rfl⟩
theorem lX8_66 : Cond.methodLink RX8 66 yX5_kind ∈ zT ∧ Cond.instanceMethod yX5_kind ∈ zT ∧ Cond.selects yX5_kind.cls yX5_kind yX5_kind ∈ zT := ⟨zCh_3 (List.mem_of_getElem? (i := 237) (by decide +kernel)) rfl, zCh_3 (List.mem_of_getElem? (i := 238) (by decide +kernel)) rfl, zCh_3 (List.mem_of_getElem? (i := 239) (by decide +kernel)) rfl⟩
theorem lX8_69 : Cond.methodLink RX8 69 yX8_ballots ∈ zT ∧ Cond.instanceMethod yX8_ballots ∈ zT ∧ Cond.selects yX8_ballots.cls yX8_ballots yX8_ballots ∈ zT := ⟨zCh_3 (List.mem_of_getElem? (i := 81) (by decide +kernel)) rfl, zCh_3 (List.mem_of_getElem? (i := 83) (by decide +kernel)) rfl, zIn 6 (by decide +kernel) rfl⟩
theorem lX8_75 : Cond.methodLink RX8 75 yJ9_max_7cf53 ∈ zT ∧ Cond.static yJ9_max_7cf53 ∈ zT := ⟨zCh_4 (List.mem_of_getElem? (i := 1) (by decide +kernel)) rfl, zCh_1 (List.mem_of_getElem? (i := 165) (by decide +kernel)) rfl⟩
theorem lX8_84 : Cond.methodLink RX8 84 yX5_isFor ∈ zT ∧ Cond.instanceMethod yX5_isFor ∈ zT ∧ Cond.selects yX5_isFor.cls yX5_isFor yX5_isFor ∈ zT := ⟨zCh_4 (List.mem_of_getElem? (i := 65) (by decide +kernel)) rfl, zCh_4 (List.mem_of_getElem? (i := 66) (by decide +kernel)) rfl, zCh_4 (List.mem_of_getElem? (i := 67) (by decide +kernel)) rfl⟩
theorem lX8_91 : Cond.methodLink RX8 91 yX9_drop ∈ zT ∧ Cond.instanceMethod yX9_drop ∈ zT ∧ Cond.selects yX9_drop.cls yX9_drop yX9_drop ∈ zT := ⟨zCh_3 (List.mem_of_getElem? (i := 77) (by decide +kernel)) rfl, zCh_3 (List.mem_of_getElem? (i := 78) (by decide +kernel)) rfl, zCh_3 (List.mem_of_getElem? (i := 79) (by decide +kernel)) rfl⟩
theorem lX8_111 : Cond.methodLink RX8 111 yX8_find ∈ zT ∧ Cond.instanceMethod yX8_find ∈ zT ∧ Cond.selects yX8_find.cls yX8_find yX8_find ∈ zT := ⟨zCh_4 (List.mem_of_getElem? (i := 100) (by decide +kernel)) rfl, zCh_4 (List.mem_of_getElem? (i := 102) (by decide +kernel)) rfl, zIn 8 (by decide +kernel) rfl⟩
theorem lX8_101 : Cond.methodLinkNest RX8 101 yX11_sameBytes "QuorumLedger" ∈ zN ∧ Cond.static yX11_sameBytes ∈ zT := ⟨zNin 743 (by decide +kernel) rfl, zCh_4 (List.mem_of_getElem? (i := 24) (by decide +kernel)) rfl⟩
theorem fX8_11 : Cond.fieldLink RX8 11 "QuorumLedger$Shelf" "proposals" "[LQuorumLedger$Message;" ∈ zT := zCh_2 (List.mem_of_getElem? (i := 50) (by decide +kernel)) rfl
theorem fX8_17 : Cond.fieldLink RX8 17 "QuorumLedger$Shelf" "verdicts" "[I" ∈ zT := zCh_2 (List.mem_of_getElem? (i := 51) (by decide +kernel)) rfl
theorem fX8_21 : Cond.fieldLink RX8 21 "QuorumLedger$Shelf" "tops" "[I" ∈ zT := zCh_2 (List.mem_of_getElem? (i := 53) (by decide +kernel)) rfl
theorem fX8_24 : Cond.fieldLink RX8 24 "QuorumLedger$Shelf" "payments" "[J" ∈ zT := zCh_2 (List.mem_of_getElem? (i := 61) (by decide +kernel)) rfl
theorem fX8_28 : Cond.fieldLink RX8 28 "QuorumLedger$Shelf" "sky" "LQuorumLedger$Sky;" ∈ zT := zCh_2 (List.mem_of_getElem? (i := 48) (by decide +kernel)) rfl
theorem fX8_32 : Cond.fieldLink RX8 32 "QuorumLedger$Shelf" "nodes" "I" ∈ zT := zCh_2 (List.mem_of_getElem? (i := 49) (by decide +kernel)) rfl
theorem fX8_36 : Cond.fieldLink RX8 36 "QuorumLedger$Shelf" "votes" "[LQuorumLedger$Message;" ∈ zT := zCh_2 (List.mem_of_getElem? (i := 52) (by decide +kernel)) rfl
theorem fX8_39 : Cond.fieldLink RX8 39 "QuorumLedger$Shelf" "decided" "[LQuorumLedger$Message;" ∈ zT := zCh_2 (List.mem_of_getElem? (i := 54) (by decide +kernel)) rfl
theorem fX8_42 : Cond.fieldLink RX8 42 "QuorumLedger$Shelf" "rulings" "[I" ∈ zT := zCh_2 (List.mem_of_getElem? (i := 56) (by decide +kernel)) rfl
theorem fX8_45 : Cond.fieldLink RX8 45 "QuorumLedger$Shelf" "snapshots" "[LQuorumLedger$Message;" ∈ zT := zCh_2 (List.mem_of_getElem? (i := 58) (by decide +kernel)) rfl
theorem fX8_48 : Cond.fieldLink RX8 48 "QuorumLedger$Shelf" "proofs" "[LQuorumLedger$Message;" ∈ zT := zCh_2 (List.mem_of_getElem? (i := 60) (by decide +kernel)) rfl
theorem fX8_72 : Cond.fieldLink RX8 72 "QuorumLedger$Message" "users" "I" ∈ zT := zCh_3 (List.mem_of_getElem? (i := 132) (by decide +kernel)) rfl
theorem fX8_80 : Cond.fieldLink RX8 80 "QuorumLedger$Message" "named" "Z" ∈ zT := zCh_3 (List.mem_of_getElem? (i := 141) (by decide +kernel)) rfl
theorem fX8_88 : Cond.fieldLink RX8 88 "QuorumLedger$Shelf" "decisions" "I" ∈ zT := zCh_2 (List.mem_of_getElem? (i := 63) (by decide +kernel)) rfl
theorem fX8_97 : Cond.fieldLink RX8 97 "QuorumLedger$Message" "row" "[B" ∈ zT := zCh_3 (List.mem_of_getElem? (i := 122) (by decide +kernel)) rfl
theorem fX8_105 : Cond.fieldLink RX8 105 "QuorumLedger$Shelf" "proven" "I" ∈ zT := zCh_2 (List.mem_of_getElem? (i := 67) (by decide +kernel)) rfl
theorem fX8_108 : Cond.fieldLink RX8 108 "QuorumLedger$Shelf" "pooled" "I" ∈ zT := zCh_2 (List.mem_of_getElem? (i := 64) (by decide +kernel)) rfl
theorem qX8_3 : Cond.methodLink RX8 3 Lib.objectInit ∈ zT := zCh_2 (List.mem_of_getElem? (i := 46) (by decide +kernel)) rfl
theorem qX8_115 : Cond.methodLink RX8 115 arraycopyName ∈ zT := zCh_4 (List.mem_of_getElem? (i := 104) (by decide +kernel)) rfl
theorem clX8_9 : Cond.classLink RX8 9 "QuorumLedger$Message" ∈ zT := zCh_2 (List.mem_of_getElem? (i := 47) (by decide +kernel)) rfl

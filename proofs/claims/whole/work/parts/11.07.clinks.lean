/-! QuorumLedger$Rules: its methods, what they link -/
abbrev mX7_settle : zM := (yX7_settle, cX7_settle, 3, none)
abbrev dX7_settle : Nat × Nat := (6, 145)
abbrev mX7_takes : zM := (yX7_takes, cX7_takes, 4, some .boolean)
abbrev dX7_takes : Nat × Nat := (4, 109)
abbrev mX7_take : zM := (yX7_take, cX7_take, 2, none)
abbrev dX7_take : Nat × Nat := (3, 88)
abbrev mX7_decides : zM := (yX7_decides, cX7_decides, 4, some .boolean)
abbrev dX7_decides : Nat × Nat := (4, 114)
abbrev mX7_adopt : zM := (yX7_adopt, cX7_adopt, 5, none)
abbrev dX7_adopt : Nat × Nat := (3, 90)
abbrev mX7_skips : zM := (yX7_skips, cX7_skips, 2, some .boolean)
abbrev dX7_skips : Nat × Nat := (2, 50)
abbrev mX7_prevotesNew : zM := (yX7_prevotesNew, cX7_prevotesNew, 3, some .boolean)
abbrev dX7_prevotesNew : Nat × Nat := (4, 113)
abbrev mX7_prevotesOld : zM := (yX7_prevotesOld, cX7_prevotesOld, 4, some .boolean)
abbrev dX7_prevotesOld : Nat × Nat := (4, 113)
abbrev mX7_locks : zM := (yX7_locks, cX7_locks, 2, some .boolean)
abbrev dX7_locks : Nat × Nat := (4, 113)
abbrev mX7_precommitsNone : zM := (yX7_precommitsNone, cX7_precommitsNone, 1, some .boolean)
abbrev dX7_precommitsNone : Nat × Nat := (4, 113)
abbrev mX7_awaitsPrevotes : zM := (yX7_awaitsPrevotes, cX7_awaitsPrevotes, 1, some .boolean)
abbrev dX7_awaitsPrevotes : Nat × Nat := (2, 49)
abbrev mX7_awaitsPrecommits : zM := (yX7_awaitsPrecommits, cX7_awaitsPrecommits, 1, some .boolean)
abbrev dX7_awaitsPrecommits : Nat × Nat := (2, 49)
abbrev mX7_ring : zM := (yX7_ring, cX7_ring, 2, none)
abbrev dX7_ring : Nat × Nat := (4, 113)
abbrev mX7_utter : zM := (yX7_utter, cX7_utter, 3, none)
abbrev dX7_utter : Nat × Nat := (3, 91)
abbrev mX7_begin : zM := (yX7_begin, cX7_begin, 3, none)
abbrev dX7_begin : Nat × Nat := (5, 123)
abbrev mX7_again : zM := (yX7_again, cX7_again, 3, some (.object "QuorumLedger$Message"))
abbrev dX7_again : Nat × Nat := (3, 64)
abbrev mX7_build : zM := (yX7_build, cX7_build, 6, some (.object "QuorumLedger$Message"))
abbrev dX7_build : Nat × Nat := (4, 98)
abbrev mX7_signProposal : zM := (yX7_signProposal, cX7_signProposal, 3, none)
abbrev dX7_signProposal : Nat × Nat := (1, 22)
abbrev mX7_addEvidences : zM := (yX7_addEvidences, cX7_addEvidences, 7, some .int)
abbrev dX7_addEvidences : Nat × Nat := (1, 40)
abbrev mX7_addPayments : zM := (yX7_addPayments, cX7_addPayments, 8, some .int)
abbrev dX7_addPayments : Nat × Nat := (1, 28)
abbrev mX7_approves : zM := (yX7_approves, cX7_approves, 3, some .boolean)
abbrev dX7_approves : Nat × Nat := (3, 83)
abbrev mX7_isValid : zM := (yX7_isValid, cX7_isValid, 3, some .boolean)
abbrev dX7_isValid : Nat × Nat := (2, 61)
set_option maxRecDepth 20000 in
theorem kX7_settle : zLc mX7_settle 1 := ⟨zCh_2 (List.mem_of_getElem? (i := 197) rfl) rfl, zCh_1 (List.mem_of_getElem? (i := 12) (by decide +kernel)) rfl, by decide, by decide, by decide +kernel⟩
set_option maxRecDepth 20000 in
theorem kX7_takes : zLc mX7_takes 1 := ⟨zCh_4 (List.mem_of_getElem? (i := 17) rfl) rfl, zCh_1 (List.mem_of_getElem? (i := 12) (by decide +kernel)) rfl, by decide, by decide, by decide +kernel⟩
set_option maxRecDepth 20000 in
theorem kX7_take : zLc mX7_take 2 := ⟨zCh_4 (List.mem_of_getElem? (i := 28) rfl) rfl, zCh_1 (List.mem_of_getElem? (i := 12) (by decide +kernel)) rfl, by decide, by decide, by decide +kernel⟩
set_option maxRecDepth 20000 in
theorem kX7_decides : zLc mX7_decides 1 := ⟨zCh_4 (List.mem_of_getElem? (i := 60) rfl) rfl, zCh_1 (List.mem_of_getElem? (i := 12) (by decide +kernel)) rfl, by decide, by decide, by decide +kernel⟩
set_option maxRecDepth 20000 in
theorem kX7_adopt : zLc mX7_adopt 3 := ⟨zCh_4 (List.mem_of_getElem? (i := 85) rfl) rfl, zCh_1 (List.mem_of_getElem? (i := 12) (by decide +kernel)) rfl, by decide, by decide, by decide +kernel⟩
set_option maxRecDepth 20000 in
theorem kX7_skips : zLc mX7_skips 1 := ⟨zCh_4 (List.mem_of_getElem? (i := 130) rfl) rfl, zCh_1 (List.mem_of_getElem? (i := 12) (by decide +kernel)) rfl, by decide, by decide, by decide +kernel⟩
set_option maxRecDepth 20000 in
theorem kX7_prevotesNew : zLc mX7_prevotesNew 1 := ⟨zCh_4 (List.mem_of_getElem? (i := 137) rfl) rfl, zCh_1 (List.mem_of_getElem? (i := 12) (by decide +kernel)) rfl, by decide, by decide, by decide +kernel⟩
set_option maxRecDepth 20000 in
theorem kX7_prevotesOld : zLc mX7_prevotesOld 1 := ⟨zCh_4 (List.mem_of_getElem? (i := 149) rfl) rfl, zCh_1 (List.mem_of_getElem? (i := 12) (by decide +kernel)) rfl, by decide, by decide, by decide +kernel⟩
set_option maxRecDepth 20000 in
theorem kX7_locks : zLc mX7_locks 1 := ⟨zCh_4 (List.mem_of_getElem? (i := 152) rfl) rfl, zCh_1 (List.mem_of_getElem? (i := 12) (by decide +kernel)) rfl, by decide, by decide, by decide +kernel⟩
set_option maxRecDepth 20000 in
theorem kX7_precommitsNone : zLc mX7_precommitsNone 1 := ⟨zCh_4 (List.mem_of_getElem? (i := 157) rfl) rfl, zCh_1 (List.mem_of_getElem? (i := 12) (by decide +kernel)) rfl, by decide, by decide, by decide +kernel⟩
set_option maxRecDepth 20000 in
theorem kX7_awaitsPrevotes : zLc mX7_awaitsPrevotes 1 := ⟨zCh_4 (List.mem_of_getElem? (i := 160) rfl) rfl, zCh_1 (List.mem_of_getElem? (i := 12) (by decide +kernel)) rfl, by decide, by decide, by decide +kernel⟩
set_option maxRecDepth 20000 in
theorem kX7_awaitsPrecommits : zLc mX7_awaitsPrecommits 1 := ⟨zCh_4 (List.mem_of_getElem? (i := 167) rfl) rfl, zCh_1 (List.mem_of_getElem? (i := 12) (by decide +kernel)) rfl, by decide, by decide, by decide +kernel⟩
set_option maxRecDepth 20000 in
theorem kX7_ring : zLc mX7_ring 2 := ⟨zCh_5 (List.mem_of_getElem? (i := 200) rfl) rfl, zCh_1 (List.mem_of_getElem? (i := 12) (by decide +kernel)) rfl, by decide, by decide, by decide +kernel⟩
set_option maxRecDepth 20000 in
theorem kX7_utter : zLc mX7_utter 3 := ⟨zCh_3 (List.mem_of_getElem? (i := 220) rfl) rfl, zCh_1 (List.mem_of_getElem? (i := 12) (by decide +kernel)) rfl, by decide, by decide, by decide +kernel⟩
set_option maxRecDepth 20000 in
theorem kX7_begin : zLc mX7_begin 1 := ⟨zCh_3 (List.mem_of_getElem? (i := 42) rfl) rfl, zCh_1 (List.mem_of_getElem? (i := 12) (by decide +kernel)) rfl, by decide, by decide, by decide +kernel⟩
set_option maxRecDepth 20000 in
theorem kX7_again : zLc mX7_again 2 := ⟨zCh_3 (List.mem_of_getElem? (i := 104) rfl) rfl, zCh_1 (List.mem_of_getElem? (i := 12) (by decide +kernel)) rfl, by decide, by decide, by decide +kernel⟩
set_option maxRecDepth 20000 in
theorem kX7_build : zLc mX7_build 1 := ⟨zCh_3 (List.mem_of_getElem? (i := 170) rfl) rfl, zCh_1 (List.mem_of_getElem? (i := 12) (by decide +kernel)) rfl, by decide, by decide, by decide +kernel⟩
set_option maxRecDepth 20000 in
theorem kX7_signProposal : zLc mX7_signProposal 3 := ⟨zCh_3 (List.mem_of_getElem? (i := 165) rfl) rfl, zCh_1 (List.mem_of_getElem? (i := 12) (by decide +kernel)) rfl, by decide, by decide, by decide +kernel⟩
set_option maxRecDepth 20000 in
theorem kX7_addEvidences : zLc mX7_addEvidences 3 := ⟨zCh_3 (List.mem_of_getElem? (i := 174) rfl) rfl, zCh_1 (List.mem_of_getElem? (i := 12) (by decide +kernel)) rfl, by decide, by decide, by decide +kernel⟩
set_option maxRecDepth 20000 in
theorem kX7_addPayments : zLc mX7_addPayments 3 := ⟨zCh_3 (List.mem_of_getElem? (i := 185) rfl) rfl, zCh_1 (List.mem_of_getElem? (i := 12) (by decide +kernel)) rfl, by decide, by decide, by decide +kernel⟩
set_option maxRecDepth 20000 in
theorem kX7_approves : zLc mX7_approves 2 := ⟨zCh_4 (List.mem_of_getElem? (i := 119) rfl) rfl, zCh_1 (List.mem_of_getElem? (i := 12) (by decide +kernel)) rfl, by decide, by decide, by decide +kernel⟩
set_option maxRecDepth 20000 in
theorem kX7_isValid : zLc mX7_isValid 3 := ⟨zCh_4 (List.mem_of_getElem? (i := 71) rfl) rfl, zCh_1 (List.mem_of_getElem? (i := 12) (by decide +kernel)) rfl, by decide, by decide, by decide +kernel⟩
theorem lX7_39 : Cond.methodLink RX7 39 yX0_refresh ∈ zT ∧ Cond.instanceMethod yX0_refresh ∈ zT ∧ Cond.selects yX0_refresh.cls yX0_refresh yX0_refresh ∈ zT := ⟨zCh_2 (List.mem_of_getElem? (i := 199) (by decide +kernel)) rfl, zCh_2 (List.mem_of_getElem? (i := 200) (by decide +kernel)) rfl, zCh_2 (List.mem_of_getElem? (i := 201) (by decide +kernel)) rfl⟩
theorem lX7_48 : Cond.methodLink RX7 48 yX7_begin ∈ zT ∧ Cond.static yX7_begin ∈ zT := ⟨zCh_3 (List.mem_of_getElem? (i := 40) (by decide +kernel)) rfl, zCh_3 (List.mem_of_getElem? (i := 41) (by decide +kernel)) rfl⟩
theorem lX7_52 : Cond.methodLink RX7 52 yX7_takes ∈ zT ∧ Cond.static yX7_takes ∈ zT := ⟨zCh_4 (List.mem_of_getElem? (i := 15) (by decide +kernel)) rfl, zCh_4 (List.mem_of_getElem? (i := 16) (by decide +kernel)) rfl⟩
theorem lX7_56 : Cond.methodLink RX7 56 yX7_decides ∈ zT ∧ Cond.static yX7_decides ∈ zT := ⟨zCh_4 (List.mem_of_getElem? (i := 58) (by decide +kernel)) rfl, zCh_4 (List.mem_of_getElem? (i := 59) (by decide +kernel)) rfl⟩
theorem lX7_59 : Cond.methodLink RX7 59 yX7_skips ∈ zT ∧ Cond.static yX7_skips ∈ zT := ⟨zCh_4 (List.mem_of_getElem? (i := 128) (by decide +kernel)) rfl, zCh_4 (List.mem_of_getElem? (i := 129) (by decide +kernel)) rfl⟩
theorem lX7_62 : Cond.methodLink RX7 62 yX7_prevotesNew ∈ zT ∧ Cond.static yX7_prevotesNew ∈ zT := ⟨zCh_4 (List.mem_of_getElem? (i := 135) (by decide +kernel)) rfl, zCh_4 (List.mem_of_getElem? (i := 136) (by decide +kernel)) rfl⟩
theorem lX7_65 : Cond.methodLink RX7 65 yX7_prevotesOld ∈ zT ∧ Cond.static yX7_prevotesOld ∈ zT := ⟨zCh_4 (List.mem_of_getElem? (i := 147) (by decide +kernel)) rfl, zCh_4 (List.mem_of_getElem? (i := 148) (by decide +kernel)) rfl⟩
theorem lX7_68 : Cond.methodLink RX7 68 yX7_locks ∈ zT ∧ Cond.static yX7_locks ∈ zT := ⟨zCh_4 (List.mem_of_getElem? (i := 150) (by decide +kernel)) rfl, zCh_4 (List.mem_of_getElem? (i := 151) (by decide +kernel)) rfl⟩
theorem lX7_71 : Cond.methodLink RX7 71 yX7_precommitsNone ∈ zT ∧ Cond.static yX7_precommitsNone ∈ zT := ⟨zCh_4 (List.mem_of_getElem? (i := 155) (by decide +kernel)) rfl, zCh_4 (List.mem_of_getElem? (i := 156) (by decide +kernel)) rfl⟩
theorem lX7_74 : Cond.methodLink RX7 74 yX7_awaitsPrevotes ∈ zT ∧ Cond.static yX7_awaitsPrevotes ∈ zT := ⟨zCh_4 (List.mem_of_getElem? (i := 158) (by decide +kernel)) rfl, zCh_4 (List.mem_of_getElem? (i := 159) (by decide +kernel)) rfl⟩
theorem lX7_77 : Cond.methodLink RX7 77 yX7_awaitsPrecommits ∈ zT ∧ Cond.static yX7_awaitsPrecommits ∈ zT := ⟨zCh_4 (List.mem_of_getElem? (i := 165) (by decide +kernel)) rfl, zCh_4 (List.mem_of_getElem? (i := 166) (by decide +kernel)) rfl⟩
theorem lX7_93 : Cond.methodLink RX7 93 yX5_two ∈ zT ∧ Cond.instanceMethod yX5_two ∈ zT ∧ Cond.selects yX5_two.cls yX5_two yX5_two ∈ zT := ⟨zCh_4 (List.mem_of_getElem? (i := 18) (by decide +kernel)) rfl, zCh_3 (List.mem_of_getElem? (i := 226) (by decide +kernel)) rfl, zCh_3 (List.mem_of_getElem? (i := 227) (by decide +kernel)) rfl⟩
theorem lX7_99 : Cond.methodLink RX7 99 yX8_snapshotsLike ∈ zT ∧ Cond.instanceMethod yX8_snapshotsLike ∈ zT ∧ Cond.selects yX8_snapshotsLike.cls yX8_snapshotsLike yX8_snapshotsLike ∈ zT := ⟨zCh_4 (List.mem_of_getElem? (i := 19) (by decide +kernel)) rfl, zCh_4 (List.mem_of_getElem? (i := 20) (by decide +kernel)) rfl, zCh_4 (List.mem_of_getElem? (i := 21) (by decide +kernel)) rfl⟩
theorem lX7_106 : Cond.methodLink RX7 106 yX7_take ∈ zT ∧ Cond.static yX7_take ∈ zT := ⟨zCh_4 (List.mem_of_getElem? (i := 26) (by decide +kernel)) rfl, zCh_4 (List.mem_of_getElem? (i := 27) (by decide +kernel)) rfl⟩
theorem lX7_114 : Cond.methodLink RX7 114 yX4_noteSnap ∈ zT ∧ Cond.instanceMethod yX4_noteSnap ∈ zT ∧ Cond.selects yX4_noteSnap.cls yX4_noteSnap yX4_noteSnap ∈ zT := ⟨zCh_4 (List.mem_of_getElem? (i := 29) (by decide +kernel)) rfl, zCh_4 (List.mem_of_getElem? (i := 30) (by decide +kernel)) rfl, zCh_4 (List.mem_of_getElem? (i := 31) (by decide +kernel)) rfl⟩
theorem lX7_120 : Cond.methodLink RX7 120 yX6_fall ∈ zT ∧ Cond.instanceMethod yX6_fall ∈ zT ∧ Cond.selects yX6_fall.cls yX6_fall yX6_fall ∈ zT := ⟨zCh_3 (List.mem_of_getElem? (i := 64) (by decide +kernel)) rfl, zCh_3 (List.mem_of_getElem? (i := 65) (by decide +kernel)) rfl, zCh_3 (List.mem_of_getElem? (i := 66) (by decide +kernel)) rfl⟩
theorem lX7_136 : Cond.methodLink RX7 136 yX0_load ∈ zT ∧ Cond.instanceMethod yX0_load ∈ zT ∧ Cond.selects yX0_load.cls yX0_load yX0_load ∈ zT := ⟨zCh_4 (List.mem_of_getElem? (i := 34) (by decide +kernel)) rfl, zCh_4 (List.mem_of_getElem? (i := 35) (by decide +kernel)) rfl, zCh_4 (List.mem_of_getElem? (i := 36) (by decide +kernel)) rfl⟩
theorem lX7_140 : Cond.methodLink RX7 140 yX6_forgetAnswers ∈ zT ∧ Cond.instanceMethod yX6_forgetAnswers ∈ zT ∧ Cond.selects yX6_forgetAnswers.cls yX6_forgetAnswers yX6_forgetAnswers ∈ zT := ⟨zCh_4 (List.mem_of_getElem? (i := 41) (by decide +kernel)) rfl, zCh_4 (List.mem_of_getElem? (i := 42) (by decide +kernel)) rfl, zCh_4 (List.mem_of_getElem? (i := 43) (by decide +kernel)) rfl⟩
theorem lX7_144 : Cond.methodLink RX7 144 yX6_enter ∈ zT ∧ Cond.instanceMethod yX6_enter ∈ zT ∧ Cond.selects yX6_enter.cls yX6_enter yX6_enter ∈ zT := ⟨zCh_4 (List.mem_of_getElem? (i := 46) (by decide +kernel)) rfl, zCh_4 (List.mem_of_getElem? (i := 47) (by decide +kernel)) rfl, zCh_4 (List.mem_of_getElem? (i := 48) (by decide +kernel)) rfl⟩
theorem lX7_154 : Cond.methodLink RX7 154 yX8_decisionsFor ∈ zT ∧ Cond.instanceMethod yX8_decisionsFor ∈ zT ∧ Cond.selects yX8_decisionsFor.cls yX8_decisionsFor yX8_decisionsFor ∈ zT := ⟨zCh_4 (List.mem_of_getElem? (i := 61) (by decide +kernel)) rfl, zCh_4 (List.mem_of_getElem? (i := 62) (by decide +kernel)) rfl, zCh_4 (List.mem_of_getElem? (i := 63) (by decide +kernel)) rfl⟩
theorem lX7_161 : Cond.methodLink RX7 161 yX7_isValid ∈ zT ∧ Cond.static yX7_isValid ∈ zT := ⟨zCh_4 (List.mem_of_getElem? (i := 69) (by decide +kernel)) rfl, zCh_4 (List.mem_of_getElem? (i := 70) (by decide +kernel)) rfl⟩
theorem lX7_165 : Cond.methodLink RX7 165 yX7_adopt ∈ zT ∧ Cond.static yX7_adopt ∈ zT := ⟨zCh_4 (List.mem_of_getElem? (i := 83) (by decide +kernel)) rfl, zCh_4 (List.mem_of_getElem? (i := 84) (by decide +kernel)) rfl⟩
theorem lX7_169 : Cond.methodLink RX7 169 yX8_top ∈ zT ∧ Cond.instanceMethod yX8_top ∈ zT ∧ Cond.selects yX8_top.cls yX8_top yX8_top ∈ zT := ⟨zCh_4 (List.mem_of_getElem? (i := 105) (by decide +kernel)) rfl, zCh_4 (List.mem_of_getElem? (i := 106) (by decide +kernel)) rfl, zCh_4 (List.mem_of_getElem? (i := 107) (by decide +kernel)) rfl⟩
theorem lX7_172 : Cond.methodLink RX7 172 yX8_proposal ∈ zT ∧ Cond.instanceMethod yX8_proposal ∈ zT ∧ Cond.selects yX8_proposal.cls yX8_proposal yX8_proposal ∈ zT := ⟨zCh_4 (List.mem_of_getElem? (i := 109) (by decide +kernel)) rfl, zCh_4 (List.mem_of_getElem? (i := 110) (by decide +kernel)) rfl, zCh_4 (List.mem_of_getElem? (i := 111) (by decide +kernel)) rfl⟩
theorem lX7_176 : Cond.methodLink RX7 176 yX8_votesFor ∈ zT ∧ Cond.instanceMethod yX8_votesFor ∈ zT ∧ Cond.selects yX8_votesFor.cls yX8_votesFor yX8_votesFor ∈ zT := ⟨zCh_4 (List.mem_of_getElem? (i := 113) (by decide +kernel)) rfl, zCh_4 (List.mem_of_getElem? (i := 114) (by decide +kernel)) rfl, zCh_4 (List.mem_of_getElem? (i := 115) (by decide +kernel)) rfl⟩
theorem lX7_183 : Cond.methodLink RX7 183 yX7_approves ∈ zT ∧ Cond.static yX7_approves ∈ zT := ⟨zCh_4 (List.mem_of_getElem? (i := 117) (by decide +kernel)) rfl, zCh_4 (List.mem_of_getElem? (i := 118) (by decide +kernel)) rfl⟩
theorem lX7_190 : Cond.methodLink RX7 190 yX4_noteChain ∈ zT ∧ Cond.instanceMethod yX4_noteChain ∈ zT ∧ Cond.selects yX4_noteChain.cls yX4_noteChain yX4_noteChain ∈ zT := ⟨zCh_4 (List.mem_of_getElem? (i := 86) (by decide +kernel)) rfl, zCh_4 (List.mem_of_getElem? (i := 87) (by decide +kernel)) rfl, zCh_4 (List.mem_of_getElem? (i := 88) (by decide +kernel)) rfl⟩
theorem lX7_194 : Cond.methodLink RX7 194 yX0_play ∈ zT ∧ Cond.instanceMethod yX0_play ∈ zT ∧ Cond.selects yX0_play.cls yX0_play yX0_play ∈ zT := ⟨zCh_4 (List.mem_of_getElem? (i := 73) (by decide +kernel)) rfl, zCh_4 (List.mem_of_getElem? (i := 74) (by decide +kernel)) rfl, zCh_4 (List.mem_of_getElem? (i := 75) (by decide +kernel)) rfl⟩
theorem lX7_198 : Cond.methodLink RX7 198 yX5_writeId ∈ zT ∧ Cond.instanceMethod yX5_writeId ∈ zT ∧ Cond.selects yX5_writeId.cls yX5_writeId yX5_writeId ∈ zT := ⟨zCh_4 (List.mem_of_getElem? (i := 90) (by decide +kernel)) rfl, zCh_4 (List.mem_of_getElem? (i := 91) (by decide +kernel)) rfl, zCh_4 (List.mem_of_getElem? (i := 92) (by decide +kernel)) rfl⟩
theorem lX7_202 : Cond.methodLink RX7 202 yX5_at ∈ zT ∧ Cond.instanceMethod yX5_at ∈ zT ∧ Cond.selects yX5_at.cls yX5_at yX5_at ∈ zT := ⟨zCh_4 (List.mem_of_getElem? (i := 94) (by decide +kernel)) rfl, zCh_3 (List.mem_of_getElem? (i := 230) (by decide +kernel)) rfl, zCh_3 (List.mem_of_getElem? (i := 231) (by decide +kernel)) rfl⟩
theorem lX7_205 : Cond.methodLink RX7 205 yX0_codeAt ∈ zT ∧ Cond.static yX0_codeAt ∈ zT := ⟨zCh_4 (List.mem_of_getElem? (i := 95) (by decide +kernel)) rfl, zCh_4 (List.mem_of_getElem? (i := 80) (by decide +kernel)) rfl⟩
theorem lX7_209 : Cond.methodLink RX7 209 yX8_removePayment ∈ zT ∧ Cond.instanceMethod yX8_removePayment ∈ zT ∧ Cond.selects yX8_removePayment.cls yX8_removePayment yX8_removePayment ∈ zT := ⟨zCh_4 (List.mem_of_getElem? (i := 96) (by decide +kernel)) rfl, zCh_4 (List.mem_of_getElem? (i := 97) (by decide +kernel)) rfl, zCh_4 (List.mem_of_getElem? (i := 98) (by decide +kernel)) rfl⟩
theorem lX7_216 : Cond.methodLink RX7 216 yX8_signers ∈ zT ∧ Cond.instanceMethod yX8_signers ∈ zT ∧ Cond.selects yX8_signers.cls yX8_signers yX8_signers ∈ zT := ⟨zCh_4 (List.mem_of_getElem? (i := 131) (by decide +kernel)) rfl, zCh_4 (List.mem_of_getElem? (i := 132) (by decide +kernel)) rfl, zCh_4 (List.mem_of_getElem? (i := 133) (by decide +kernel)) rfl⟩
theorem lX7_227 : Cond.methodLink RX7 227 yX5_isFor ∈ zT ∧ Cond.instanceMethod yX5_isFor ∈ zT ∧ Cond.selects yX5_isFor.cls yX5_isFor yX5_isFor ∈ zT := ⟨zCh_4 (List.mem_of_getElem? (i := 138) (by decide +kernel)) rfl, zCh_4 (List.mem_of_getElem? (i := 66) (by decide +kernel)) rfl, zCh_4 (List.mem_of_getElem? (i := 67) (by decide +kernel)) rfl⟩
theorem lX7_230 : Cond.methodLink RX7 230 yX6_vote ∈ zT ∧ Cond.instanceMethod yX6_vote ∈ zT ∧ Cond.selects yX6_vote.cls yX6_vote yX6_vote ∈ zT := ⟨zCh_4 (List.mem_of_getElem? (i := 139) (by decide +kernel)) rfl, zCh_4 (List.mem_of_getElem? (i := 140) (by decide +kernel)) rfl, zCh_4 (List.mem_of_getElem? (i := 141) (by decide +kernel)) rfl⟩
theorem lX7_234 : Cond.methodLink RX7 234 yX7_utter ∈ zT ∧ Cond.static yX7_utter ∈ zT := ⟨zCh_3 (List.mem_of_getElem? (i := 218) (by decide +kernel)) rfl, zCh_3 (List.mem_of_getElem? (i := 219) (by decide +kernel)) rfl⟩
theorem lX7_243 : Cond.methodLink RX7 243 yX4_jot ∈ zT ∧ Cond.instanceMethod yX4_jot ∈ zT ∧ Cond.selects yX4_jot.cls yX4_jot yX4_jot ∈ zT := ⟨zCh_3 (List.mem_of_getElem? (i := 43) (by decide +kernel)) rfl, zCh_3 (List.mem_of_getElem? (i := 44) (by decide +kernel)) rfl, zCh_3 (List.mem_of_getElem? (i := 45) (by decide +kernel)) rfl⟩
theorem lX7_247 : Cond.methodLink RX7 247 yX6_setLocked ∈ zT ∧ Cond.instanceMethod yX6_setLocked ∈ zT ∧ Cond.selects yX6_setLocked.cls yX6_setLocked yX6_setLocked ∈ zT := ⟨zCh_4 (List.mem_of_getElem? (i := 153) (by decide +kernel)) rfl, zCh_4 (List.mem_of_getElem? (i := 51) (by decide +kernel)) rfl, zCh_4 (List.mem_of_getElem? (i := 52) (by decide +kernel)) rfl⟩
theorem lX7_251 : Cond.methodLink RX7 251 yX6_setValid ∈ zT ∧ Cond.instanceMethod yX6_setValid ∈ zT ∧ Cond.selects yX6_setValid.cls yX6_setValid yX6_setValid ∈ zT := ⟨zCh_4 (List.mem_of_getElem? (i := 154) (by decide +kernel)) rfl, zCh_4 (List.mem_of_getElem? (i := 55) (by decide +kernel)) rfl, zCh_4 (List.mem_of_getElem? (i := 56) (by decide +kernel)) rfl⟩
theorem lX7_257 : Cond.methodLink RX7 257 yX8_votesInAll ∈ zT ∧ Cond.instanceMethod yX8_votesInAll ∈ zT ∧ Cond.selects yX8_votesInAll.cls yX8_votesInAll yX8_votesInAll ∈ zT := ⟨zCh_4 (List.mem_of_getElem? (i := 161) (by decide +kernel)) rfl, zCh_4 (List.mem_of_getElem? (i := 162) (by decide +kernel)) rfl, zCh_4 (List.mem_of_getElem? (i := 163) (by decide +kernel)) rfl⟩
theorem lX7_261 : Cond.methodLink RX7 261 yX6_setTimer ∈ zT ∧ Cond.instanceMethod yX6_setTimer ∈ zT ∧ Cond.selects yX6_setTimer.cls yX6_setTimer yX6_setTimer ∈ zT := ⟨zCh_3 (List.mem_of_getElem? (i := 94) (by decide +kernel)) rfl, zCh_3 (List.mem_of_getElem? (i := 95) (by decide +kernel)) rfl, zCh_3 (List.mem_of_getElem? (i := 96) (by decide +kernel)) rfl⟩
theorem lX7_267 : Cond.methodLink RX7 267 yX8_hold ∈ zT ∧ Cond.instanceMethod yX8_hold ∈ zT ∧ Cond.selects yX8_hold.cls yX8_hold yX8_hold ∈ zT := ⟨zCh_3 (List.mem_of_getElem? (i := 221) (by decide +kernel)) rfl, zCh_3 (List.mem_of_getElem? (i := 222) (by decide +kernel)) rfl, zCh_3 (List.mem_of_getElem? (i := 223) (by decide +kernel)) rfl⟩
theorem lX7_274 : Cond.methodLink RX7 274 yX10_spread ∈ zT ∧ Cond.instanceMethod yX10_spread ∈ zT ∧ Cond.selects yX10_spread.cls yX10_spread yX10_spread ∈ zT := ⟨zCh_4 (List.mem_of_getElem? (i := 2) (by decide +kernel)) rfl, zCh_4 (List.mem_of_getElem? (i := 3) (by decide +kernel)) rfl, zCh_4 (List.mem_of_getElem? (i := 4) (by decide +kernel)) rfl⟩
theorem lX7_282 : Cond.methodLink RX7 282 yX9_drop ∈ zT ∧ Cond.instanceMethod yX9_drop ∈ zT ∧ Cond.selects yX9_drop.cls yX9_drop yX9_drop ∈ zT := ⟨zCh_4 (List.mem_of_getElem? (i := 14) (by decide +kernel)) rfl, zCh_3 (List.mem_of_getElem? (i := 78) (by decide +kernel)) rfl, zCh_3 (List.mem_of_getElem? (i := 79) (by decide +kernel)) rfl⟩
theorem lX7_290 : Cond.methodLink RX7 290 yJ7_fill_53178 ∈ zT ∧ Cond.static yJ7_fill_53178 ∈ zT := ⟨zCh_3 (List.mem_of_getElem? (i := 93) (by decide +kernel)) rfl, zCh_1 (List.mem_of_getElem? (i := 140) (by decide +kernel)) rfl⟩
theorem lX7_296 : Cond.methodLink RX7 296 yX10_proposer ∈ zT ∧ Cond.instanceMethod yX10_proposer ∈ zT ∧ Cond.selects yX10_proposer.cls yX10_proposer yX10_proposer ∈ zT := ⟨zCh_3 (List.mem_of_getElem? (i := 98) (by decide +kernel)) rfl, zCh_3 (List.mem_of_getElem? (i := 99) (by decide +kernel)) rfl, zCh_3 (List.mem_of_getElem? (i := 100) (by decide +kernel)) rfl⟩
theorem lX7_302 : Cond.methodLink RX7 302 yX7_again ∈ zT ∧ Cond.static yX7_again ∈ zT := ⟨zCh_3 (List.mem_of_getElem? (i := 102) (by decide +kernel)) rfl, zCh_3 (List.mem_of_getElem? (i := 103) (by decide +kernel)) rfl⟩
theorem lX7_306 : Cond.methodLink RX7 306 yX7_build ∈ zT ∧ Cond.static yX7_build ∈ zT := ⟨zCh_3 (List.mem_of_getElem? (i := 168) (by decide +kernel)) rfl, zCh_3 (List.mem_of_getElem? (i := 169) (by decide +kernel)) rfl⟩
theorem lX7_310 : Cond.methodLink RX7 310 yX9_fresh ∈ zT ∧ Cond.instanceMethod yX9_fresh ∈ zT ∧ Cond.selects yX9_fresh.cls yX9_fresh yX9_fresh ∈ zT := ⟨zCh_3 (List.mem_of_getElem? (i := 105) (by decide +kernel)) rfl, zCh_3 (List.mem_of_getElem? (i := 106) (by decide +kernel)) rfl, zCh_3 (List.mem_of_getElem? (i := 107) (by decide +kernel)) rfl⟩
theorem lX7_314 : Cond.methodLink RX7 314 yX7_signProposal ∈ zT ∧ Cond.static yX7_signProposal ∈ zT := ⟨zCh_3 (List.mem_of_getElem? (i := 163) (by decide +kernel)) rfl, zCh_3 (List.mem_of_getElem? (i := 164) (by decide +kernel)) rfl⟩
theorem lX7_341 : Cond.methodLink RX7 341 yX0_mirror ∈ zT ∧ Cond.instanceMethod yX0_mirror ∈ zT ∧ Cond.selects yX0_mirror.cls yX0_mirror yX0_mirror ∈ zT := ⟨zCh_3 (List.mem_of_getElem? (i := 171) (by decide +kernel)) rfl, zCh_2 (List.mem_of_getElem? (i := 208) (by decide +kernel)) rfl, zCh_2 (List.mem_of_getElem? (i := 209) (by decide +kernel)) rfl⟩
theorem lX7_345 : Cond.methodLink RX7 345 yX7_addEvidences ∈ zT ∧ Cond.static yX7_addEvidences ∈ zT := ⟨zCh_3 (List.mem_of_getElem? (i := 172) (by decide +kernel)) rfl, zCh_3 (List.mem_of_getElem? (i := 173) (by decide +kernel)) rfl⟩
theorem lX7_349 : Cond.methodLink RX7 349 yX7_addPayments ∈ zT ∧ Cond.static yX7_addPayments ∈ zT := ⟨zCh_3 (List.mem_of_getElem? (i := 183) (by decide +kernel)) rfl, zCh_3 (List.mem_of_getElem? (i := 184) (by decide +kernel)) rfl⟩
theorem lX7_352 : Cond.methodLink RX7 352 yX2_plant ∈ zT ∧ Cond.instanceMethod yX2_plant ∈ zT ∧ Cond.selects yX2_plant.cls yX2_plant yX2_plant ∈ zT := ⟨zCh_3 (List.mem_of_getElem? (i := 198) (by decide +kernel)) rfl, zCh_3 (List.mem_of_getElem? (i := 199) (by decide +kernel)) rfl, zCh_3 (List.mem_of_getElem? (i := 200) (by decide +kernel)) rfl⟩
theorem lX7_357 : Cond.methodLink RX7 357 yX2_climb ∈ zT ∧ Cond.instanceMethod yX2_climb ∈ zT ∧ Cond.selects yX2_climb.cls yX2_climb yX2_climb ∈ zT := ⟨zCh_3 (List.mem_of_getElem? (i := 205) (by decide +kernel)) rfl, zCh_3 (List.mem_of_getElem? (i := 29) (by decide +kernel)) rfl, zCh_3 (List.mem_of_getElem? (i := 30) (by decide +kernel)) rfl⟩
theorem lX7_361 : Cond.methodLink RX7 361 yX2_top ∈ zT ∧ Cond.instanceMethod yX2_top ∈ zT ∧ Cond.selects yX2_top.cls yX2_top yX2_top ∈ zT := ⟨zCh_3 (List.mem_of_getElem? (i := 206) (by decide +kernel)) rfl, zCh_3 (List.mem_of_getElem? (i := 37) (by decide +kernel)) rfl, zCh_3 (List.mem_of_getElem? (i := 38) (by decide +kernel)) rfl⟩
theorem lX7_366 : Cond.methodLink RX7 366 yX2_digest ∈ zT ∧ Cond.instanceMethod yX2_digest ∈ zT ∧ Cond.selects yX2_digest.cls yX2_digest yX2_digest ∈ zT := ⟨zCh_3 (List.mem_of_getElem? (i := 207) (by decide +kernel)) rfl, zCh_3 (List.mem_of_getElem? (i := 208) (by decide +kernel)) rfl, zCh_3 (List.mem_of_getElem? (i := 209) (by decide +kernel)) rfl⟩
theorem lX7_369 : Cond.methodLink RX7 369 yX5_readId ∈ zT ∧ Cond.instanceMethod yX5_readId ∈ zT ∧ Cond.selects yX5_readId.cls yX5_readId yX5_readId ∈ zT := ⟨zCh_3 (List.mem_of_getElem? (i := 211) (by decide +kernel)) rfl, zCh_3 (List.mem_of_getElem? (i := 212) (by decide +kernel)) rfl, zCh_3 (List.mem_of_getElem? (i := 213) (by decide +kernel)) rfl⟩
theorem lX7_372 : Cond.methodLink RX7 372 yX8_proofOf ∈ zT ∧ Cond.instanceMethod yX8_proofOf ∈ zT ∧ Cond.selects yX8_proofOf.cls yX8_proofOf yX8_proofOf ∈ zT := ⟨zCh_3 (List.mem_of_getElem? (i := 175) (by decide +kernel)) rfl, zCh_3 (List.mem_of_getElem? (i := 176) (by decide +kernel)) rfl, zCh_3 (List.mem_of_getElem? (i := 177) (by decide +kernel)) rfl⟩
theorem lX7_375 : Cond.methodLink RX7 375 yX0_punish ∈ zT ∧ Cond.instanceMethod yX0_punish ∈ zT ∧ Cond.selects yX0_punish.cls yX0_punish yX0_punish ∈ zT := ⟨zCh_3 (List.mem_of_getElem? (i := 179) (by decide +kernel)) rfl, zCh_3 (List.mem_of_getElem? (i := 180) (by decide +kernel)) rfl, zCh_3 (List.mem_of_getElem? (i := 181) (by decide +kernel)) rfl⟩
theorem lX7_382 : Cond.methodLink RX7 382 yX8_paymentAt ∈ zT ∧ Cond.instanceMethod yX8_paymentAt ∈ zT ∧ Cond.selects yX8_paymentAt.cls yX8_paymentAt yX8_paymentAt ∈ zT := ⟨zCh_3 (List.mem_of_getElem? (i := 186) (by decide +kernel)) rfl, zCh_3 (List.mem_of_getElem? (i := 187) (by decide +kernel)) rfl, zCh_3 (List.mem_of_getElem? (i := 188) (by decide +kernel)) rfl⟩
theorem lX7_386 : Cond.methodLink RX7 386 yX0_pay ∈ zT ∧ Cond.instanceMethod yX0_pay ∈ zT ∧ Cond.selects yX0_pay.cls yX0_pay yX0_pay ∈ zT := ⟨zCh_3 (List.mem_of_getElem? (i := 190) (by decide +kernel)) rfl, zCh_3 (List.mem_of_getElem? (i := 191) (by decide +kernel)) rfl, zCh_3 (List.mem_of_getElem? (i := 192) (by decide +kernel)) rfl⟩
theorem lX7_390 : Cond.methodLink RX7 390 yX0_putCode ∈ zT ∧ Cond.static yX0_putCode ∈ zT := ⟨zCh_3 (List.mem_of_getElem? (i := 195) (by decide +kernel)) rfl, zCh_3 (List.mem_of_getElem? (i := 196) (by decide +kernel)) rfl⟩
theorem lX7_394 : Cond.methodLink RX7 394 yX8_verdict ∈ zT ∧ Cond.instanceMethod yX8_verdict ∈ zT ∧ Cond.selects yX8_verdict.cls yX8_verdict yX8_verdict ∈ zT := ⟨zCh_4 (List.mem_of_getElem? (i := 120) (by decide +kernel)) rfl, zCh_4 (List.mem_of_getElem? (i := 121) (by decide +kernel)) rfl, zCh_4 (List.mem_of_getElem? (i := 122) (by decide +kernel)) rfl⟩
theorem lX7_397 : Cond.methodLink RX7 397 yX8_judge ∈ zT ∧ Cond.instanceMethod yX8_judge ∈ zT ∧ Cond.selects yX8_judge.cls yX8_judge yX8_judge ∈ zT := ⟨zCh_4 (List.mem_of_getElem? (i := 124) (by decide +kernel)) rfl, zCh_4 (List.mem_of_getElem? (i := 125) (by decide +kernel)) rfl, zCh_4 (List.mem_of_getElem? (i := 126) (by decide +kernel)) rfl⟩
theorem lX7_331 : Cond.methodLinkNest RX7 331 yX11_putTwo "QuorumLedger" ∈ zN ∧ Cond.static yX11_putTwo ∈ zT := ⟨zNin 646 (by decide +kernel) rfl, zCh_2 (List.mem_of_getElem? (i := 227) (by decide +kernel)) rfl⟩
theorem lX7_401 : Cond.methodLinkNest RX7 401 yX11_sameBytes "QuorumLedger" ∈ zN ∧ Cond.static yX11_sameBytes ∈ zT := ⟨zNin 792 (by decide +kernel) rfl, zCh_4 (List.mem_of_getElem? (i := 24) (by decide +kernel)) rfl⟩
theorem fX7_12 : Cond.fieldLink RX7 12 "QuorumLedger$Node" "up" "Z" ∈ zT := zCh_2 (List.mem_of_getElem? (i := 123) (by decide +kernel)) rfl
theorem fX7_18 : Cond.fieldLink RX7 18 "QuorumLedger$Node" "height" "I" ∈ zT := zCh_2 (List.mem_of_getElem? (i := 127) (by decide +kernel)) rfl
theorem fX7_22 : Cond.fieldLink RX7 22 "QuorumLedger$Node" "book" "LQuorumLedger$Book;" ∈ zT := zCh_2 (List.mem_of_getElem? (i := 113) (by decide +kernel)) rfl
theorem fX7_26 : Cond.fieldLink RX7 26 "QuorumLedger$Node" "world" "LQuorumLedger$World;" ∈ zT := zCh_2 (List.mem_of_getElem? (i := 100) (by decide +kernel)) rfl
theorem fX7_30 : Cond.fieldLink RX7 30 "QuorumLedger$World" "hasher" "LQuorumLedger$Hasher;" ∈ zT := zCh_1 (List.mem_of_getElem? (i := 183) (by decide +kernel)) rfl
theorem fX7_36 : Cond.fieldLink RX7 36 "QuorumLedger$World" "latest" "LQuorumLedger$Book;" ∈ zT := zCh_1 (List.mem_of_getElem? (i := 195) (by decide +kernel)) rfl
theorem fX7_45 : Cond.fieldLink RX7 45 "QuorumLedger$Node" "pending" "I" ∈ zT := zCh_2 (List.mem_of_getElem? (i := 154) (by decide +kernel)) rfl
theorem fX7_80 : Cond.fieldLink RX7 80 "QuorumLedger$Node" "shelf" "LQuorumLedger$Shelf;" ∈ zT := zCh_2 (List.mem_of_getElem? (i := 110) (by decide +kernel)) rfl
theorem fX7_84 : Cond.fieldLink RX7 84 "QuorumLedger$World" "total" "I" ∈ zT := zCh_1 (List.mem_of_getElem? (i := 173) (by decide +kernel)) rfl
theorem fX7_87 : Cond.fieldLink RX7 87 "QuorumLedger$Shelf" "snapshots" "[LQuorumLedger$Message;" ∈ zT := zCh_2 (List.mem_of_getElem? (i := 59) (by decide +kernel)) rfl
theorem fX7_103 : Cond.fieldLink RX7 103 "QuorumLedger$World" "faults" "I" ∈ zT := zCh_1 (List.mem_of_getElem? (i := 170) (by decide +kernel)) rfl
theorem fX7_110 : Cond.fieldLink RX7 110 "QuorumLedger$Node" "log" "LQuorumLedger$Log;" ∈ zT := zCh_2 (List.mem_of_getElem? (i := 106) (by decide +kernel)) rfl
theorem fX7_123 : Cond.fieldLink RX7 123 "QuorumLedger$Message" "row" "[B" ∈ zT := zCh_3 (List.mem_of_getElem? (i := 117) (by decide +kernel)) rfl
theorem fX7_127 : Cond.fieldLink RX7 127 "QuorumLedger$Node" "lastId" "[B" ∈ zT := zCh_2 (List.mem_of_getElem? (i := 116) (by decide +kernel)) rfl
theorem fX7_148 : Cond.fieldLink RX7 148 "QuorumLedger$Shelf" "decisions" "I" ∈ zT := zCh_2 (List.mem_of_getElem? (i := 62) (by decide +kernel)) rfl
theorem fX7_151 : Cond.fieldLink RX7 151 "QuorumLedger$Shelf" "decided" "[LQuorumLedger$Message;" ∈ zT := zCh_2 (List.mem_of_getElem? (i := 55) (by decide +kernel)) rfl
theorem fX7_157 : Cond.fieldLink RX7 157 "QuorumLedger$Shelf" "rulings" "[I" ∈ zT := zCh_2 (List.mem_of_getElem? (i := 57) (by decide +kernel)) rfl
theorem fX7_180 : Cond.fieldLink RX7 180 "QuorumLedger$World" "quorum" "I" ∈ zT := zCh_1 (List.mem_of_getElem? (i := 179) (by decide +kernel)) rfl
theorem fX7_187 : Cond.fieldLink RX7 187 "QuorumLedger$Message" "length" "I" ∈ zT := zCh_3 (List.mem_of_getElem? (i := 128) (by decide +kernel)) rfl
theorem fX7_213 : Cond.fieldLink RX7 213 "QuorumLedger$Node" "round" "I" ∈ zT := zCh_2 (List.mem_of_getElem? (i := 131) (by decide +kernel)) rfl
theorem fX7_220 : Cond.fieldLink RX7 220 "QuorumLedger$Node" "step" "I" ∈ zT := zCh_2 (List.mem_of_getElem? (i := 134) (by decide +kernel)) rfl
theorem fX7_223 : Cond.fieldLink RX7 223 "QuorumLedger$Node" "locked" "LQuorumLedger$Message;" ∈ zT := zCh_2 (List.mem_of_getElem? (i := 143) (by decide +kernel)) rfl
theorem fX7_237 : Cond.fieldLink RX7 237 "QuorumLedger$Node" "lockedRound" "I" ∈ zT := zCh_2 (List.mem_of_getElem? (i := 137) (by decide +kernel)) rfl
theorem fX7_240 : Cond.fieldLink RX7 240 "QuorumLedger$Node" "been" "I" ∈ zT := zCh_2 (List.mem_of_getElem? (i := 149) (by decide +kernel)) rfl
theorem fX7_254 : Cond.fieldLink RX7 254 "QuorumLedger$Node" "validRound" "I" ∈ zT := zCh_2 (List.mem_of_getElem? (i := 140) (by decide +kernel)) rfl
theorem fX7_264 : Cond.fieldLink RX7 264 "QuorumLedger$Node" "sent" "I" ∈ zT := zCh_2 (List.mem_of_getElem? (i := 151) (by decide +kernel)) rfl
theorem fX7_271 : Cond.fieldLink RX7 271 "QuorumLedger$Node" "number" "I" ∈ zT := zCh_2 (List.mem_of_getElem? (i := 104) (by decide +kernel)) rfl
theorem fX7_278 : Cond.fieldLink RX7 278 "QuorumLedger$World" "sky" "LQuorumLedger$Sky;" ∈ zT := zCh_1 (List.mem_of_getElem? (i := 189) (by decide +kernel)) rfl
theorem fX7_287 : Cond.fieldLink RX7 287 "QuorumLedger$Node" "timers" "[I" ∈ zT := zCh_2 (List.mem_of_getElem? (i := 120) (by decide +kernel)) rfl
theorem fX7_299 : Cond.fieldLink RX7 299 "QuorumLedger$Node" "valid" "LQuorumLedger$Message;" ∈ zT := zCh_2 (List.mem_of_getElem? (i := 146) (by decide +kernel)) rfl
theorem fX7_318 : Cond.fieldLink RX7 318 "QuorumLedger$Message" "id" "[J" ∈ zT := zCh_3 (List.mem_of_getElem? (i := 125) (by decide +kernel)) rfl
theorem fX7_322 : Cond.fieldLink RX7 322 "QuorumLedger$Message" "named" "Z" ∈ zT := zCh_3 (List.mem_of_getElem? (i := 144) (by decide +kernel)) rfl
theorem fX7_325 : Cond.fieldLink RX7 325 "QuorumLedger$Message" "form" "I" ∈ zT := zCh_3 (List.mem_of_getElem? (i := 138) (by decide +kernel)) rfl
theorem fX7_328 : Cond.fieldLink RX7 328 "QuorumLedger$World" "desk" "[B" ∈ zT := zCh_1 (List.mem_of_getElem? (i := 198) (by decide +kernel)) rfl
theorem fX7_335 : Cond.fieldLink RX7 335 "QuorumLedger$Book" "root" "[B" ∈ zT := zCh_1 (List.mem_of_getElem? (i := 148) (by decide +kernel)) rfl
theorem fX7_338 : Cond.fieldLink RX7 338 "QuorumLedger$World" "draft" "LQuorumLedger$Book;" ∈ zT := zCh_1 (List.mem_of_getElem? (i := 193) (by decide +kernel)) rfl
theorem fX7_363 : Cond.fieldLink RX7 363 "QuorumLedger$World" "digest" "[B" ∈ zT := zCh_1 (List.mem_of_getElem? (i := 202) (by decide +kernel)) rfl
theorem fX7_379 : Cond.fieldLink RX7 379 "QuorumLedger$Shelf" "pooled" "I" ∈ zT := zCh_2 (List.mem_of_getElem? (i := 65) (by decide +kernel)) rfl
theorem nX7_11 : Cond.constant RX7 11 (1000000 : Int32) ∈ zT := zCh_2 (List.mem_of_getElem? (i := 198) (by decide +kernel)) rfl
theorem qX7_130 : Cond.methodLink RX7 130 arraycopyName ∈ zT := zCh_3 (List.mem_of_getElem? (i := 167) (by decide +kernel)) rfl

/-! QuorumLedgerModel: its methods, what they link -/
abbrev mX12_primes : zM := (yX12_primes, cX12_primes, 5, none)
abbrev dX12_primes : Nat × Nat := (2, 75)
abbrev mX12_root : zM := (yX12_root, cX12_root, 7, some .int)
abbrev dX12_root : Nat × Nat := (1, 49)
abbrev mX12_isAbove : zM := (yX12_isAbove, cX12_isAbove, 30, some .boolean)
abbrev dX12_isAbove : Nat × Nat := (0, 0)
abbrev mX12_turn : zM := (yX12_turn, cX12_turn, 2, some .int)
abbrev dX12_turn : Nat × Nat := (0, 0)
abbrev mX12_hashByte : zM := (yX12_hashByte, cX12_hashByte, 2, none)
abbrev dX12_hashByte : Nat × Nat := (0, 0)
abbrev mX12_digest : zM := (yX12_digest, cX12_digest, 3, none)
abbrev dX12_digest : Nat × Nat := (2, 53)
abbrev mX12_compress : zM := (yX12_compress, cX12_compress, 13, none)
abbrev dX12_compress : Nat × Nat := (1, 21)
abbrev mX12_sum : zM := (yX12_sum, cX12_sum, 2, some .long)
abbrev dX12_sum : Nat × Nat := (0, 0)
abbrev mX12_byteIn : zM := (yX12_byteIn, cX12_byteIn, 3, some .int)
abbrev dX12_byteIn : Nat × Nat := (0, 0)
abbrev mX12_blockByte : zM := (yX12_blockByte, cX12_blockByte, 3, some .int)
abbrev dX12_blockByte : Nat × Nat := (1, 22)
abbrev mX12_setByte : zM := (yX12_setByte, cX12_setByte, 6, none)
abbrev dX12_setByte : Nat × Nat := (0, 0)
abbrev mX12_isThere : zM := (yX12_isThere, cX12_isThere, 2, some .boolean)
abbrev dX12_isThere : Nat × Nat := (0, 0)
abbrev mX12_clear : zM := (yX12_clear, cX12_clear, 2, none)
abbrev dX12_clear : Nat × Nat := (0, 0)
abbrev mX12_copyBlock : zM := (yX12_copyBlock, cX12_copyBlock, 4, none)
abbrev dX12_copyBlock : Nat × Nat := (0, 0)
abbrev mX12_sameBlock : zM := (yX12_sameBlock, cX12_sameBlock, 5, some .boolean)
abbrev dX12_sameBlock : Nat × Nat := (1, 21)
abbrev mX12_heightOf : zM := (yX12_heightOf, cX12_heightOf, 2, some .int)
abbrev dX12_heightOf : Nat × Nat := (2, 44)
abbrev mX12_makerOf : zM := (yX12_makerOf, cX12_makerOf, 2, some .int)
abbrev dX12_makerOf : Nat × Nat := (2, 44)
abbrev mX12_paymentsOf : zM := (yX12_paymentsOf, cX12_paymentsOf, 2, some .int)
abbrev dX12_paymentsOf : Nat × Nat := (2, 44)
abbrev mX12_proofsOf : zM := (yX12_proofsOf, cX12_proofsOf, 2, some .int)
abbrev dX12_proofsOf : Nat × Nat := (2, 44)
abbrev mX12_identify : zM := (yX12_identify, cX12_identify, 3, none)
abbrev dX12_identify : Nat × Nat := (3, 75)
abbrev mX12_proofBytes : zM := (yX12_proofBytes, cX12_proofBytes, 3, some .int)
abbrev dX12_proofBytes : Nat × Nat := (2, 44)
abbrev mX12_noParts : zM := (yX12_noParts, cX12_noParts, 1, none)
abbrev dX12_noParts : Nat × Nat := (0, 0)
abbrev mX12_partByte : zM := (yX12_partByte, cX12_partByte, 2, none)
abbrev dX12_partByte : Nat × Nat := (0, 0)
abbrev mX12_endPart : zM := (yX12_endPart, cX12_endPart, 1, none)
abbrev dX12_endPart : Nat × Nat := (0, 0)
abbrev mX12_partFrom : zM := (yX12_partFrom, cX12_partFrom, 2, some .int)
abbrev dX12_partFrom : Nat × Nat := (0, 0)
abbrev mX12_keepLeaf : zM := (yX12_keepLeaf, cX12_keepLeaf, 3, none)
abbrev dX12_keepLeaf : Nat × Nat := (3, 75)
abbrev mX12_leavesOf : zM := (yX12_leavesOf, cX12_leavesOf, 3, none)
abbrev dX12_leavesOf : Nat × Nat := (4, 97)
abbrev mX12_join : zM := (yX12_join, cX12_join, 4, some .int)
abbrev dX12_join : Nat × Nat := (4, 97)
abbrev mX12_root_ : zM := (yX12_root_, cX12_root_, 2, none)
abbrev dX12_root_ : Nat × Nat := (5, 120)
abbrev mX12_rootByte : zM := (yX12_rootByte, cX12_rootByte, 2, some .int)
abbrev dX12_rootByte : Nat × Nat := (1, 22)
abbrev mX12_tell : zM := (yX12_tell, cX12_tell, 2, none)
abbrev dX12_tell : Nat × Nat := (0, 0)
abbrev mX12_path : zM := (yX12_path, cX12_path, 7, none)
abbrev dX12_path : Nat × Nat := (5, 120)
abbrev mX12_told : zM := (yX12_told, cX12_told, 5, some .long)
abbrev dX12_told : Nat × Nat := (0, 0)
abbrev mX12_partsOf : zM := (yX12_partsOf, cX12_partsOf, 6, none)
abbrev dX12_partsOf : Nat × Nat := (3, 66)
abbrev mX12_lay : zM := (yX12_lay, cX12_lay, 3, none)
abbrev dX12_lay : Nat × Nat := (0, 0)
abbrev mX12_feed : zM := (yX12_feed, cX12_feed, 6, some .boolean)
abbrev dX12_feed : Nat × Nat := (1, 22)
abbrev mX12_endOnTape : zM := (yX12_endOnTape, cX12_endOnTape, 5, some .int)
abbrev dX12_endOnTape : Nat × Nat := (0, 0)
abbrev mX12_proofOnTape : zM := (yX12_proofOnTape, cX12_proofOnTape, 5, some .int)
abbrev dX12_proofOnTape : Nat × Nat := (1, 24)
abbrev mX12_partOnTape : zM := (yX12_partOnTape, cX12_partOnTape, 4, none)
abbrev dX12_partOnTape : Nat × Nat := (1, 21)
abbrev mX12_seal : zM := (yX12_seal, cX12_seal, 8, some .int)
abbrev dX12_seal : Nat × Nat := (7, 161)
abbrev mX12_stamp : zM := (yX12_stamp, cX12_stamp, 7, some .boolean)
abbrev dX12_stamp : Nat × Nat := (3, 75)
abbrev mX12_hash : zM := (yX12_hash, cX12_hash, 4, some .long)
abbrev dX12_hash : Nat × Nat := (3, 75)
abbrev mX12_proof : zM := (yX12_proof, cX12_proof, 7, some .boolean)
abbrev dX12_proof : Nat × Nat := (4, 97)
abbrev mX12_flyByte : zM := (yX12_flyByte, cX12_flyByte, 3, some .int)
abbrev dX12_flyByte : Nat × Nat := (1, 22)
abbrev mX12_isFlying : zM := (yX12_isFlying, cX12_isFlying, 2, some .boolean)
abbrev dX12_isFlying : Nat × Nat := (0, 0)
abbrev mX12_fly : zM := (yX12_fly, cX12_fly, 8, some .boolean)
abbrev dX12_fly : Nat × Nat := (1, 21)
abbrev mX12_takeSlot : zM := (yX12_takeSlot, cX12_takeSlot, 2, some .int)
abbrev dX12_takeSlot : Nat × Nat := (0, 0)
abbrev mX12_flyAll : zM := (yX12_flyAll, cX12_flyAll, 3, none)
abbrev dX12_flyAll : Nat × Nat := (2, 48)
abbrev mX12_sendOn : zM := (yX12_sendOn, cX12_sendOn, 5, none)
abbrev dX12_sendOn : Nat × Nat := (2, 48)
abbrev mX12_load : zM := (yX12_load, cX12_load, 3, none)
abbrev dX12_load : Nat × Nat := (2, 44)
abbrev mX12_write : zM := (yX12_write, cX12_write, 2, none)
abbrev dX12_write : Nat × Nat := (0, 0)
abbrev mX12_writeTwo : zM := (yX12_writeTwo, cX12_writeTwo, 2, none)
abbrev dX12_writeTwo : Nat × Nat := (1, 21)
abbrev mX12_writeBlock : zM := (yX12_writeBlock, cX12_writeBlock, 3, none)
abbrev dX12_writeBlock : Nat × Nat := (2, 44)
abbrev mX12_writeHead : zM := (yX12_writeHead, cX12_writeHead, 5, none)
abbrev dX12_writeHead : Nat × Nat := (2, 42)
abbrev mX12_isPaymentAt : zM := (yX12_isPaymentAt, cX12_isPaymentAt, 3, some .boolean)
abbrev dX12_isPaymentAt : Nat × Nat := (0, 0)
abbrev mX12_heightAt : zM := (yX12_heightAt, cX12_heightAt, 3, some .int)
abbrev dX12_heightAt : Nat × Nat := (0, 0)
abbrev mX12_endAt : zM := (yX12_endAt, cX12_endAt, 3, some .int)
abbrev dX12_endAt : Nat × Nat := (0, 0)
abbrev mX12_isLess : zM := (yX12_isLess, cX12_isLess, 4, some .boolean)
abbrev dX12_isLess : Nat × Nat := (0, 0)
abbrev mX12_evidenceAt : zM := (yX12_evidenceAt, cX12_evidenceAt, 5, some .int)
abbrev dX12_evidenceAt : Nat × Nat := (1, 23)
abbrev mX12_part : zM := (yX12_part, cX12_part, 4, none)
abbrev dX12_part : Nat × Nat := (1, 21)
abbrev mX12_readBlock : zM := (yX12_readBlock, cX12_readBlock, 5, some .boolean)
abbrev dX12_readBlock : Nat × Nat := (6, 141)
abbrev mX12_readVote : zM := (yX12_readVote, cX12_readVote, 5, some .boolean)
abbrev dX12_readVote : Nat × Nat := (1, 22)
abbrev mX12_readProposal : zM := (yX12_readProposal, cX12_readProposal, 1, some .boolean)
abbrev dX12_readProposal : Nat × Nat := (7, 165)
abbrev mX12_readSnapshot : zM := (yX12_readSnapshot, cX12_readSnapshot, 3, some .boolean)
abbrev dX12_readSnapshot : Nat × Nat := (1, 22)
abbrev mX12_read : zM := (yX12_read, cX12_read, 1, some .boolean)
abbrev dX12_read : Nat × Nat := (8, 185)
abbrev mX12_tellsHonest : zM := (yX12_tellsHonest, cX12_tellsHonest, 4, some .boolean)
abbrev dX12_tellsHonest : Nat × Nat := (3, 66)
abbrev mX12_init : zM := (yX12_init, cX12_init, 5, none)
abbrev dX12_init : Nat × Nat := (13, 307)
abbrev mX12_isHonest : zM := (yX12_isHonest, cX12_isHonest, 2, some .boolean)
abbrev dX12_isHonest : Nat × Nat := (0, 0)
abbrev mX12_isUp : zM := (yX12_isUp, cX12_isUp, 2, some .boolean)
abbrev dX12_isUp : Nat × Nat := (1, 21)
abbrev mX12_unlock : zM := (yX12_unlock, cX12_unlock, 2, none)
abbrev dX12_unlock : Nat × Nat := (1, 21)
abbrev mX12_noTimers : zM := (yX12_noTimers, cX12_noTimers, 3, none)
abbrev dX12_noTimers : Nat × Nat := (0, 0)
abbrev mX12_heldAt : zM := (yX12_heldAt, cX12_heldAt, 3, some .int)
abbrev dX12_heldAt : Nat × Nat := (0, 0)
abbrev mX12_voteAt : zM := (yX12_voteAt, cX12_voteAt, 5, some .int)
abbrev dX12_voteAt : Nat × Nat := (1, 22)
abbrev mX12_forgetHeight : zM := (yX12_forgetHeight, cX12_forgetHeight, 5, none)
abbrev dX12_forgetHeight : Nat × Nat := (2, 46)
abbrev mX12_forgetSaid : zM := (yX12_forgetSaid, cX12_forgetSaid, 3, none)
abbrev dX12_forgetSaid : Nat × Nat := (1, 21)
abbrev mX12_proposer : zM := (yX12_proposer, cX12_proposer, 3, some .int)
abbrev dX12_proposer : Nat × Nat := (0, 0)
abbrev mX12_fall : zM := (yX12_fall, cX12_fall, 3, none)
abbrev dX12_fall : Nat × Nat := (3, 70)
abbrev mX12_noteByte : zM := (yX12_noteByte, cX12_noteByte, 2, none)
abbrev dX12_noteByte : Nat × Nat := (0, 0)
abbrev mX12_openNote : zM := (yX12_openNote, cX12_openNote, 5, none)
abbrev dX12_openNote : Nat × Nat := (1, 21)
abbrev mX12_noteBlock : zM := (yX12_noteBlock, cX12_noteBlock, 3, none)
abbrev dX12_noteBlock : Nat × Nat := (2, 44)
abbrev mX12_setSectorByte : zM := (yX12_setSectorByte, cX12_setSectorByte, 6, none)
abbrev dX12_setSectorByte : Nat × Nat := (0, 0)
abbrev mX12_closeNote : zM := (yX12_closeNote, cX12_closeNote, 10, some .boolean)
abbrev dX12_closeNote : Nat × Nat := (4, 92)
abbrev mX12_openOwn : zM := (yX12_openOwn, cX12_openOwn, 3, none)
abbrev dX12_openOwn : Nat × Nat := (2, 45)
abbrev mX12_closeOwn : zM := (yX12_closeOwn, cX12_closeOwn, 3, some .boolean)
abbrev dX12_closeOwn : Nat × Nat := (5, 121)
abbrev mX12_noteRound : zM := (yX12_noteRound, cX12_noteRound, 3, some .boolean)
abbrev dX12_noteRound : Nat × Nat := (6, 143)
abbrev mX12_noteSent : zM := (yX12_noteSent, cX12_noteSent, 4, some .boolean)
abbrev dX12_noteSent : Nat × Nat := (6, 143)
abbrev mX12_noteLock : zM := (yX12_noteLock, cX12_noteLock, 4, some .boolean)
abbrev dX12_noteLock : Nat × Nat := (6, 143)
abbrev mX12_noteChain : zM := (yX12_noteChain, cX12_noteChain, 3, some .boolean)
abbrev dX12_noteChain : Nat × Nat := (5, 121)
abbrev mX12_noteSnap : zM := (yX12_noteSnap, cX12_noteSnap, 4, some .boolean)
abbrev dX12_noteSnap : Nat × Nat := (5, 121)
abbrev mX12_setVote : zM := (yX12_setVote, cX12_setVote, 11, none)
abbrev dX12_setVote : Nat × Nat := (0, 0)
abbrev mX12_count0 : zM := (yX12_count0, cX12_count0, 10, some .int)
abbrev dX12_count0 : Nat × Nat := (2, 46)
abbrev mX12_quorum : zM := (yX12_quorum, cX12_quorum, 1, some .int)
abbrev dX12_quorum : Nat × Nat := (0, 0)
abbrev mX12_holdLogged : zM := (yX12_holdLogged, cX12_holdLogged, 6, none)
abbrev dX12_holdLogged : Nat × Nat := (2, 46)
abbrev mX12_sendLogged : zM := (yX12_sendLogged, cX12_sendLogged, 3, none)
abbrev dX12_sendLogged : Nat × Nat := (3, 71)
abbrev mX12_writeProposal : zM := (yX12_writeProposal, cX12_writeProposal, 6, none)
abbrev dX12_writeProposal : Nat × Nat := (3, 66)
abbrev mX12_writeId : zM := (yX12_writeId, cX12_writeId, 10, none)
abbrev dX12_writeId : Nat × Nat := (1, 22)
abbrev mX12_propose : zM := (yX12_propose, cX12_propose, 5, some .boolean)
abbrev dX12_propose : Nat × Nat := (7, 166)
abbrev mX12_vote : zM := (yX12_vote, cX12_vote, 7, some .boolean)
abbrev dX12_vote : Nat × Nat := (7, 166)
abbrev mX12_pay : zM := (yX12_pay, cX12_pay, 7, some .boolean)
abbrev dX12_pay : Nat × Nat := (0, 0)
abbrev mX12_fine : zM := (yX12_fine, cX12_fine, 4, some .boolean)
abbrev dX12_fine : Nat × Nat := (0, 0)
abbrev mX12_doParts : zM := (yX12_doParts, cX12_doParts, 5, some .boolean)
abbrev dX12_doParts : Nat × Nat := (3, 66)
abbrev mX12_reckon : zM := (yX12_reckon, cX12_reckon, 3, none)
abbrev dX12_reckon : Nat × Nat := (4, 90)
abbrev mX12_statePart : zM := (yX12_statePart, cX12_statePart, 2, none)
abbrev dX12_statePart : Nat × Nat := (1, 21)
abbrev mX12_accountParts : zM := (yX12_accountParts, cX12_accountParts, 2, none)
abbrev dX12_accountParts : Nat × Nat := (2, 42)
abbrev mX12_accountsRoot : zM := (yX12_accountsRoot, cX12_accountsRoot, 1, none)
abbrev dX12_accountsRoot : Nat × Nat := (6, 141)
abbrev mX12_lastByte : zM := (yX12_lastByte, cX12_lastByte, 3, some .int)
abbrev dX12_lastByte : Nat × Nat := (1, 22)
abbrev mX12_isValid : zM := (yX12_isValid, cX12_isValid, 5, some .boolean)
abbrev dX12_isValid : Nat × Nat := (7, 161)
abbrev mX12_isPoolAt : zM := (yX12_isPoolAt, cX12_isPoolAt, 7, some .boolean)
abbrev dX12_isPoolAt : Nat × Nat := (0, 0)
abbrev mX12_toPool : zM := (yX12_toPool, cX12_toPool, 9, some .boolean)
abbrev dX12_toPool : Nat × Nat := (1, 26)
abbrev mX12_isIn : zM := (yX12_isIn, cX12_isIn, 8, some .boolean)
abbrev dX12_isIn : Nat × Nat := (3, 65)
abbrev mX12_fromPool : zM := (yX12_fromPool, cX12_fromPool, 7, none)
abbrev dX12_fromPool : Nat × Nat := (4, 92)
abbrev mX12_build : zM := (yX12_build, cX12_build, 8, none)
abbrev dX12_build : Nat × Nat := (7, 161)
abbrev mX12_setTimer : zM := (yX12_setTimer, cX12_setTimer, 3, none)
abbrev dX12_setTimer : Nat × Nat := (0, 0)
abbrev mX12_notBeen : zM := (yX12_notBeen, cX12_notBeen, 2, none)
abbrev dX12_notBeen : Nat × Nat := (0, 0)
abbrev mX12_begin : zM := (yX12_begin, cX12_begin, 3, none)
abbrev dX12_begin : Nat × Nat := (8, 190)
abbrev mX12_snapshot : zM := (yX12_snapshot, cX12_snapshot, 6, some .int)
abbrev dX12_snapshot : Nat × Nat := (1, 24)
abbrev mX12_isSameSnap : zM := (yX12_isSameSnap, cX12_isSameSnap, 5, some .boolean)
abbrev dX12_isSameSnap : Nat × Nat := (0, 0)
abbrev mX12_take : zM := (yX12_take, cX12_take, 7, none)
abbrev dX12_take : Nat × Nat := (10, 234)
abbrev mX12_rise : zM := (yX12_rise, cX12_rise, 3, none)
abbrev dX12_rise : Nat × Nat := (9, 212)
abbrev mX12_decision : zM := (yX12_decision, cX12_decision, 6, some .int)
abbrev dX12_decision : Nat × Nat := (8, 185)
abbrev mX12_decide : zM := (yX12_decide, cX12_decide, 3, none)
abbrev dX12_decide : Nat × Nat := (10, 234)
abbrev mX12_ahead : zM := (yX12_ahead, cX12_ahead, 6, some .int)
abbrev dX12_ahead : Nat × Nat := (2, 46)
abbrev mX12_rule : zM := (yX12_rule, cX12_rule, 6, some .boolean)
abbrev dX12_rule : Nat × Nat := (11, 260)
abbrev mX12_rule8 : zM := (yX12_rule8, cX12_rule8, 2, some .boolean)
abbrev dX12_rule8 : Nat × Nat := (3, 75)
abbrev mX12_rule5 : zM := (yX12_rule5, cX12_rule5, 3, some .boolean)
abbrev dX12_rule5 : Nat × Nat := (8, 192)
abbrev mX12_mayVote : zM := (yX12_mayVote, cX12_mayVote, 4, some .boolean)
abbrev dX12_mayVote : Nat × Nat := (3, 75)
abbrev mX12_prevote : zM := (yX12_prevote, cX12_prevote, 6, some .boolean)
abbrev dX12_prevote : Nat × Nat := (8, 192)
abbrev mX12_rules : zM := (yX12_rules, cX12_rules, 3, none)
abbrev dX12_rules : Nat × Nat := (12, 285)
abbrev mX12_come : zM := (yX12_come, cX12_come, 3, none)
abbrev dX12_come : Nat × Nat := (13, 307)
abbrev mX12_keepProof : zM := (yX12_keepProof, cX12_keepProof, 4, some .boolean)
abbrev dX12_keepProof : Nat × Nat := (0, 0)
abbrev mX12_keepSnap : zM := (yX12_keepSnap, cX12_keepSnap, 3, none)
abbrev dX12_keepSnap : Nat × Nat := (0, 0)
abbrev mX12_answer : zM := (yX12_answer, cX12_answer, 6, none)
abbrev dX12_answer : Nat × Nat := (5, 112)
abbrev mX12_answerHeld : zM := (yX12_answerHeld, cX12_answerHeld, 10, none)
abbrev dX12_answerHeld : Nat × Nat := (4, 91)
abbrev mX12_writeAsk : zM := (yX12_writeAsk, cX12_writeAsk, 2, none)
abbrev dX12_writeAsk : Nat × Nat := (2, 42)
abbrev mX12_ask : zM := (yX12_ask, cX12_ask, 4, none)
abbrev dX12_ask : Nat × Nat := (3, 63)
abbrev mX12_arrive : zM := (yX12_arrive, cX12_arrive, 3, none)
abbrev dX12_arrive : Nat × Nat := (5, 120)
abbrev mX12_arriveProposal : zM := (yX12_arriveProposal, cX12_arriveProposal, 5, none)
abbrev dX12_arriveProposal : Nat × Nat := (4, 95)
abbrev mX12_arriveVote : zM := (yX12_arriveVote, cX12_arriveVote, 6, none)
abbrev dX12_arriveVote : Nat × Nat := (4, 95)
abbrev mX12_isLessId : zM := (yX12_isLessId, cX12_isLessId, 2, some .boolean)
abbrev dX12_isLessId : Nat × Nat := (0, 0)
abbrev mX12_evidence : zM := (yX12_evidence, cX12_evidence, 6, none)
abbrev dX12_evidence : Nat × Nat := (3, 70)
abbrev mX12_mayLie : zM := (yX12_mayLie, cX12_mayLie, 3, some .boolean)
abbrev dX12_mayLie : Nat × Nat := (1, 21)
abbrev mX12_lie : zM := (yX12_lie, cX12_lie, 5, some .boolean)
abbrev dX12_lie : Nat × Nat := (9, 205)
abbrev mX12_pass : zM := (yX12_pass, cX12_pass, 4, some .boolean)
abbrev dX12_pass : Nat × Nat := (3, 66)
abbrev mX12_submit : zM := (yX12_submit, cX12_submit, 8, some .boolean)
abbrev dX12_submit : Nat × Nat := (3, 70)
abbrev mX12_deliver : zM := (yX12_deliver, cX12_deliver, 5, some .int)
abbrev dX12_deliver : Nat × Nat := (14, 329)
abbrev mX12_calm : zM := (yX12_calm, cX12_calm, 5, some .int)
abbrev dX12_calm : Nat × Nat := (15, 353)
abbrev mX12_copy : zM := (yX12_copy, cX12_copy, 5, some .boolean)
abbrev dX12_copy : Nat × Nat := (1, 21)
abbrev mX12_flying : zM := (yX12_flying, cX12_flying, 3, some .int)
abbrev dX12_flying : Nat × Nat := (1, 21)
abbrev mX12_bytes : zM := (yX12_bytes, cX12_bytes, 7, some .long)
abbrev dX12_bytes : Nat × Nat := (2, 44)
abbrev mX12_tick : zM := (yX12_tick, cX12_tick, 4, some .int)
abbrev dX12_tick : Nat × Nat := (13, 307)
abbrev mX12_end : zM := (yX12_end, cX12_end, 3, none)
abbrev dX12_end : Nat × Nat := (9, 212)
abbrev mX12_crash : zM := (yX12_crash, cX12_crash, 2, some .boolean)
abbrev dX12_crash : Nat × Nat := (4, 92)
abbrev mX12_cut : zM := (yX12_cut, cX12_cut, 3, some .boolean)
abbrev dX12_cut : Nat × Nat := (1, 21)
abbrev mX12_restart : zM := (yX12_restart, cX12_restart, 3, some .boolean)
abbrev dX12_restart : Nat × Nat := (13, 307)
abbrev mX12_state : zM := (yX12_state, cX12_state, 5, some .int)
abbrev dX12_state : Nat × Nat := (1, 21)
abbrev mX12_block : zM := (yX12_block, cX12_block, 8, some .long)
abbrev dX12_block : Nat × Nat := (2, 44)
abbrev mX12_paid : zM := (yX12_paid, cX12_paid, 3, some .int)
abbrev dX12_paid : Nat × Nat := (5, 112)
abbrev mX12_path_ : zM := (yX12_path_, cX12_path_, 5, some .long)
abbrev dX12_path_ : Nat × Nat := (6, 146)
abbrev mX12_account : zM := (yX12_account, cX12_account, 5, some .long)
abbrev dX12_account : Nat × Nat := (6, 146)
abbrev mX12_sector : zM := (yX12_sector, cX12_sector, 7, some .long)
abbrev dX12_sector : Nat × Nat := (1, 22)
abbrev mX12_balance : zM := (yX12_balance, cX12_balance, 3, some .int)
abbrev dX12_balance : Nat × Nat := (5, 112)
abbrev mX12_count : zM := (yX12_count, cX12_count, 2, some .int)
abbrev dX12_count : Nat × Nat := (0, 0)
set_option maxRecDepth 20000 in
theorem kX12_primes : zLc mX12_primes 0 := ⟨zCh_6 (List.mem_of_getElem? (i := 227) rfl) rfl, zCh_1 (List.mem_of_getElem? (i := 15) (by decide +kernel)) rfl, by decide, by decide, by decide +kernel⟩
set_option maxRecDepth 20000 in
theorem kX12_root : zLc mX12_root 2 := ⟨zCh_6 (List.mem_of_getElem? (i := 230) rfl) rfl, zCh_1 (List.mem_of_getElem? (i := 15) (by decide +kernel)) rfl, by decide, by decide, by decide +kernel⟩
set_option maxRecDepth 20000 in
theorem kX12_isAbove : zLc mX12_isAbove 3 := ⟨zCh_6 (List.mem_of_getElem? (i := 233) rfl) rfl, zCh_1 (List.mem_of_getElem? (i := 15) (by decide +kernel)) rfl, by decide, by decide, by decide +kernel⟩
set_option maxRecDepth 20000 in
theorem kX12_turn : zLc mX12_turn 2 := ⟨zCh_6 (List.mem_of_getElem? (i := 123) rfl) rfl, zCh_1 (List.mem_of_getElem? (i := 15) (by decide +kernel)) rfl, by decide, by decide, by decide +kernel⟩
set_option maxRecDepth 20000 in
theorem kX12_hashByte : zLc mX12_hashByte 1 := ⟨zCh_6 (List.mem_of_getElem? (i := 104) rfl) rfl, zCh_1 (List.mem_of_getElem? (i := 15) (by decide +kernel)) rfl, by decide, by decide, by decide +kernel⟩
set_option maxRecDepth 20000 in
theorem kX12_digest : zLc mX12_digest 0 := ⟨zCh_6 (List.mem_of_getElem? (i := 116) rfl) rfl, zCh_1 (List.mem_of_getElem? (i := 15) (by decide +kernel)) rfl, by decide, by decide, by decide +kernel⟩
set_option maxRecDepth 20000 in
theorem kX12_compress : zLc mX12_compress 1 := ⟨zCh_6 (List.mem_of_getElem? (i := 120) rfl) rfl, zCh_1 (List.mem_of_getElem? (i := 15) (by decide +kernel)) rfl, by decide, by decide, by decide +kernel⟩
set_option maxRecDepth 20000 in
theorem kX12_sum : zLc mX12_sum 1 := ⟨zCh_6 (List.mem_of_getElem? (i := 127) rfl) rfl, zCh_1 (List.mem_of_getElem? (i := 15) (by decide +kernel)) rfl, by decide, by decide, by decide +kernel⟩
set_option maxRecDepth 20000 in
theorem kX12_byteIn : zLc mX12_byteIn 2 := ⟨zCh_6 (List.mem_of_getElem? (i := 135) rfl) rfl, zCh_1 (List.mem_of_getElem? (i := 15) (by decide +kernel)) rfl, by decide, by decide, by decide +kernel⟩
set_option maxRecDepth 20000 in
theorem kX12_blockByte : zLc mX12_blockByte 2 := ⟨zCh_6 (List.mem_of_getElem? (i := 163) rfl) rfl, zCh_1 (List.mem_of_getElem? (i := 15) (by decide +kernel)) rfl, by decide, by decide, by decide +kernel⟩
set_option maxRecDepth 20000 in
theorem kX12_setByte : zLc mX12_setByte 3 := ⟨zCh_7 (List.mem_of_getElem? (i := 138) rfl) rfl, zCh_1 (List.mem_of_getElem? (i := 15) (by decide +kernel)) rfl, by decide, by decide, by decide +kernel⟩
set_option maxRecDepth 20000 in
theorem kX12_isThere : zLc mX12_isThere 1 := ⟨zCh_7 (List.mem_of_getElem? (i := 74) rfl) rfl, zCh_1 (List.mem_of_getElem? (i := 15) (by decide +kernel)) rfl, by decide, by decide, by decide +kernel⟩
set_option maxRecDepth 20000 in
theorem kX12_clear : zLc mX12_clear 1 := ⟨zCh_7 (List.mem_of_getElem? (i := 2) rfl) rfl, zCh_1 (List.mem_of_getElem? (i := 15) (by decide +kernel)) rfl, by decide, by decide, by decide +kernel⟩
set_option maxRecDepth 20000 in
theorem kX12_copyBlock : zLc mX12_copyBlock 2 := ⟨zCh_7 (List.mem_of_getElem? (i := 106) rfl) rfl, zCh_1 (List.mem_of_getElem? (i := 15) (by decide +kernel)) rfl, by decide, by decide, by decide +kernel⟩
set_option maxRecDepth 20000 in
theorem kX12_sameBlock : zLc mX12_sameBlock 2 := ⟨zCh_7 (List.mem_of_getElem? (i := 178) rfl) rfl, zCh_1 (List.mem_of_getElem? (i := 15) (by decide +kernel)) rfl, by decide, by decide, by decide +kernel⟩
set_option maxRecDepth 20000 in
theorem kX12_heightOf : zLc mX12_heightOf 1 := ⟨zCh_7 (List.mem_of_getElem? (i := 186) rfl) rfl, zCh_1 (List.mem_of_getElem? (i := 15) (by decide +kernel)) rfl, by decide, by decide, by decide +kernel⟩
set_option maxRecDepth 20000 in
theorem kX12_makerOf : zLc mX12_makerOf 1 := ⟨zCh_6 (List.mem_of_getElem? (i := 167) rfl) rfl, zCh_1 (List.mem_of_getElem? (i := 15) (by decide +kernel)) rfl, by decide, by decide, by decide +kernel⟩
set_option maxRecDepth 20000 in
theorem kX12_paymentsOf : zLc mX12_paymentsOf 1 := ⟨zCh_6 (List.mem_of_getElem? (i := 179) rfl) rfl, zCh_1 (List.mem_of_getElem? (i := 15) (by decide +kernel)) rfl, by decide, by decide, by decide +kernel⟩
set_option maxRecDepth 20000 in
theorem kX12_proofsOf : zLc mX12_proofsOf 1 := ⟨zCh_6 (List.mem_of_getElem? (i := 159) rfl) rfl, zCh_1 (List.mem_of_getElem? (i := 15) (by decide +kernel)) rfl, by decide, by decide, by decide +kernel⟩
set_option maxRecDepth 20000 in
theorem kX12_identify : zLc mX12_identify 1 := ⟨zCh_7 (List.mem_of_getElem? (i := 142) rfl) rfl, zCh_1 (List.mem_of_getElem? (i := 15) (by decide +kernel)) rfl, by decide, by decide, by decide +kernel⟩
set_option maxRecDepth 20000 in
theorem kX12_proofBytes : zLc mX12_proofBytes 2 := ⟨zCh_6 (List.mem_of_getElem? (i := 175) rfl) rfl, zCh_1 (List.mem_of_getElem? (i := 15) (by decide +kernel)) rfl, by decide, by decide, by decide +kernel⟩
set_option maxRecDepth 20000 in
theorem kX12_noParts : zLc mX12_noParts 0 := ⟨zCh_6 (List.mem_of_getElem? (i := 72) rfl) rfl, zCh_1 (List.mem_of_getElem? (i := 15) (by decide +kernel)) rfl, by decide, by decide, by decide +kernel⟩
set_option maxRecDepth 20000 in
theorem kX12_partByte : zLc mX12_partByte 1 := ⟨zCh_6 (List.mem_of_getElem? (i := 88) rfl) rfl, zCh_1 (List.mem_of_getElem? (i := 15) (by decide +kernel)) rfl, by decide, by decide, by decide +kernel⟩
set_option maxRecDepth 20000 in
theorem kX12_endPart : zLc mX12_endPart 0 := ⟨zCh_6 (List.mem_of_getElem? (i := 92) rfl) rfl, zCh_1 (List.mem_of_getElem? (i := 15) (by decide +kernel)) rfl, by decide, by decide, by decide +kernel⟩
set_option maxRecDepth 20000 in
theorem kX12_partFrom : zLc mX12_partFrom 1 := ⟨zCh_6 (List.mem_of_getElem? (i := 108) rfl) rfl, zCh_1 (List.mem_of_getElem? (i := 15) (by decide +kernel)) rfl, by decide, by decide, by decide +kernel⟩
set_option maxRecDepth 20000 in
theorem kX12_keepLeaf : zLc mX12_keepLeaf 1 := ⟨zCh_6 (List.mem_of_getElem? (i := 112) rfl) rfl, zCh_1 (List.mem_of_getElem? (i := 15) (by decide +kernel)) rfl, by decide, by decide, by decide +kernel⟩
set_option maxRecDepth 20000 in
theorem kX12_leavesOf : zLc mX12_leavesOf 0 := ⟨zCh_6 (List.mem_of_getElem? (i := 100) rfl) rfl, zCh_1 (List.mem_of_getElem? (i := 15) (by decide +kernel)) rfl, by decide, by decide, by decide +kernel⟩
set_option maxRecDepth 20000 in
theorem kX12_join : zLc mX12_join 1 := ⟨zCh_6 (List.mem_of_getElem? (i := 132) rfl) rfl, zCh_1 (List.mem_of_getElem? (i := 15) (by decide +kernel)) rfl, by decide, by decide, by decide +kernel⟩
set_option maxRecDepth 20000 in
theorem kX12_root_ : zLc mX12_root_ 0 := ⟨zCh_6 (List.mem_of_getElem? (i := 96) rfl) rfl, zCh_1 (List.mem_of_getElem? (i := 15) (by decide +kernel)) rfl, by decide, by decide, by decide +kernel⟩
set_option maxRecDepth 20000 in
theorem kX12_rootByte : zLc mX12_rootByte 1 := ⟨zCh_6 (List.mem_of_getElem? (i := 139) rfl) rfl, zCh_1 (List.mem_of_getElem? (i := 15) (by decide +kernel)) rfl, by decide, by decide, by decide +kernel⟩
set_option maxRecDepth 20000 in
theorem kX12_tell : zLc mX12_tell 1 := ⟨zCh_9 (List.mem_of_getElem? (i := 238) rfl) rfl, zCh_1 (List.mem_of_getElem? (i := 15) (by decide +kernel)) rfl, by decide, by decide, by decide +kernel⟩
set_option maxRecDepth 20000 in
theorem kX12_path : zLc mX12_path 1 := ⟨zCh_9 (List.mem_of_getElem? (i := 234) rfl) rfl, zCh_1 (List.mem_of_getElem? (i := 15) (by decide +kernel)) rfl, by decide, by decide, by decide +kernel⟩
set_option maxRecDepth 20000 in
theorem kX12_told : zLc mX12_told 1 := ⟨zCh_10 (List.mem_of_getElem? (i := 2) rfl) rfl, zCh_1 (List.mem_of_getElem? (i := 15) (by decide +kernel)) rfl, by decide, by decide, by decide +kernel⟩
set_option maxRecDepth 20000 in
theorem kX12_partsOf : zLc mX12_partsOf 1 := ⟨zCh_9 (List.mem_of_getElem? (i := 230) rfl) rfl, zCh_1 (List.mem_of_getElem? (i := 15) (by decide +kernel)) rfl, by decide, by decide, by decide +kernel⟩
set_option maxRecDepth 20000 in
theorem kX12_lay : zLc mX12_lay 1 := ⟨zCh_6 (List.mem_of_getElem? (i := 64) rfl) rfl, zCh_1 (List.mem_of_getElem? (i := 15) (by decide +kernel)) rfl, by decide, by decide, by decide +kernel⟩
set_option maxRecDepth 20000 in
theorem kX12_feed : zLc mX12_feed 5 := ⟨zCh_6 (List.mem_of_getElem? (i := 59) rfl) rfl, zCh_1 (List.mem_of_getElem? (i := 15) (by decide +kernel)) rfl, by decide, by decide, by decide +kernel⟩
set_option maxRecDepth 20000 in
theorem kX12_endOnTape : zLc mX12_endOnTape 3 := ⟨zCh_6 (List.mem_of_getElem? (i := 80) rfl) rfl, zCh_1 (List.mem_of_getElem? (i := 15) (by decide +kernel)) rfl, by decide, by decide, by decide +kernel⟩
set_option maxRecDepth 20000 in
theorem kX12_proofOnTape : zLc mX12_proofOnTape 2 := ⟨zCh_6 (List.mem_of_getElem? (i := 76) rfl) rfl, zCh_1 (List.mem_of_getElem? (i := 15) (by decide +kernel)) rfl, by decide, by decide, by decide +kernel⟩
set_option maxRecDepth 20000 in
theorem kX12_partOnTape : zLc mX12_partOnTape 2 := ⟨zCh_6 (List.mem_of_getElem? (i := 84) rfl) rfl, zCh_1 (List.mem_of_getElem? (i := 15) (by decide +kernel)) rfl, by decide, by decide, by decide +kernel⟩
set_option maxRecDepth 20000 in
theorem kX12_seal : zLc mX12_seal 3 := ⟨zCh_6 (List.mem_of_getElem? (i := 68) rfl) rfl, zCh_1 (List.mem_of_getElem? (i := 15) (by decide +kernel)) rfl, by decide, by decide, by decide +kernel⟩
set_option maxRecDepth 20000 in
theorem kX12_stamp : zLc mX12_stamp 3 := ⟨zCh_6 (List.mem_of_getElem? (i := 199) rfl) rfl, zCh_1 (List.mem_of_getElem? (i := 15) (by decide +kernel)) rfl, by decide, by decide, by decide +kernel⟩
set_option maxRecDepth 20000 in
theorem kX12_hash : zLc mX12_hash 2 := ⟨zCh_6 (List.mem_of_getElem? (i := 211) rfl) rfl, zCh_1 (List.mem_of_getElem? (i := 15) (by decide +kernel)) rfl, by decide, by decide, by decide +kernel⟩
set_option maxRecDepth 20000 in
theorem kX12_proof : zLc mX12_proof 3 := ⟨zCh_6 (List.mem_of_getElem? (i := 215) rfl) rfl, zCh_1 (List.mem_of_getElem? (i := 15) (by decide +kernel)) rfl, by decide, by decide, by decide +kernel⟩
set_option maxRecDepth 20000 in
theorem kX12_flyByte : zLc mX12_flyByte 2 := ⟨zCh_6 (List.mem_of_getElem? (i := 207) rfl) rfl, zCh_1 (List.mem_of_getElem? (i := 15) (by decide +kernel)) rfl, by decide, by decide, by decide +kernel⟩
set_option maxRecDepth 20000 in
theorem kX12_isFlying : zLc mX12_isFlying 1 := ⟨zCh_6 (List.mem_of_getElem? (i := 203) rfl) rfl, zCh_1 (List.mem_of_getElem? (i := 15) (by decide +kernel)) rfl, by decide, by decide, by decide +kernel⟩
set_option maxRecDepth 20000 in
theorem kX12_fly : zLc mX12_fly 2 := ⟨zCh_7 (List.mem_of_getElem? (i := 118) rfl) rfl, zCh_1 (List.mem_of_getElem? (i := 15) (by decide +kernel)) rfl, by decide, by decide, by decide +kernel⟩
set_option maxRecDepth 20000 in
theorem kX12_takeSlot : zLc mX12_takeSlot 0 := ⟨zCh_7 (List.mem_of_getElem? (i := 122) rfl) rfl, zCh_1 (List.mem_of_getElem? (i := 15) (by decide +kernel)) rfl, by decide, by decide, by decide +kernel⟩
set_option maxRecDepth 20000 in
theorem kX12_flyAll : zLc mX12_flyAll 1 := ⟨zCh_7 (List.mem_of_getElem? (i := 114) rfl) rfl, zCh_1 (List.mem_of_getElem? (i := 15) (by decide +kernel)) rfl, by decide, by decide, by decide +kernel⟩
set_option maxRecDepth 20000 in
theorem kX12_sendOn : zLc mX12_sendOn 3 := ⟨zCh_9 (List.mem_of_getElem? (i := 127) rfl) rfl, zCh_1 (List.mem_of_getElem? (i := 15) (by decide +kernel)) rfl, by decide, by decide, by decide +kernel⟩
set_option maxRecDepth 20000 in
theorem kX12_load : zLc mX12_load 1 := ⟨zCh_9 (List.mem_of_getElem? (i := 98) rfl) rfl, zCh_1 (List.mem_of_getElem? (i := 15) (by decide +kernel)) rfl, by decide, by decide, by decide +kernel⟩
set_option maxRecDepth 20000 in
theorem kX12_write : zLc mX12_write 1 := ⟨zCh_7 (List.mem_of_getElem? (i := 90) rfl) rfl, zCh_1 (List.mem_of_getElem? (i := 15) (by decide +kernel)) rfl, by decide, by decide, by decide +kernel⟩
set_option maxRecDepth 20000 in
theorem kX12_writeTwo : zLc mX12_writeTwo 1 := ⟨zCh_7 (List.mem_of_getElem? (i := 94) rfl) rfl, zCh_1 (List.mem_of_getElem? (i := 15) (by decide +kernel)) rfl, by decide, by decide, by decide +kernel⟩
set_option maxRecDepth 20000 in
theorem kX12_writeBlock : zLc mX12_writeBlock 1 := ⟨zCh_7 (List.mem_of_getElem? (i := 98) rfl) rfl, zCh_1 (List.mem_of_getElem? (i := 15) (by decide +kernel)) rfl, by decide, by decide, by decide +kernel⟩
set_option maxRecDepth 20000 in
theorem kX12_writeHead : zLc mX12_writeHead 4 := ⟨zCh_7 (List.mem_of_getElem? (i := 86) rfl) rfl, zCh_1 (List.mem_of_getElem? (i := 15) (by decide +kernel)) rfl, by decide, by decide, by decide +kernel⟩
set_option maxRecDepth 20000 in
theorem kX12_isPaymentAt : zLc mX12_isPaymentAt 1 := ⟨zCh_9 (List.mem_of_getElem? (i := 50) rfl) rfl, zCh_1 (List.mem_of_getElem? (i := 15) (by decide +kernel)) rfl, by decide, by decide, by decide +kernel⟩
set_option maxRecDepth 20000 in
theorem kX12_heightAt : zLc mX12_heightAt 1 := ⟨zCh_9 (List.mem_of_getElem? (i := 58) rfl) rfl, zCh_1 (List.mem_of_getElem? (i := 15) (by decide +kernel)) rfl, by decide, by decide, by decide +kernel⟩
set_option maxRecDepth 20000 in
theorem kX12_endAt : zLc mX12_endAt 1 := ⟨zCh_9 (List.mem_of_getElem? (i := 70) rfl) rfl, zCh_1 (List.mem_of_getElem? (i := 15) (by decide +kernel)) rfl, by decide, by decide, by decide +kernel⟩
set_option maxRecDepth 20000 in
theorem kX12_isLess : zLc mX12_isLess 2 := ⟨zCh_9 (List.mem_of_getElem? (i := 74) rfl) rfl, zCh_1 (List.mem_of_getElem? (i := 15) (by decide +kernel)) rfl, by decide, by decide, by decide +kernel⟩
set_option maxRecDepth 20000 in
theorem kX12_evidenceAt : zLc mX12_evidenceAt 1 := ⟨zCh_9 (List.mem_of_getElem? (i := 66) rfl) rfl, zCh_1 (List.mem_of_getElem? (i := 15) (by decide +kernel)) rfl, by decide, by decide, by decide +kernel⟩
set_option maxRecDepth 20000 in
theorem kX12_part : zLc mX12_part 2 := ⟨zCh_9 (List.mem_of_getElem? (i := 78) rfl) rfl, zCh_1 (List.mem_of_getElem? (i := 15) (by decide +kernel)) rfl, by decide, by decide, by decide +kernel⟩
set_option maxRecDepth 20000 in
theorem kX12_readBlock : zLc mX12_readBlock 1 := ⟨zCh_9 (List.mem_of_getElem? (i := 62) rfl) rfl, zCh_1 (List.mem_of_getElem? (i := 15) (by decide +kernel)) rfl, by decide, by decide, by decide +kernel⟩
set_option maxRecDepth 20000 in
theorem kX12_readVote : zLc mX12_readVote 0 := ⟨zCh_9 (List.mem_of_getElem? (i := 82) rfl) rfl, zCh_1 (List.mem_of_getElem? (i := 15) (by decide +kernel)) rfl, by decide, by decide, by decide +kernel⟩
set_option maxRecDepth 20000 in
theorem kX12_readProposal : zLc mX12_readProposal 0 := ⟨zCh_9 (List.mem_of_getElem? (i := 54) rfl) rfl, zCh_1 (List.mem_of_getElem? (i := 15) (by decide +kernel)) rfl, by decide, by decide, by decide +kernel⟩
set_option maxRecDepth 20000 in
theorem kX12_readSnapshot : zLc mX12_readSnapshot 0 := ⟨zCh_9 (List.mem_of_getElem? (i := 86) rfl) rfl, zCh_1 (List.mem_of_getElem? (i := 15) (by decide +kernel)) rfl, by decide, by decide, by decide +kernel⟩
set_option maxRecDepth 20000 in
theorem kX12_read : zLc mX12_read 0 := ⟨zCh_9 (List.mem_of_getElem? (i := 46) rfl) rfl, zCh_1 (List.mem_of_getElem? (i := 15) (by decide +kernel)) rfl, by decide, by decide, by decide +kernel⟩
set_option maxRecDepth 20000 in
theorem kX12_tellsHonest : zLc mX12_tellsHonest 0 := ⟨zCh_9 (List.mem_of_getElem? (i := 90) rfl) rfl, zCh_1 (List.mem_of_getElem? (i := 15) (by decide +kernel)) rfl, by decide, by decide, by decide +kernel⟩
set_option maxRecDepth 20000 in
theorem kX12_init : zLc mX12_init 2 := ⟨zCh_6 (List.mem_of_getElem? (i := 219) rfl) rfl, zCh_1 (List.mem_of_getElem? (i := 15) (by decide +kernel)) rfl, by decide, by decide, by decide +kernel⟩
set_option maxRecDepth 20000 in
theorem kX12_isHonest : zLc mX12_isHonest 1 := ⟨zCh_6 (List.mem_of_getElem? (i := 143) rfl) rfl, zCh_1 (List.mem_of_getElem? (i := 15) (by decide +kernel)) rfl, by decide, by decide, by decide +kernel⟩
set_option maxRecDepth 20000 in
theorem kX12_isUp : zLc mX12_isUp 1 := ⟨zCh_9 (List.mem_of_getElem? (i := 107) rfl) rfl, zCh_1 (List.mem_of_getElem? (i := 15) (by decide +kernel)) rfl, by decide, by decide, by decide +kernel⟩
set_option maxRecDepth 20000 in
theorem kX12_unlock : zLc mX12_unlock 1 := ⟨zCh_6 (List.mem_of_getElem? (i := 238) rfl) rfl, zCh_1 (List.mem_of_getElem? (i := 15) (by decide +kernel)) rfl, by decide, by decide, by decide +kernel⟩
set_option maxRecDepth 20000 in
theorem kX12_noTimers : zLc mX12_noTimers 1 := ⟨zCh_7 (List.mem_of_getElem? (i := 6) rfl) rfl, zCh_1 (List.mem_of_getElem? (i := 15) (by decide +kernel)) rfl, by decide, by decide, by decide +kernel⟩
set_option maxRecDepth 20000 in
theorem kX12_heldAt : zLc mX12_heldAt 3 := ⟨zCh_7 (List.mem_of_getElem? (i := 51) rfl) rfl, zCh_1 (List.mem_of_getElem? (i := 15) (by decide +kernel)) rfl, by decide, by decide, by decide +kernel⟩
set_option maxRecDepth 20000 in
theorem kX12_voteAt : zLc mX12_voteAt 5 := ⟨zCh_7 (List.mem_of_getElem? (i := 54) rfl) rfl, zCh_1 (List.mem_of_getElem? (i := 15) (by decide +kernel)) rfl, by decide, by decide, by decide +kernel⟩
set_option maxRecDepth 20000 in
theorem kX12_forgetHeight : zLc mX12_forgetHeight 2 := ⟨zCh_7 (List.mem_of_getElem? (i := 48) rfl) rfl, zCh_1 (List.mem_of_getElem? (i := 15) (by decide +kernel)) rfl, by decide, by decide, by decide +kernel⟩
set_option maxRecDepth 20000 in
theorem kX12_forgetSaid : zLc mX12_forgetSaid 1 := ⟨zCh_7 (List.mem_of_getElem? (i := 58) rfl) rfl, zCh_1 (List.mem_of_getElem? (i := 15) (by decide +kernel)) rfl, by decide, by decide, by decide +kernel⟩
set_option maxRecDepth 20000 in
theorem kX12_proposer : zLc mX12_proposer 2 := ⟨zCh_7 (List.mem_of_getElem? (i := 70) rfl) rfl, zCh_1 (List.mem_of_getElem? (i := 15) (by decide +kernel)) rfl, by decide, by decide, by decide +kernel⟩
set_option maxRecDepth 20000 in
theorem kX12_fall : zLc mX12_fall 1 := ⟨zCh_7 (List.mem_of_getElem? (i := 44) rfl) rfl, zCh_1 (List.mem_of_getElem? (i := 15) (by decide +kernel)) rfl, by decide, by decide, by decide +kernel⟩
set_option maxRecDepth 20000 in
theorem kX12_noteByte : zLc mX12_noteByte 1 := ⟨zCh_7 (List.mem_of_getElem? (i := 26) rfl) rfl, zCh_1 (List.mem_of_getElem? (i := 15) (by decide +kernel)) rfl, by decide, by decide, by decide +kernel⟩
set_option maxRecDepth 20000 in
theorem kX12_openNote : zLc mX12_openNote 3 := ⟨zCh_7 (List.mem_of_getElem? (i := 22) rfl) rfl, zCh_1 (List.mem_of_getElem? (i := 15) (by decide +kernel)) rfl, by decide, by decide, by decide +kernel⟩
set_option maxRecDepth 20000 in
theorem kX12_noteBlock : zLc mX12_noteBlock 1 := ⟨zCh_7 (List.mem_of_getElem? (i := 206) rfl) rfl, zCh_1 (List.mem_of_getElem? (i := 15) (by decide +kernel)) rfl, by decide, by decide, by decide +kernel⟩
set_option maxRecDepth 20000 in
theorem kX12_setSectorByte : zLc mX12_setSectorByte 3 := ⟨zCh_7 (List.mem_of_getElem? (i := 38) rfl) rfl, zCh_1 (List.mem_of_getElem? (i := 15) (by decide +kernel)) rfl, by decide, by decide, by decide +kernel⟩
set_option maxRecDepth 20000 in
theorem kX12_closeNote : zLc mX12_closeNote 2 := ⟨zCh_7 (List.mem_of_getElem? (i := 34) rfl) rfl, zCh_1 (List.mem_of_getElem? (i := 15) (by decide +kernel)) rfl, by decide, by decide, by decide +kernel⟩
set_option maxRecDepth 20000 in
theorem kX12_openOwn : zLc mX12_openOwn 2 := ⟨zCh_7 (List.mem_of_getElem? (i := 18) rfl) rfl, zCh_1 (List.mem_of_getElem? (i := 15) (by decide +kernel)) rfl, by decide, by decide, by decide +kernel⟩
set_option maxRecDepth 20000 in
theorem kX12_closeOwn : zLc mX12_closeOwn 1 := ⟨zCh_7 (List.mem_of_getElem? (i := 30) rfl) rfl, zCh_1 (List.mem_of_getElem? (i := 15) (by decide +kernel)) rfl, by decide, by decide, by decide +kernel⟩
set_option maxRecDepth 20000 in
theorem kX12_noteRound : zLc mX12_noteRound 2 := ⟨zCh_7 (List.mem_of_getElem? (i := 14) rfl) rfl, zCh_1 (List.mem_of_getElem? (i := 15) (by decide +kernel)) rfl, by decide, by decide, by decide +kernel⟩
set_option maxRecDepth 20000 in
theorem kX12_noteSent : zLc mX12_noteSent 2 := ⟨zCh_7 (List.mem_of_getElem? (i := 102) rfl) rfl, zCh_1 (List.mem_of_getElem? (i := 15) (by decide +kernel)) rfl, by decide, by decide, by decide +kernel⟩
set_option maxRecDepth 20000 in
theorem kX12_noteLock : zLc mX12_noteLock 3 := ⟨zCh_8 (List.mem_of_getElem? (i := 6) rfl) rfl, zCh_1 (List.mem_of_getElem? (i := 15) (by decide +kernel)) rfl, by decide, by decide, by decide +kernel⟩
set_option maxRecDepth 20000 in
theorem kX12_noteChain : zLc mX12_noteChain 2 := ⟨zCh_7 (List.mem_of_getElem? (i := 202) rfl) rfl, zCh_1 (List.mem_of_getElem? (i := 15) (by decide +kernel)) rfl, by decide, by decide, by decide +kernel⟩
set_option maxRecDepth 20000 in
theorem kX12_noteSnap : zLc mX12_noteSnap 2 := ⟨zCh_7 (List.mem_of_getElem? (i := 166) rfl) rfl, zCh_1 (List.mem_of_getElem? (i := 15) (by decide +kernel)) rfl, by decide, by decide, by decide +kernel⟩
set_option maxRecDepth 20000 in
theorem kX12_setVote : zLc mX12_setVote 6 := ⟨zCh_7 (List.mem_of_getElem? (i := 130) rfl) rfl, zCh_1 (List.mem_of_getElem? (i := 15) (by decide +kernel)) rfl, by decide, by decide, by decide +kernel⟩
set_option maxRecDepth 20000 in
theorem kX12_count0 : zLc mX12_count0 5 := ⟨zCh_7 (List.mem_of_getElem? (i := 190) rfl) rfl, zCh_1 (List.mem_of_getElem? (i := 15) (by decide +kernel)) rfl, by decide, by decide, by decide +kernel⟩
set_option maxRecDepth 20000 in
theorem kX12_quorum : zLc mX12_quorum 0 := ⟨zCh_7 (List.mem_of_getElem? (i := 194) rfl) rfl, zCh_1 (List.mem_of_getElem? (i := 15) (by decide +kernel)) rfl, by decide, by decide, by decide +kernel⟩
set_option maxRecDepth 20000 in
theorem kX12_holdLogged : zLc mX12_holdLogged 2 := ⟨zCh_7 (List.mem_of_getElem? (i := 126) rfl) rfl, zCh_1 (List.mem_of_getElem? (i := 15) (by decide +kernel)) rfl, by decide, by decide, by decide +kernel⟩
set_option maxRecDepth 20000 in
theorem kX12_sendLogged : zLc mX12_sendLogged 1 := ⟨zCh_7 (List.mem_of_getElem? (i := 110) rfl) rfl, zCh_1 (List.mem_of_getElem? (i := 15) (by decide +kernel)) rfl, by decide, by decide, by decide +kernel⟩
set_option maxRecDepth 20000 in
theorem kX12_writeProposal : zLc mX12_writeProposal 5 := ⟨zCh_7 (List.mem_of_getElem? (i := 82) rfl) rfl, zCh_1 (List.mem_of_getElem? (i := 15) (by decide +kernel)) rfl, by decide, by decide, by decide +kernel⟩
set_option maxRecDepth 20000 in
theorem kX12_writeId : zLc mX12_writeId 4 := ⟨zCh_7 (List.mem_of_getElem? (i := 234) rfl) rfl, zCh_1 (List.mem_of_getElem? (i := 15) (by decide +kernel)) rfl, by decide, by decide, by decide +kernel⟩
set_option maxRecDepth 20000 in
theorem kX12_propose : zLc mX12_propose 3 := ⟨zCh_7 (List.mem_of_getElem? (i := 78) rfl) rfl, zCh_1 (List.mem_of_getElem? (i := 15) (by decide +kernel)) rfl, by decide, by decide, by decide +kernel⟩
set_option maxRecDepth 20000 in
theorem kX12_vote : zLc mX12_vote 4 := ⟨zCh_7 (List.mem_of_getElem? (i := 230) rfl) rfl, zCh_1 (List.mem_of_getElem? (i := 15) (by decide +kernel)) rfl, by decide, by decide, by decide +kernel⟩
set_option maxRecDepth 20000 in
theorem kX12_pay : zLc mX12_pay 6 := ⟨zCh_6 (List.mem_of_getElem? (i := 183) rfl) rfl, zCh_1 (List.mem_of_getElem? (i := 15) (by decide +kernel)) rfl, by decide, by decide, by decide +kernel⟩
set_option maxRecDepth 20000 in
theorem kX12_fine : zLc mX12_fine 2 := ⟨zCh_6 (List.mem_of_getElem? (i := 171) rfl) rfl, zCh_1 (List.mem_of_getElem? (i := 15) (by decide +kernel)) rfl, by decide, by decide, by decide +kernel⟩
set_option maxRecDepth 20000 in
theorem kX12_doParts : zLc mX12_doParts 1 := ⟨zCh_6 (List.mem_of_getElem? (i := 155) rfl) rfl, zCh_1 (List.mem_of_getElem? (i := 15) (by decide +kernel)) rfl, by decide, by decide, by decide +kernel⟩
set_option maxRecDepth 20000 in
theorem kX12_reckon : zLc mX12_reckon 1 := ⟨zCh_6 (List.mem_of_getElem? (i := 151) rfl) rfl, zCh_1 (List.mem_of_getElem? (i := 15) (by decide +kernel)) rfl, by decide, by decide, by decide +kernel⟩
set_option maxRecDepth 20000 in
theorem kX12_statePart : zLc mX12_statePart 1 := ⟨zCh_6 (List.mem_of_getElem? (i := 195) rfl) rfl, zCh_1 (List.mem_of_getElem? (i := 15) (by decide +kernel)) rfl, by decide, by decide, by decide +kernel⟩
set_option maxRecDepth 20000 in
theorem kX12_accountParts : zLc mX12_accountParts 0 := ⟨zCh_6 (List.mem_of_getElem? (i := 191) rfl) rfl, zCh_1 (List.mem_of_getElem? (i := 15) (by decide +kernel)) rfl, by decide, by decide, by decide +kernel⟩
set_option maxRecDepth 20000 in
theorem kX12_accountsRoot : zLc mX12_accountsRoot 0 := ⟨zCh_6 (List.mem_of_getElem? (i := 187) rfl) rfl, zCh_1 (List.mem_of_getElem? (i := 15) (by decide +kernel)) rfl, by decide, by decide, by decide +kernel⟩
set_option maxRecDepth 20000 in
theorem kX12_lastByte : zLc mX12_lastByte 2 := ⟨zCh_6 (List.mem_of_getElem? (i := 147) rfl) rfl, zCh_1 (List.mem_of_getElem? (i := 15) (by decide +kernel)) rfl, by decide, by decide, by decide +kernel⟩
set_option maxRecDepth 20000 in
theorem kX12_isValid : zLc mX12_isValid 2 := ⟨zCh_7 (List.mem_of_getElem? (i := 182) rfl) rfl, zCh_1 (List.mem_of_getElem? (i := 15) (by decide +kernel)) rfl, by decide, by decide, by decide +kernel⟩
set_option maxRecDepth 20000 in
theorem kX12_isPoolAt : zLc mX12_isPoolAt 6 := ⟨zCh_9 (List.mem_of_getElem? (i := 115) rfl) rfl, zCh_1 (List.mem_of_getElem? (i := 15) (by decide +kernel)) rfl, by decide, by decide, by decide +kernel⟩
set_option maxRecDepth 20000 in
theorem kX12_toPool : zLc mX12_toPool 6 := ⟨zCh_9 (List.mem_of_getElem? (i := 111) rfl) rfl, zCh_1 (List.mem_of_getElem? (i := 15) (by decide +kernel)) rfl, by decide, by decide, by decide +kernel⟩
set_option maxRecDepth 20000 in
theorem kX12_isIn : zLc mX12_isIn 2 := ⟨zCh_7 (List.mem_of_getElem? (i := 214) rfl) rfl, zCh_1 (List.mem_of_getElem? (i := 15) (by decide +kernel)) rfl, by decide, by decide, by decide +kernel⟩
set_option maxRecDepth 20000 in
theorem kX12_fromPool : zLc mX12_fromPool 2 := ⟨zCh_7 (List.mem_of_getElem? (i := 210) rfl) rfl, zCh_1 (List.mem_of_getElem? (i := 15) (by decide +kernel)) rfl, by decide, by decide, by decide +kernel⟩
set_option maxRecDepth 20000 in
theorem kX12_build : zLc mX12_build 1 := ⟨zCh_7 (List.mem_of_getElem? (i := 134) rfl) rfl, zCh_1 (List.mem_of_getElem? (i := 15) (by decide +kernel)) rfl, by decide, by decide, by decide +kernel⟩
set_option maxRecDepth 20000 in
theorem kX12_setTimer : zLc mX12_setTimer 2 := ⟨zCh_7 (List.mem_of_getElem? (i := 66) rfl) rfl, zCh_1 (List.mem_of_getElem? (i := 15) (by decide +kernel)) rfl, by decide, by decide, by decide +kernel⟩
set_option maxRecDepth 20000 in
theorem kX12_notBeen : zLc mX12_notBeen 1 := ⟨zCh_7 (List.mem_of_getElem? (i := 62) rfl) rfl, zCh_1 (List.mem_of_getElem? (i := 15) (by decide +kernel)) rfl, by decide, by decide, by decide +kernel⟩
set_option maxRecDepth 20000 in
theorem kX12_begin : zLc mX12_begin 2 := ⟨zCh_7 (List.mem_of_getElem? (i := 10) rfl) rfl, zCh_1 (List.mem_of_getElem? (i := 15) (by decide +kernel)) rfl, by decide, by decide, by decide +kernel⟩
set_option maxRecDepth 20000 in
theorem kX12_snapshot : zLc mX12_snapshot 1 := ⟨zCh_7 (List.mem_of_getElem? (i := 154) rfl) rfl, zCh_1 (List.mem_of_getElem? (i := 15) (by decide +kernel)) rfl, by decide, by decide, by decide +kernel⟩
set_option maxRecDepth 20000 in
theorem kX12_isSameSnap : zLc mX12_isSameSnap 2 := ⟨zCh_7 (List.mem_of_getElem? (i := 158) rfl) rfl, zCh_1 (List.mem_of_getElem? (i := 15) (by decide +kernel)) rfl, by decide, by decide, by decide +kernel⟩
set_option maxRecDepth 20000 in
theorem kX12_take : zLc mX12_take 2 := ⟨zCh_7 (List.mem_of_getElem? (i := 162) rfl) rfl, zCh_1 (List.mem_of_getElem? (i := 15) (by decide +kernel)) rfl, by decide, by decide, by decide +kernel⟩
set_option maxRecDepth 20000 in
theorem kX12_rise : zLc mX12_rise 2 := ⟨zCh_7 (List.mem_of_getElem? (i := 170) rfl) rfl, zCh_1 (List.mem_of_getElem? (i := 15) (by decide +kernel)) rfl, by decide, by decide, by decide +kernel⟩
set_option maxRecDepth 20000 in
theorem kX12_decision : zLc mX12_decision 1 := ⟨zCh_7 (List.mem_of_getElem? (i := 174) rfl) rfl, zCh_1 (List.mem_of_getElem? (i := 15) (by decide +kernel)) rfl, by decide, by decide, by decide +kernel⟩
set_option maxRecDepth 20000 in
theorem kX12_decide : zLc mX12_decide 2 := ⟨zCh_7 (List.mem_of_getElem? (i := 198) rfl) rfl, zCh_1 (List.mem_of_getElem? (i := 15) (by decide +kernel)) rfl, by decide, by decide, by decide +kernel⟩
set_option maxRecDepth 20000 in
theorem kX12_ahead : zLc mX12_ahead 1 := ⟨zCh_7 (List.mem_of_getElem? (i := 218) rfl) rfl, zCh_1 (List.mem_of_getElem? (i := 15) (by decide +kernel)) rfl, by decide, by decide, by decide +kernel⟩
set_option maxRecDepth 20000 in
theorem kX12_rule : zLc mX12_rule 1 := ⟨zCh_7 (List.mem_of_getElem? (i := 150) rfl) rfl, zCh_1 (List.mem_of_getElem? (i := 15) (by decide +kernel)) rfl, by decide, by decide, by decide +kernel⟩
set_option maxRecDepth 20000 in
theorem kX12_rule8 : zLc mX12_rule8 1 := ⟨zCh_7 (List.mem_of_getElem? (i := 238) rfl) rfl, zCh_1 (List.mem_of_getElem? (i := 15) (by decide +kernel)) rfl, by decide, by decide, by decide +kernel⟩
set_option maxRecDepth 20000 in
theorem kX12_rule5 : zLc mX12_rule5 2 := ⟨zCh_8 (List.mem_of_getElem? (i := 2) rfl) rfl, zCh_1 (List.mem_of_getElem? (i := 15) (by decide +kernel)) rfl, by decide, by decide, by decide +kernel⟩
set_option maxRecDepth 20000 in
theorem kX12_mayVote : zLc mX12_mayVote 2 := ⟨zCh_7 (List.mem_of_getElem? (i := 222) rfl) rfl, zCh_1 (List.mem_of_getElem? (i := 15) (by decide +kernel)) rfl, by decide, by decide, by decide +kernel⟩
set_option maxRecDepth 20000 in
theorem kX12_prevote : zLc mX12_prevote 2 := ⟨zCh_7 (List.mem_of_getElem? (i := 226) rfl) rfl, zCh_1 (List.mem_of_getElem? (i := 15) (by decide +kernel)) rfl, by decide, by decide, by decide +kernel⟩
set_option maxRecDepth 20000 in
theorem kX12_rules : zLc mX12_rules 1 := ⟨zCh_7 (List.mem_of_getElem? (i := 146) rfl) rfl, zCh_1 (List.mem_of_getElem? (i := 15) (by decide +kernel)) rfl, by decide, by decide, by decide +kernel⟩
set_option maxRecDepth 20000 in
theorem kX12_come : zLc mX12_come 2 := ⟨zCh_9 (List.mem_of_getElem? (i := 123) rfl) rfl, zCh_1 (List.mem_of_getElem? (i := 15) (by decide +kernel)) rfl, by decide, by decide, by decide +kernel⟩
set_option maxRecDepth 20000 in
theorem kX12_keepProof : zLc mX12_keepProof 1 := ⟨zCh_9 (List.mem_of_getElem? (i := 131) rfl) rfl, zCh_1 (List.mem_of_getElem? (i := 15) (by decide +kernel)) rfl, by decide, by decide, by decide +kernel⟩
set_option maxRecDepth 20000 in
theorem kX12_keepSnap : zLc mX12_keepSnap 1 := ⟨zCh_9 (List.mem_of_getElem? (i := 135) rfl) rfl, zCh_1 (List.mem_of_getElem? (i := 15) (by decide +kernel)) rfl, by decide, by decide, by decide +kernel⟩
set_option maxRecDepth 20000 in
theorem kX12_answer : zLc mX12_answer 3 := ⟨zCh_9 (List.mem_of_getElem? (i := 139) rfl) rfl, zCh_1 (List.mem_of_getElem? (i := 15) (by decide +kernel)) rfl, by decide, by decide, by decide +kernel⟩
set_option maxRecDepth 20000 in
theorem kX12_answerHeld : zLc mX12_answerHeld 2 := ⟨zCh_9 (List.mem_of_getElem? (i := 143) rfl) rfl, zCh_1 (List.mem_of_getElem? (i := 15) (by decide +kernel)) rfl, by decide, by decide, by decide +kernel⟩
set_option maxRecDepth 20000 in
theorem kX12_writeAsk : zLc mX12_writeAsk 1 := ⟨zCh_9 (List.mem_of_getElem? (i := 155) rfl) rfl, zCh_1 (List.mem_of_getElem? (i := 15) (by decide +kernel)) rfl, by decide, by decide, by decide +kernel⟩
set_option maxRecDepth 20000 in
theorem kX12_ask : zLc mX12_ask 2 := ⟨zCh_9 (List.mem_of_getElem? (i := 151) rfl) rfl, zCh_1 (List.mem_of_getElem? (i := 15) (by decide +kernel)) rfl, by decide, by decide, by decide +kernel⟩
set_option maxRecDepth 20000 in
theorem kX12_arrive : zLc mX12_arrive 2 := ⟨zCh_9 (List.mem_of_getElem? (i := 147) rfl) rfl, zCh_1 (List.mem_of_getElem? (i := 15) (by decide +kernel)) rfl, by decide, by decide, by decide +kernel⟩
set_option maxRecDepth 20000 in
theorem kX12_arriveProposal : zLc mX12_arriveProposal 2 := ⟨zCh_9 (List.mem_of_getElem? (i := 159) rfl) rfl, zCh_1 (List.mem_of_getElem? (i := 15) (by decide +kernel)) rfl, by decide, by decide, by decide +kernel⟩
set_option maxRecDepth 20000 in
theorem kX12_arriveVote : zLc mX12_arriveVote 2 := ⟨zCh_9 (List.mem_of_getElem? (i := 172) rfl) rfl, zCh_1 (List.mem_of_getElem? (i := 15) (by decide +kernel)) rfl, by decide, by decide, by decide +kernel⟩
set_option maxRecDepth 20000 in
theorem kX12_isLessId : zLc mX12_isLessId 0 := ⟨zCh_9 (List.mem_of_getElem? (i := 167) rfl) rfl, zCh_1 (List.mem_of_getElem? (i := 15) (by decide +kernel)) rfl, by decide, by decide, by decide +kernel⟩
set_option maxRecDepth 20000 in
theorem kX12_evidence : zLc mX12_evidence 2 := ⟨zCh_9 (List.mem_of_getElem? (i := 163) rfl) rfl, zCh_1 (List.mem_of_getElem? (i := 15) (by decide +kernel)) rfl, by decide, by decide, by decide +kernel⟩
set_option maxRecDepth 20000 in
theorem kX12_mayLie : zLc mX12_mayLie 2 := ⟨zCh_9 (List.mem_of_getElem? (i := 42) rfl) rfl, zCh_1 (List.mem_of_getElem? (i := 15) (by decide +kernel)) rfl, by decide, by decide, by decide +kernel⟩
set_option maxRecDepth 20000 in
theorem kX12_lie : zLc mX12_lie 3 := ⟨zCh_9 (List.mem_of_getElem? (i := 38) rfl) rfl, zCh_1 (List.mem_of_getElem? (i := 15) (by decide +kernel)) rfl, by decide, by decide, by decide +kernel⟩
set_option maxRecDepth 20000 in
theorem kX12_pass : zLc mX12_pass 3 := ⟨zCh_9 (List.mem_of_getElem? (i := 94) rfl) rfl, zCh_1 (List.mem_of_getElem? (i := 15) (by decide +kernel)) rfl, by decide, by decide, by decide +kernel⟩
set_option maxRecDepth 20000 in
theorem kX12_submit : zLc mX12_submit 6 := ⟨zCh_9 (List.mem_of_getElem? (i := 102) rfl) rfl, zCh_1 (List.mem_of_getElem? (i := 15) (by decide +kernel)) rfl, by decide, by decide, by decide +kernel⟩
set_option maxRecDepth 20000 in
theorem kX12_deliver : zLc mX12_deliver 1 := ⟨zCh_9 (List.mem_of_getElem? (i := 119) rfl) rfl, zCh_1 (List.mem_of_getElem? (i := 15) (by decide +kernel)) rfl, by decide, by decide, by decide +kernel⟩
set_option maxRecDepth 20000 in
theorem kX12_calm : zLc mX12_calm 2 := ⟨zCh_9 (List.mem_of_getElem? (i := 176) rfl) rfl, zCh_1 (List.mem_of_getElem? (i := 15) (by decide +kernel)) rfl, by decide, by decide, by decide +kernel⟩
set_option maxRecDepth 20000 in
theorem kX12_copy : zLc mX12_copy 1 := ⟨zCh_9 (List.mem_of_getElem? (i := 189) rfl) rfl, zCh_1 (List.mem_of_getElem? (i := 15) (by decide +kernel)) rfl, by decide, by decide, by decide +kernel⟩
set_option maxRecDepth 20000 in
theorem kX12_flying : zLc mX12_flying 2 := ⟨zCh_9 (List.mem_of_getElem? (i := 193) rfl) rfl, zCh_1 (List.mem_of_getElem? (i := 15) (by decide +kernel)) rfl, by decide, by decide, by decide +kernel⟩
set_option maxRecDepth 20000 in
theorem kX12_bytes : zLc mX12_bytes 2 := ⟨zCh_9 (List.mem_of_getElem? (i := 197) rfl) rfl, zCh_1 (List.mem_of_getElem? (i := 15) (by decide +kernel)) rfl, by decide, by decide, by decide +kernel⟩
set_option maxRecDepth 20000 in
theorem kX12_tick : zLc mX12_tick 0 := ⟨zCh_9 (List.mem_of_getElem? (i := 181) rfl) rfl, zCh_1 (List.mem_of_getElem? (i := 15) (by decide +kernel)) rfl, by decide, by decide, by decide +kernel⟩
set_option maxRecDepth 20000 in
theorem kX12_end : zLc mX12_end 2 := ⟨zCh_9 (List.mem_of_getElem? (i := 185) rfl) rfl, zCh_1 (List.mem_of_getElem? (i := 15) (by decide +kernel)) rfl, by decide, by decide, by decide +kernel⟩
set_option maxRecDepth 20000 in
theorem kX12_crash : zLc mX12_crash 1 := ⟨zCh_9 (List.mem_of_getElem? (i := 202) rfl) rfl, zCh_1 (List.mem_of_getElem? (i := 15) (by decide +kernel)) rfl, by decide, by decide, by decide +kernel⟩
set_option maxRecDepth 20000 in
theorem kX12_cut : zLc mX12_cut 2 := ⟨zCh_9 (List.mem_of_getElem? (i := 206) rfl) rfl, zCh_1 (List.mem_of_getElem? (i := 15) (by decide +kernel)) rfl, by decide, by decide, by decide +kernel⟩
set_option maxRecDepth 20000 in
theorem kX12_restart : zLc mX12_restart 1 := ⟨zCh_9 (List.mem_of_getElem? (i := 210) rfl) rfl, zCh_1 (List.mem_of_getElem? (i := 15) (by decide +kernel)) rfl, by decide, by decide, by decide +kernel⟩
set_option maxRecDepth 20000 in
theorem kX12_state : zLc mX12_state 2 := ⟨zCh_9 (List.mem_of_getElem? (i := 214) rfl) rfl, zCh_1 (List.mem_of_getElem? (i := 15) (by decide +kernel)) rfl, by decide, by decide, by decide +kernel⟩
set_option maxRecDepth 20000 in
theorem kX12_block : zLc mX12_block 3 := ⟨zCh_9 (List.mem_of_getElem? (i := 218) rfl) rfl, zCh_1 (List.mem_of_getElem? (i := 15) (by decide +kernel)) rfl, by decide, by decide, by decide +kernel⟩
set_option maxRecDepth 20000 in
theorem kX12_paid : zLc mX12_paid 2 := ⟨zCh_9 (List.mem_of_getElem? (i := 222) rfl) rfl, zCh_1 (List.mem_of_getElem? (i := 15) (by decide +kernel)) rfl, by decide, by decide, by decide +kernel⟩
set_option maxRecDepth 20000 in
theorem kX12_path_ : zLc mX12_path_ 4 := ⟨zCh_9 (List.mem_of_getElem? (i := 226) rfl) rfl, zCh_1 (List.mem_of_getElem? (i := 15) (by decide +kernel)) rfl, by decide, by decide, by decide +kernel⟩
set_option maxRecDepth 20000 in
theorem kX12_account : zLc mX12_account 3 := ⟨zCh_10 (List.mem_of_getElem? (i := 6) rfl) rfl, zCh_1 (List.mem_of_getElem? (i := 15) (by decide +kernel)) rfl, by decide, by decide, by decide +kernel⟩
set_option maxRecDepth 20000 in
theorem kX12_sector : zLc mX12_sector 3 := ⟨zCh_10 (List.mem_of_getElem? (i := 10) rfl) rfl, zCh_1 (List.mem_of_getElem? (i := 15) (by decide +kernel)) rfl, by decide, by decide, by decide +kernel⟩
set_option maxRecDepth 20000 in
theorem kX12_balance : zLc mX12_balance 2 := ⟨zCh_10 (List.mem_of_getElem? (i := 14) rfl) rfl, zCh_1 (List.mem_of_getElem? (i := 15) (by decide +kernel)) rfl, by decide, by decide, by decide +kernel⟩
set_option maxRecDepth 20000 in
theorem kX12_count : zLc mX12_count 1 := ⟨zCh_10 (List.mem_of_getElem? (i := 18) rfl) rfl, zCh_1 (List.mem_of_getElem? (i := 15) (by decide +kernel)) rfl, by decide, by decide, by decide +kernel⟩
theorem lX12_7 : Cond.methodLink RX12 7 yX12_root ∈ zT ∧ Cond.static yX12_root ∈ zT := ⟨zCh_6 (List.mem_of_getElem? (i := 228) (by decide +kernel)) rfl, zCh_6 (List.mem_of_getElem? (i := 229) (by decide +kernel)) rfl⟩
theorem lX12_14 : Cond.methodLink RX12 14 yX12_isAbove ∈ zT ∧ Cond.static yX12_isAbove ∈ zT := ⟨zCh_6 (List.mem_of_getElem? (i := 231) (by decide +kernel)) rfl, zCh_6 (List.mem_of_getElem? (i := 232) (by decide +kernel)) rfl⟩
theorem lX12_29 : Cond.methodLink RX12 29 yX12_hashByte ∈ zT ∧ Cond.instanceMethod yX12_hashByte ∈ zT ∧ Cond.selects yX12_hashByte.cls yX12_hashByte yX12_hashByte ∈ zT := ⟨zCh_6 (List.mem_of_getElem? (i := 101) (by decide +kernel)) rfl, zCh_6 (List.mem_of_getElem? (i := 103) (by decide +kernel)) rfl, zIn 28 (by decide +kernel) rfl⟩
theorem lX12_36 : Cond.methodLink RX12 36 yX12_compress ∈ zT ∧ Cond.instanceMethod yX12_compress ∈ zT ∧ Cond.selects yX12_compress.cls yX12_compress yX12_compress ∈ zT := ⟨zCh_6 (List.mem_of_getElem? (i := 117) (by decide +kernel)) rfl, zCh_6 (List.mem_of_getElem? (i := 119) (by decide +kernel)) rfl, zIn 32 (by decide +kernel) rfl⟩
theorem lX12_42 : Cond.methodLink RX12 42 yX12_turn ∈ zT ∧ Cond.static yX12_turn ∈ zT := ⟨zCh_6 (List.mem_of_getElem? (i := 121) (by decide +kernel)) rfl, zCh_6 (List.mem_of_getElem? (i := 122) (by decide +kernel)) rfl⟩
theorem lX12_49 : Cond.methodLink RX12 49 yX12_byteIn ∈ zT ∧ Cond.static yX12_byteIn ∈ zT := ⟨zCh_6 (List.mem_of_getElem? (i := 133) (by decide +kernel)) rfl, zCh_6 (List.mem_of_getElem? (i := 134) (by decide +kernel)) rfl⟩
theorem lX12_63 : Cond.methodLink RX12 63 yX12_isThere ∈ zT ∧ Cond.instanceMethod yX12_isThere ∈ zT ∧ Cond.selects yX12_isThere.cls yX12_isThere yX12_isThere ∈ zT := ⟨zCh_7 (List.mem_of_getElem? (i := 71) (by decide +kernel)) rfl, zCh_7 (List.mem_of_getElem? (i := 73) (by decide +kernel)) rfl, zIn 70 (by decide +kernel) rfl⟩
theorem lX12_67 : Cond.methodLink RX12 67 yX12_blockByte ∈ zT ∧ Cond.instanceMethod yX12_blockByte ∈ zT ∧ Cond.selects yX12_blockByte.cls yX12_blockByte yX12_blockByte ∈ zT := ⟨zCh_6 (List.mem_of_getElem? (i := 160) (by decide +kernel)) rfl, zCh_6 (List.mem_of_getElem? (i := 162) (by decide +kernel)) rfl, zIn 41 (by decide +kernel) rfl⟩
theorem lX12_70 : Cond.methodLink RX12 70 yX12_digest ∈ zT ∧ Cond.instanceMethod yX12_digest ∈ zT ∧ Cond.selects yX12_digest.cls yX12_digest yX12_digest ∈ zT := ⟨zCh_6 (List.mem_of_getElem? (i := 113) (by decide +kernel)) rfl, zCh_6 (List.mem_of_getElem? (i := 115) (by decide +kernel)) rfl, zIn 31 (by decide +kernel) rfl⟩
theorem lX12_74 : Cond.methodLink RX12 74 yX12_sum ∈ zT ∧ Cond.instanceMethod yX12_sum ∈ zT ∧ Cond.selects yX12_sum.cls yX12_sum yX12_sum ∈ zT := ⟨zCh_6 (List.mem_of_getElem? (i := 124) (by decide +kernel)) rfl, zCh_6 (List.mem_of_getElem? (i := 126) (by decide +kernel)) rfl, zIn 33 (by decide +kernel) rfl⟩
theorem lX12_90 : Cond.methodLink RX12 90 yX12_partFrom ∈ zT ∧ Cond.instanceMethod yX12_partFrom ∈ zT ∧ Cond.selects yX12_partFrom.cls yX12_partFrom yX12_partFrom ∈ zT := ⟨zCh_6 (List.mem_of_getElem? (i := 105) (by decide +kernel)) rfl, zCh_6 (List.mem_of_getElem? (i := 107) (by decide +kernel)) rfl, zIn 29 (by decide +kernel) rfl⟩
theorem lX12_94 : Cond.methodLink RX12 94 yX12_keepLeaf ∈ zT ∧ Cond.instanceMethod yX12_keepLeaf ∈ zT ∧ Cond.selects yX12_keepLeaf.cls yX12_keepLeaf yX12_keepLeaf ∈ zT := ⟨zCh_6 (List.mem_of_getElem? (i := 109) (by decide +kernel)) rfl, zCh_6 (List.mem_of_getElem? (i := 111) (by decide +kernel)) rfl, zIn 30 (by decide +kernel) rfl⟩
theorem lX12_97 : Cond.methodLink RX12 97 yX12_leavesOf ∈ zT ∧ Cond.instanceMethod yX12_leavesOf ∈ zT ∧ Cond.selects yX12_leavesOf.cls yX12_leavesOf yX12_leavesOf ∈ zT := ⟨zCh_6 (List.mem_of_getElem? (i := 97) (by decide +kernel)) rfl, zCh_6 (List.mem_of_getElem? (i := 99) (by decide +kernel)) rfl, zIn 27 (by decide +kernel) rfl⟩
theorem lX12_100 : Cond.methodLink RX12 100 yX12_join ∈ zT ∧ Cond.instanceMethod yX12_join ∈ zT ∧ Cond.selects yX12_join.cls yX12_join yX12_join ∈ zT := ⟨zCh_6 (List.mem_of_getElem? (i := 129) (by decide +kernel)) rfl, zCh_6 (List.mem_of_getElem? (i := 131) (by decide +kernel)) rfl, zIn 34 (by decide +kernel) rfl⟩
theorem lX12_109 : Cond.methodLink RX12 109 yX12_tell ∈ zT ∧ Cond.instanceMethod yX12_tell ∈ zT ∧ Cond.selects yX12_tell.cls yX12_tell yX12_tell ∈ zT := ⟨zCh_9 (List.mem_of_getElem? (i := 235) (by decide +kernel)) rfl, zCh_9 (List.mem_of_getElem? (i := 237) (by decide +kernel)) rfl, zIn 147 (by decide +kernel) rfl⟩
theorem lX12_112 : Cond.methodLink RX12 112 yX12_noParts ∈ zT ∧ Cond.instanceMethod yX12_noParts ∈ zT ∧ Cond.selects yX12_noParts.cls yX12_noParts yX12_noParts ∈ zT := ⟨zCh_6 (List.mem_of_getElem? (i := 69) (by decide +kernel)) rfl, zCh_6 (List.mem_of_getElem? (i := 71) (by decide +kernel)) rfl, zIn 20 (by decide +kernel) rfl⟩
theorem lX12_115 : Cond.methodLink RX12 115 yX12_proofsOf ∈ zT ∧ Cond.instanceMethod yX12_proofsOf ∈ zT ∧ Cond.selects yX12_proofsOf.cls yX12_proofsOf yX12_proofsOf ∈ zT := ⟨zCh_6 (List.mem_of_getElem? (i := 156) (by decide +kernel)) rfl, zCh_6 (List.mem_of_getElem? (i := 158) (by decide +kernel)) rfl, zIn 40 (by decide +kernel) rfl⟩
theorem lX12_118 : Cond.methodLink RX12 118 yX12_paymentsOf ∈ zT ∧ Cond.instanceMethod yX12_paymentsOf ∈ zT ∧ Cond.selects yX12_paymentsOf.cls yX12_paymentsOf yX12_paymentsOf ∈ zT := ⟨zCh_6 (List.mem_of_getElem? (i := 176) (by decide +kernel)) rfl, zCh_6 (List.mem_of_getElem? (i := 178) (by decide +kernel)) rfl, zIn 45 (by decide +kernel) rfl⟩
theorem lX12_121 : Cond.methodLink RX12 121 yX12_proofBytes ∈ zT ∧ Cond.instanceMethod yX12_proofBytes ∈ zT ∧ Cond.selects yX12_proofBytes.cls yX12_proofBytes yX12_proofBytes ∈ zT := ⟨zCh_6 (List.mem_of_getElem? (i := 172) (by decide +kernel)) rfl, zCh_6 (List.mem_of_getElem? (i := 174) (by decide +kernel)) rfl, zIn 44 (by decide +kernel) rfl⟩
theorem lX12_124 : Cond.methodLink RX12 124 yX12_partByte ∈ zT ∧ Cond.instanceMethod yX12_partByte ∈ zT ∧ Cond.selects yX12_partByte.cls yX12_partByte yX12_partByte ∈ zT := ⟨zCh_6 (List.mem_of_getElem? (i := 85) (by decide +kernel)) rfl, zCh_6 (List.mem_of_getElem? (i := 87) (by decide +kernel)) rfl, zIn 24 (by decide +kernel) rfl⟩
theorem lX12_127 : Cond.methodLink RX12 127 yX12_endPart ∈ zT ∧ Cond.instanceMethod yX12_endPart ∈ zT ∧ Cond.selects yX12_endPart.cls yX12_endPart yX12_endPart ∈ zT := ⟨zCh_6 (List.mem_of_getElem? (i := 89) (by decide +kernel)) rfl, zCh_6 (List.mem_of_getElem? (i := 91) (by decide +kernel)) rfl, zIn 25 (by decide +kernel) rfl⟩
theorem lX12_136 : Cond.methodLink RX12 136 yX12_lay ∈ zT ∧ Cond.instanceMethod yX12_lay ∈ zT ∧ Cond.selects yX12_lay.cls yX12_lay yX12_lay ∈ zT := ⟨zCh_6 (List.mem_of_getElem? (i := 60) (by decide +kernel)) rfl, zCh_6 (List.mem_of_getElem? (i := 62) (by decide +kernel)) rfl, zIn 19 (by decide +kernel) rfl⟩
theorem lX12_139 : Cond.methodLink RX12 139 yX12_endOnTape ∈ zT ∧ Cond.instanceMethod yX12_endOnTape ∈ zT ∧ Cond.selects yX12_endOnTape.cls yX12_endOnTape yX12_endOnTape ∈ zT := ⟨zCh_6 (List.mem_of_getElem? (i := 77) (by decide +kernel)) rfl, zCh_6 (List.mem_of_getElem? (i := 79) (by decide +kernel)) rfl, zIn 22 (by decide +kernel) rfl⟩
theorem lX12_143 : Cond.methodLink RX12 143 yX12_proofOnTape ∈ zT ∧ Cond.instanceMethod yX12_proofOnTape ∈ zT ∧ Cond.selects yX12_proofOnTape.cls yX12_proofOnTape yX12_proofOnTape ∈ zT := ⟨zCh_6 (List.mem_of_getElem? (i := 73) (by decide +kernel)) rfl, zCh_6 (List.mem_of_getElem? (i := 75) (by decide +kernel)) rfl, zIn 21 (by decide +kernel) rfl⟩
theorem lX12_146 : Cond.methodLink RX12 146 yX12_partOnTape ∈ zT ∧ Cond.instanceMethod yX12_partOnTape ∈ zT ∧ Cond.selects yX12_partOnTape.cls yX12_partOnTape yX12_partOnTape ∈ zT := ⟨zCh_6 (List.mem_of_getElem? (i := 81) (by decide +kernel)) rfl, zCh_6 (List.mem_of_getElem? (i := 83) (by decide +kernel)) rfl, zIn 23 (by decide +kernel) rfl⟩
theorem lX12_150 : Cond.methodLink RX12 150 yX12_root_ ∈ zT ∧ Cond.instanceMethod yX12_root_ ∈ zT ∧ Cond.selects yX12_root_.cls yX12_root_ yX12_root_ ∈ zT := ⟨zCh_6 (List.mem_of_getElem? (i := 93) (by decide +kernel)) rfl, zCh_6 (List.mem_of_getElem? (i := 95) (by decide +kernel)) rfl, zIn 26 (by decide +kernel) rfl⟩
theorem lX12_152 : Cond.methodLink RX12 152 yX12_rootByte ∈ zT ∧ Cond.instanceMethod yX12_rootByte ∈ zT ∧ Cond.selects yX12_rootByte.cls yX12_rootByte yX12_rootByte ∈ zT := ⟨zCh_6 (List.mem_of_getElem? (i := 136) (by decide +kernel)) rfl, zCh_6 (List.mem_of_getElem? (i := 138) (by decide +kernel)) rfl, zIn 35 (by decide +kernel) rfl⟩
theorem lX12_155 : Cond.methodLink RX12 155 yX12_isHonest ∈ zT ∧ Cond.instanceMethod yX12_isHonest ∈ zT ∧ Cond.selects yX12_isHonest.cls yX12_isHonest yX12_isHonest ∈ zT := ⟨zCh_6 (List.mem_of_getElem? (i := 140) (by decide +kernel)) rfl, zCh_6 (List.mem_of_getElem? (i := 142) (by decide +kernel)) rfl, zIn 36 (by decide +kernel) rfl⟩
theorem lX12_158 : Cond.methodLink RX12 158 yX12_lastByte ∈ zT ∧ Cond.instanceMethod yX12_lastByte ∈ zT ∧ Cond.selects yX12_lastByte.cls yX12_lastByte yX12_lastByte ∈ zT := ⟨zCh_6 (List.mem_of_getElem? (i := 144) (by decide +kernel)) rfl, zCh_6 (List.mem_of_getElem? (i := 146) (by decide +kernel)) rfl, zIn 37 (by decide +kernel) rfl⟩
theorem lX12_161 : Cond.methodLink RX12 161 yX12_reckon ∈ zT ∧ Cond.instanceMethod yX12_reckon ∈ zT ∧ Cond.selects yX12_reckon.cls yX12_reckon yX12_reckon ∈ zT := ⟨zCh_6 (List.mem_of_getElem? (i := 148) (by decide +kernel)) rfl, zCh_6 (List.mem_of_getElem? (i := 150) (by decide +kernel)) rfl, zIn 38 (by decide +kernel) rfl⟩
theorem lX12_164 : Cond.methodLink RX12 164 yX12_accountsRoot ∈ zT ∧ Cond.instanceMethod yX12_accountsRoot ∈ zT ∧ Cond.selects yX12_accountsRoot.cls yX12_accountsRoot yX12_accountsRoot ∈ zT := ⟨zCh_6 (List.mem_of_getElem? (i := 184) (by decide +kernel)) rfl, zCh_6 (List.mem_of_getElem? (i := 186) (by decide +kernel)) rfl, zIn 47 (by decide +kernel) rfl⟩
theorem lX12_167 : Cond.methodLink RX12 167 yX12_isFlying ∈ zT ∧ Cond.instanceMethod yX12_isFlying ∈ zT ∧ Cond.selects yX12_isFlying.cls yX12_isFlying yX12_isFlying ∈ zT := ⟨zCh_6 (List.mem_of_getElem? (i := 200) (by decide +kernel)) rfl, zCh_6 (List.mem_of_getElem? (i := 202) (by decide +kernel)) rfl, zIn 50 (by decide +kernel) rfl⟩
theorem lX12_170 : Cond.methodLink RX12 170 yX12_flyByte ∈ zT ∧ Cond.instanceMethod yX12_flyByte ∈ zT ∧ Cond.selects yX12_flyByte.cls yX12_flyByte yX12_flyByte ∈ zT := ⟨zCh_6 (List.mem_of_getElem? (i := 204) (by decide +kernel)) rfl, zCh_6 (List.mem_of_getElem? (i := 206) (by decide +kernel)) rfl, zIn 51 (by decide +kernel) rfl⟩
theorem lX12_191 : Cond.methodLink RX12 191 yX12_takeSlot ∈ zT ∧ Cond.instanceMethod yX12_takeSlot ∈ zT ∧ Cond.selects yX12_takeSlot.cls yX12_takeSlot yX12_takeSlot ∈ zT := ⟨zCh_7 (List.mem_of_getElem? (i := 119) (by decide +kernel)) rfl, zCh_7 (List.mem_of_getElem? (i := 121) (by decide +kernel)) rfl, zIn 82 (by decide +kernel) rfl⟩
theorem lX12_222 : Cond.methodLink RX12 222 yX12_fly ∈ zT ∧ Cond.instanceMethod yX12_fly ∈ zT ∧ Cond.selects yX12_fly.cls yX12_fly yX12_fly ∈ zT := ⟨zCh_7 (List.mem_of_getElem? (i := 115) (by decide +kernel)) rfl, zCh_7 (List.mem_of_getElem? (i := 117) (by decide +kernel)) rfl, zIn 81 (by decide +kernel) rfl⟩
theorem lX12_226 : Cond.methodLink RX12 226 yX12_write ∈ zT ∧ Cond.instanceMethod yX12_write ∈ zT ∧ Cond.selects yX12_write.cls yX12_write yX12_write ∈ zT := ⟨zCh_7 (List.mem_of_getElem? (i := 87) (by decide +kernel)) rfl, zCh_7 (List.mem_of_getElem? (i := 89) (by decide +kernel)) rfl, zIn 74 (by decide +kernel) rfl⟩
theorem lX12_229 : Cond.methodLink RX12 229 yX12_writeTwo ∈ zT ∧ Cond.instanceMethod yX12_writeTwo ∈ zT ∧ Cond.selects yX12_writeTwo.cls yX12_writeTwo yX12_writeTwo ∈ zT := ⟨zCh_7 (List.mem_of_getElem? (i := 91) (by decide +kernel)) rfl, zCh_7 (List.mem_of_getElem? (i := 93) (by decide +kernel)) rfl, zIn 75 (by decide +kernel) rfl⟩
theorem lX12_232 : Cond.methodLink RX12 232 yX12_heightAt ∈ zT ∧ Cond.instanceMethod yX12_heightAt ∈ zT ∧ Cond.selects yX12_heightAt.cls yX12_heightAt yX12_heightAt ∈ zT := ⟨zCh_9 (List.mem_of_getElem? (i := 55) (by decide +kernel)) rfl, zCh_9 (List.mem_of_getElem? (i := 57) (by decide +kernel)) rfl, zIn 118 (by decide +kernel) rfl⟩
theorem lX12_235 : Cond.methodLink RX12 235 yX12_endAt ∈ zT ∧ Cond.instanceMethod yX12_endAt ∈ zT ∧ Cond.selects yX12_endAt.cls yX12_endAt yX12_endAt ∈ zT := ⟨zCh_9 (List.mem_of_getElem? (i := 67) (by decide +kernel)) rfl, zCh_9 (List.mem_of_getElem? (i := 69) (by decide +kernel)) rfl, zIn 121 (by decide +kernel) rfl⟩
theorem lX12_238 : Cond.methodLink RX12 238 yX12_isLess ∈ zT ∧ Cond.instanceMethod yX12_isLess ∈ zT ∧ Cond.selects yX12_isLess.cls yX12_isLess yX12_isLess ∈ zT := ⟨zCh_9 (List.mem_of_getElem? (i := 71) (by decide +kernel)) rfl, zCh_9 (List.mem_of_getElem? (i := 73) (by decide +kernel)) rfl, zIn 122 (by decide +kernel) rfl⟩
theorem lX12_241 : Cond.methodLink RX12 241 yX12_evidenceAt ∈ zT ∧ Cond.instanceMethod yX12_evidenceAt ∈ zT ∧ Cond.selects yX12_evidenceAt.cls yX12_evidenceAt yX12_evidenceAt ∈ zT := ⟨zCh_9 (List.mem_of_getElem? (i := 63) (by decide +kernel)) rfl, zCh_9 (List.mem_of_getElem? (i := 65) (by decide +kernel)) rfl, zIn 120 (by decide +kernel) rfl⟩
theorem lX12_244 : Cond.methodLink RX12 244 yX12_part ∈ zT ∧ Cond.instanceMethod yX12_part ∈ zT ∧ Cond.selects yX12_part.cls yX12_part yX12_part ∈ zT := ⟨zCh_9 (List.mem_of_getElem? (i := 75) (by decide +kernel)) rfl, zCh_9 (List.mem_of_getElem? (i := 77) (by decide +kernel)) rfl, zIn 123 (by decide +kernel) rfl⟩
theorem lX12_247 : Cond.methodLink RX12 247 yX12_isPaymentAt ∈ zT ∧ Cond.instanceMethod yX12_isPaymentAt ∈ zT ∧ Cond.selects yX12_isPaymentAt.cls yX12_isPaymentAt yX12_isPaymentAt ∈ zT := ⟨zCh_9 (List.mem_of_getElem? (i := 47) (by decide +kernel)) rfl, zCh_9 (List.mem_of_getElem? (i := 49) (by decide +kernel)) rfl, zIn 116 (by decide +kernel) rfl⟩
theorem lX12_250 : Cond.methodLink RX12 250 yX12_setByte ∈ zT ∧ Cond.instanceMethod yX12_setByte ∈ zT ∧ Cond.selects yX12_setByte.cls yX12_setByte yX12_setByte ∈ zT := ⟨zCh_7 (List.mem_of_getElem? (i := 135) (by decide +kernel)) rfl, zCh_7 (List.mem_of_getElem? (i := 137) (by decide +kernel)) rfl, zIn 86 (by decide +kernel) rfl⟩
theorem lX12_254 : Cond.methodLink RX12 254 yX12_identify ∈ zT ∧ Cond.instanceMethod yX12_identify ∈ zT ∧ Cond.selects yX12_identify.cls yX12_identify yX12_identify ∈ zT := ⟨zCh_7 (List.mem_of_getElem? (i := 139) (by decide +kernel)) rfl, zCh_7 (List.mem_of_getElem? (i := 141) (by decide +kernel)) rfl, zIn 87 (by decide +kernel) rfl⟩
theorem lX12_276 : Cond.methodLink RX12 276 yX12_readBlock ∈ zT ∧ Cond.instanceMethod yX12_readBlock ∈ zT ∧ Cond.selects yX12_readBlock.cls yX12_readBlock yX12_readBlock ∈ zT := ⟨zCh_9 (List.mem_of_getElem? (i := 59) (by decide +kernel)) rfl, zCh_9 (List.mem_of_getElem? (i := 61) (by decide +kernel)) rfl, zIn 119 (by decide +kernel) rfl⟩
theorem lX12_279 : Cond.methodLink RX12 279 yX12_heightOf ∈ zT ∧ Cond.instanceMethod yX12_heightOf ∈ zT ∧ Cond.selects yX12_heightOf.cls yX12_heightOf yX12_heightOf ∈ zT := ⟨zCh_7 (List.mem_of_getElem? (i := 183) (by decide +kernel)) rfl, zCh_7 (List.mem_of_getElem? (i := 185) (by decide +kernel)) rfl, zIn 98 (by decide +kernel) rfl⟩
theorem lX12_285 : Cond.methodLink RX12 285 yX12_readProposal ∈ zT ∧ Cond.instanceMethod yX12_readProposal ∈ zT ∧ Cond.selects yX12_readProposal.cls yX12_readProposal yX12_readProposal ∈ zT := ⟨zCh_9 (List.mem_of_getElem? (i := 51) (by decide +kernel)) rfl, zCh_9 (List.mem_of_getElem? (i := 53) (by decide +kernel)) rfl, zIn 117 (by decide +kernel) rfl⟩
theorem lX12_289 : Cond.methodLink RX12 289 yX12_readVote ∈ zT ∧ Cond.instanceMethod yX12_readVote ∈ zT ∧ Cond.selects yX12_readVote.cls yX12_readVote yX12_readVote ∈ zT := ⟨zCh_9 (List.mem_of_getElem? (i := 79) (by decide +kernel)) rfl, zCh_9 (List.mem_of_getElem? (i := 81) (by decide +kernel)) rfl, zIn 124 (by decide +kernel) rfl⟩
theorem lX12_292 : Cond.methodLink RX12 292 yX12_readSnapshot ∈ zT ∧ Cond.instanceMethod yX12_readSnapshot ∈ zT ∧ Cond.selects yX12_readSnapshot.cls yX12_readSnapshot yX12_readSnapshot ∈ zT := ⟨zCh_9 (List.mem_of_getElem? (i := 83) (by decide +kernel)) rfl, zCh_9 (List.mem_of_getElem? (i := 85) (by decide +kernel)) rfl, zIn 125 (by decide +kernel) rfl⟩
theorem lX12_448 : Cond.methodLink RX12 448 yX12_primes ∈ zT ∧ Cond.instanceMethod yX12_primes ∈ zT ∧ Cond.selects yX12_primes.cls yX12_primes yX12_primes ∈ zT := ⟨zCh_6 (List.mem_of_getElem? (i := 224) (by decide +kernel)) rfl, zCh_6 (List.mem_of_getElem? (i := 226) (by decide +kernel)) rfl, zIn 52 (by decide +kernel) rfl⟩
theorem lX12_451 : Cond.methodLink RX12 451 yX12_unlock ∈ zT ∧ Cond.instanceMethod yX12_unlock ∈ zT ∧ Cond.selects yX12_unlock.cls yX12_unlock yX12_unlock ∈ zT := ⟨zCh_6 (List.mem_of_getElem? (i := 235) (by decide +kernel)) rfl, zCh_6 (List.mem_of_getElem? (i := 237) (by decide +kernel)) rfl, zIn 53 (by decide +kernel) rfl⟩
theorem lX12_454 : Cond.methodLink RX12 454 yX12_noTimers ∈ zT ∧ Cond.instanceMethod yX12_noTimers ∈ zT ∧ Cond.selects yX12_noTimers.cls yX12_noTimers yX12_noTimers ∈ zT := ⟨zCh_7 (List.mem_of_getElem? (i := 3) (by decide +kernel)) rfl, zCh_7 (List.mem_of_getElem? (i := 5) (by decide +kernel)) rfl, zIn 55 (by decide +kernel) rfl⟩
theorem lX12_457 : Cond.methodLink RX12 457 yX12_begin ∈ zT ∧ Cond.instanceMethod yX12_begin ∈ zT ∧ Cond.selects yX12_begin.cls yX12_begin yX12_begin ∈ zT := ⟨zCh_7 (List.mem_of_getElem? (i := 7) (by decide +kernel)) rfl, zCh_7 (List.mem_of_getElem? (i := 9) (by decide +kernel)) rfl, zIn 56 (by decide +kernel) rfl⟩
theorem lX12_460 : Cond.methodLink RX12 460 yX12_rules ∈ zT ∧ Cond.instanceMethod yX12_rules ∈ zT ∧ Cond.selects yX12_rules.cls yX12_rules yX12_rules ∈ zT := ⟨zCh_7 (List.mem_of_getElem? (i := 143) (by decide +kernel)) rfl, zCh_7 (List.mem_of_getElem? (i := 145) (by decide +kernel)) rfl, zIn 88 (by decide +kernel) rfl⟩
theorem lX12_463 : Cond.methodLink RX12 463 yX12_clear ∈ zT ∧ Cond.instanceMethod yX12_clear ∈ zT ∧ Cond.selects yX12_clear.cls yX12_clear yX12_clear ∈ zT := ⟨zCh_6 (List.mem_of_getElem? (i := 239) (by decide +kernel)) rfl, zCh_7 (List.mem_of_getElem? (i := 1) (by decide +kernel)) rfl, zIn 54 (by decide +kernel) rfl⟩
theorem lX12_466 : Cond.methodLink RX12 466 yX12_heldAt ∈ zT ∧ Cond.static yX12_heldAt ∈ zT := ⟨zCh_7 (List.mem_of_getElem? (i := 49) (by decide +kernel)) rfl, zCh_7 (List.mem_of_getElem? (i := 50) (by decide +kernel)) rfl⟩
theorem lX12_470 : Cond.methodLink RX12 470 yX12_voteAt ∈ zT ∧ Cond.static yX12_voteAt ∈ zT := ⟨zCh_7 (List.mem_of_getElem? (i := 52) (by decide +kernel)) rfl, zCh_7 (List.mem_of_getElem? (i := 53) (by decide +kernel)) rfl⟩
theorem lX12_474 : Cond.methodLink RX12 474 yX12_forgetHeight ∈ zT ∧ Cond.instanceMethod yX12_forgetHeight ∈ zT ∧ Cond.selects yX12_forgetHeight.cls yX12_forgetHeight yX12_forgetHeight ∈ zT := ⟨zCh_7 (List.mem_of_getElem? (i := 45) (by decide +kernel)) rfl, zCh_7 (List.mem_of_getElem? (i := 47) (by decide +kernel)) rfl, zIn 65 (by decide +kernel) rfl⟩
theorem lX12_477 : Cond.methodLink RX12 477 yX12_forgetSaid ∈ zT ∧ Cond.instanceMethod yX12_forgetSaid ∈ zT ∧ Cond.selects yX12_forgetSaid.cls yX12_forgetSaid yX12_forgetSaid ∈ zT := ⟨zCh_7 (List.mem_of_getElem? (i := 55) (by decide +kernel)) rfl, zCh_7 (List.mem_of_getElem? (i := 57) (by decide +kernel)) rfl, zIn 66 (by decide +kernel) rfl⟩
theorem lX12_483 : Cond.methodLink RX12 483 yX12_noteByte ∈ zT ∧ Cond.instanceMethod yX12_noteByte ∈ zT ∧ Cond.selects yX12_noteByte.cls yX12_noteByte yX12_noteByte ∈ zT := ⟨zCh_7 (List.mem_of_getElem? (i := 23) (by decide +kernel)) rfl, zCh_7 (List.mem_of_getElem? (i := 25) (by decide +kernel)) rfl, zIn 60 (by decide +kernel) rfl⟩
theorem lX12_486 : Cond.methodLink RX12 486 yX12_setSectorByte ∈ zT ∧ Cond.instanceMethod yX12_setSectorByte ∈ zT ∧ Cond.selects yX12_setSectorByte.cls yX12_setSectorByte yX12_setSectorByte ∈ zT := ⟨zCh_7 (List.mem_of_getElem? (i := 35) (by decide +kernel)) rfl, zCh_7 (List.mem_of_getElem? (i := 37) (by decide +kernel)) rfl, zIn 63 (by decide +kernel) rfl⟩
theorem lX12_489 : Cond.methodLink RX12 489 yX12_fall ∈ zT ∧ Cond.instanceMethod yX12_fall ∈ zT ∧ Cond.selects yX12_fall.cls yX12_fall yX12_fall ∈ zT := ⟨zCh_7 (List.mem_of_getElem? (i := 41) (by decide +kernel)) rfl, zCh_7 (List.mem_of_getElem? (i := 43) (by decide +kernel)) rfl, zIn 64 (by decide +kernel) rfl⟩
theorem lX12_492 : Cond.methodLink RX12 492 yX12_openNote ∈ zT ∧ Cond.instanceMethod yX12_openNote ∈ zT ∧ Cond.selects yX12_openNote.cls yX12_openNote yX12_openNote ∈ zT := ⟨zCh_7 (List.mem_of_getElem? (i := 19) (by decide +kernel)) rfl, zCh_7 (List.mem_of_getElem? (i := 21) (by decide +kernel)) rfl, zIn 59 (by decide +kernel) rfl⟩
theorem lX12_495 : Cond.methodLink RX12 495 yX12_closeNote ∈ zT ∧ Cond.instanceMethod yX12_closeNote ∈ zT ∧ Cond.selects yX12_closeNote.cls yX12_closeNote yX12_closeNote ∈ zT := ⟨zCh_7 (List.mem_of_getElem? (i := 31) (by decide +kernel)) rfl, zCh_7 (List.mem_of_getElem? (i := 33) (by decide +kernel)) rfl, zIn 62 (by decide +kernel) rfl⟩
theorem lX12_498 : Cond.methodLink RX12 498 yX12_openOwn ∈ zT ∧ Cond.instanceMethod yX12_openOwn ∈ zT ∧ Cond.selects yX12_openOwn.cls yX12_openOwn yX12_openOwn ∈ zT := ⟨zCh_7 (List.mem_of_getElem? (i := 15) (by decide +kernel)) rfl, zCh_7 (List.mem_of_getElem? (i := 17) (by decide +kernel)) rfl, zIn 58 (by decide +kernel) rfl⟩
theorem lX12_501 : Cond.methodLink RX12 501 yX12_closeOwn ∈ zT ∧ Cond.instanceMethod yX12_closeOwn ∈ zT ∧ Cond.selects yX12_closeOwn.cls yX12_closeOwn yX12_closeOwn ∈ zT := ⟨zCh_7 (List.mem_of_getElem? (i := 27) (by decide +kernel)) rfl, zCh_7 (List.mem_of_getElem? (i := 29) (by decide +kernel)) rfl, zIn 61 (by decide +kernel) rfl⟩
theorem lX12_504 : Cond.methodLink RX12 504 yX12_noteBlock ∈ zT ∧ Cond.instanceMethod yX12_noteBlock ∈ zT ∧ Cond.selects yX12_noteBlock.cls yX12_noteBlock yX12_noteBlock ∈ zT := ⟨zCh_7 (List.mem_of_getElem? (i := 203) (by decide +kernel)) rfl, zCh_7 (List.mem_of_getElem? (i := 205) (by decide +kernel)) rfl, zIn 103 (by decide +kernel) rfl⟩
theorem lX12_507 : Cond.methodLink RX12 507 yX12_copyBlock ∈ zT ∧ Cond.instanceMethod yX12_copyBlock ∈ zT ∧ Cond.selects yX12_copyBlock.cls yX12_copyBlock yX12_copyBlock ∈ zT := ⟨zCh_7 (List.mem_of_getElem? (i := 103) (by decide +kernel)) rfl, zCh_7 (List.mem_of_getElem? (i := 105) (by decide +kernel)) rfl, zIn 78 (by decide +kernel) rfl⟩
theorem lX12_510 : Cond.methodLink RX12 510 yX12_setVote ∈ zT ∧ Cond.instanceMethod yX12_setVote ∈ zT ∧ Cond.selects yX12_setVote.cls yX12_setVote yX12_setVote ∈ zT := ⟨zCh_7 (List.mem_of_getElem? (i := 127) (by decide +kernel)) rfl, zCh_7 (List.mem_of_getElem? (i := 129) (by decide +kernel)) rfl, zIn 84 (by decide +kernel) rfl⟩
theorem lX12_514 : Cond.methodLink RX12 514 yX12_flyAll ∈ zT ∧ Cond.instanceMethod yX12_flyAll ∈ zT ∧ Cond.selects yX12_flyAll.cls yX12_flyAll yX12_flyAll ∈ zT := ⟨zCh_7 (List.mem_of_getElem? (i := 111) (by decide +kernel)) rfl, zCh_7 (List.mem_of_getElem? (i := 113) (by decide +kernel)) rfl, zIn 80 (by decide +kernel) rfl⟩
theorem lX12_517 : Cond.methodLink RX12 517 yX12_holdLogged ∈ zT ∧ Cond.instanceMethod yX12_holdLogged ∈ zT ∧ Cond.selects yX12_holdLogged.cls yX12_holdLogged yX12_holdLogged ∈ zT := ⟨zCh_7 (List.mem_of_getElem? (i := 123) (by decide +kernel)) rfl, zCh_7 (List.mem_of_getElem? (i := 125) (by decide +kernel)) rfl, zIn 83 (by decide +kernel) rfl⟩
theorem lX12_520 : Cond.methodLink RX12 520 yX12_writeHead ∈ zT ∧ Cond.instanceMethod yX12_writeHead ∈ zT ∧ Cond.selects yX12_writeHead.cls yX12_writeHead yX12_writeHead ∈ zT := ⟨zCh_7 (List.mem_of_getElem? (i := 83) (by decide +kernel)) rfl, zCh_7 (List.mem_of_getElem? (i := 85) (by decide +kernel)) rfl, zIn 73 (by decide +kernel) rfl⟩
theorem lX12_524 : Cond.methodLink RX12 524 yX12_writeBlock ∈ zT ∧ Cond.instanceMethod yX12_writeBlock ∈ zT ∧ Cond.selects yX12_writeBlock.cls yX12_writeBlock yX12_writeBlock ∈ zT := ⟨zCh_7 (List.mem_of_getElem? (i := 95) (by decide +kernel)) rfl, zCh_7 (List.mem_of_getElem? (i := 97) (by decide +kernel)) rfl, zIn 76 (by decide +kernel) rfl⟩
theorem lX12_527 : Cond.methodLink RX12 527 yX12_writeProposal ∈ zT ∧ Cond.instanceMethod yX12_writeProposal ∈ zT ∧ Cond.selects yX12_writeProposal.cls yX12_writeProposal yX12_writeProposal ∈ zT := ⟨zCh_7 (List.mem_of_getElem? (i := 79) (by decide +kernel)) rfl, zCh_7 (List.mem_of_getElem? (i := 81) (by decide +kernel)) rfl, zIn 72 (by decide +kernel) rfl⟩
theorem lX12_531 : Cond.methodLink RX12 531 yX12_noteSent ∈ zT ∧ Cond.instanceMethod yX12_noteSent ∈ zT ∧ Cond.selects yX12_noteSent.cls yX12_noteSent yX12_noteSent ∈ zT := ⟨zCh_7 (List.mem_of_getElem? (i := 99) (by decide +kernel)) rfl, zCh_7 (List.mem_of_getElem? (i := 101) (by decide +kernel)) rfl, zIn 77 (by decide +kernel) rfl⟩
theorem lX12_534 : Cond.methodLink RX12 534 yX12_sendLogged ∈ zT ∧ Cond.instanceMethod yX12_sendLogged ∈ zT ∧ Cond.selects yX12_sendLogged.cls yX12_sendLogged yX12_sendLogged ∈ zT := ⟨zCh_7 (List.mem_of_getElem? (i := 107) (by decide +kernel)) rfl, zCh_7 (List.mem_of_getElem? (i := 109) (by decide +kernel)) rfl, zIn 79 (by decide +kernel) rfl⟩
theorem lX12_537 : Cond.methodLink RX12 537 yX12_writeId ∈ zT ∧ Cond.instanceMethod yX12_writeId ∈ zT ∧ Cond.selects yX12_writeId.cls yX12_writeId yX12_writeId ∈ zT := ⟨zCh_7 (List.mem_of_getElem? (i := 231) (by decide +kernel)) rfl, zCh_7 (List.mem_of_getElem? (i := 233) (by decide +kernel)) rfl, zIn 110 (by decide +kernel) rfl⟩
theorem lX12_541 : Cond.methodLink RX12 541 yX12_makerOf ∈ zT ∧ Cond.instanceMethod yX12_makerOf ∈ zT ∧ Cond.selects yX12_makerOf.cls yX12_makerOf yX12_makerOf ∈ zT := ⟨zCh_6 (List.mem_of_getElem? (i := 164) (by decide +kernel)) rfl, zCh_6 (List.mem_of_getElem? (i := 166) (by decide +kernel)) rfl, zIn 42 (by decide +kernel) rfl⟩
theorem lX12_544 : Cond.methodLink RX12 544 yX12_fine ∈ zT ∧ Cond.instanceMethod yX12_fine ∈ zT ∧ Cond.selects yX12_fine.cls yX12_fine yX12_fine ∈ zT := ⟨zCh_6 (List.mem_of_getElem? (i := 168) (by decide +kernel)) rfl, zCh_6 (List.mem_of_getElem? (i := 170) (by decide +kernel)) rfl, zIn 43 (by decide +kernel) rfl⟩
theorem lX12_547 : Cond.methodLink RX12 547 yX12_pay ∈ zT ∧ Cond.instanceMethod yX12_pay ∈ zT ∧ Cond.selects yX12_pay.cls yX12_pay yX12_pay ∈ zT := ⟨zCh_6 (List.mem_of_getElem? (i := 180) (by decide +kernel)) rfl, zCh_6 (List.mem_of_getElem? (i := 182) (by decide +kernel)) rfl, zIn 46 (by decide +kernel) rfl⟩
theorem lX12_551 : Cond.methodLink RX12 551 yX12_doParts ∈ zT ∧ Cond.instanceMethod yX12_doParts ∈ zT ∧ Cond.selects yX12_doParts.cls yX12_doParts yX12_doParts ∈ zT := ⟨zCh_6 (List.mem_of_getElem? (i := 152) (by decide +kernel)) rfl, zCh_6 (List.mem_of_getElem? (i := 154) (by decide +kernel)) rfl, zIn 39 (by decide +kernel) rfl⟩
theorem lX12_554 : Cond.methodLink RX12 554 yX12_statePart ∈ zT ∧ Cond.instanceMethod yX12_statePart ∈ zT ∧ Cond.selects yX12_statePart.cls yX12_statePart yX12_statePart ∈ zT := ⟨zCh_6 (List.mem_of_getElem? (i := 192) (by decide +kernel)) rfl, zCh_6 (List.mem_of_getElem? (i := 194) (by decide +kernel)) rfl, zIn 49 (by decide +kernel) rfl⟩
theorem lX12_557 : Cond.methodLink RX12 557 yX12_accountParts ∈ zT ∧ Cond.instanceMethod yX12_accountParts ∈ zT ∧ Cond.selects yX12_accountParts.cls yX12_accountParts yX12_accountParts ∈ zT := ⟨zCh_6 (List.mem_of_getElem? (i := 188) (by decide +kernel)) rfl, zCh_6 (List.mem_of_getElem? (i := 190) (by decide +kernel)) rfl, zIn 48 (by decide +kernel) rfl⟩
theorem lX12_560 : Cond.methodLink RX12 560 yX12_isPoolAt ∈ zT ∧ Cond.instanceMethod yX12_isPoolAt ∈ zT ∧ Cond.selects yX12_isPoolAt.cls yX12_isPoolAt yX12_isPoolAt ∈ zT := ⟨zCh_9 (List.mem_of_getElem? (i := 112) (by decide +kernel)) rfl, zCh_9 (List.mem_of_getElem? (i := 114) (by decide +kernel)) rfl, zIn 130 (by decide +kernel) rfl⟩
theorem lX12_563 : Cond.methodLink RX12 563 yX12_isIn ∈ zT ∧ Cond.instanceMethod yX12_isIn ∈ zT ∧ Cond.selects yX12_isIn.cls yX12_isIn yX12_isIn ∈ zT := ⟨zCh_7 (List.mem_of_getElem? (i := 211) (by decide +kernel)) rfl, zCh_7 (List.mem_of_getElem? (i := 213) (by decide +kernel)) rfl, zIn 105 (by decide +kernel) rfl⟩
theorem lX12_566 : Cond.methodLink RX12 566 yX12_noteRound ∈ zT ∧ Cond.instanceMethod yX12_noteRound ∈ zT ∧ Cond.selects yX12_noteRound.cls yX12_noteRound yX12_noteRound ∈ zT := ⟨zCh_7 (List.mem_of_getElem? (i := 11) (by decide +kernel)) rfl, zCh_7 (List.mem_of_getElem? (i := 13) (by decide +kernel)) rfl, zIn 57 (by decide +kernel) rfl⟩
theorem lX12_569 : Cond.methodLink RX12 569 yX12_notBeen ∈ zT ∧ Cond.instanceMethod yX12_notBeen ∈ zT ∧ Cond.selects yX12_notBeen.cls yX12_notBeen yX12_notBeen ∈ zT := ⟨zCh_7 (List.mem_of_getElem? (i := 59) (by decide +kernel)) rfl, zCh_7 (List.mem_of_getElem? (i := 61) (by decide +kernel)) rfl, zIn 67 (by decide +kernel) rfl⟩
theorem lX12_572 : Cond.methodLink RX12 572 yX12_setTimer ∈ zT ∧ Cond.instanceMethod yX12_setTimer ∈ zT ∧ Cond.selects yX12_setTimer.cls yX12_setTimer yX12_setTimer ∈ zT := ⟨zCh_7 (List.mem_of_getElem? (i := 63) (by decide +kernel)) rfl, zCh_7 (List.mem_of_getElem? (i := 65) (by decide +kernel)) rfl, zIn 68 (by decide +kernel) rfl⟩
theorem lX12_575 : Cond.methodLink RX12 575 yX12_proposer ∈ zT ∧ Cond.instanceMethod yX12_proposer ∈ zT ∧ Cond.selects yX12_proposer.cls yX12_proposer yX12_proposer ∈ zT := ⟨zCh_7 (List.mem_of_getElem? (i := 67) (by decide +kernel)) rfl, zCh_7 (List.mem_of_getElem? (i := 69) (by decide +kernel)) rfl, zIn 69 (by decide +kernel) rfl⟩
theorem lX12_578 : Cond.methodLink RX12 578 yX12_propose ∈ zT ∧ Cond.instanceMethod yX12_propose ∈ zT ∧ Cond.selects yX12_propose.cls yX12_propose yX12_propose ∈ zT := ⟨zCh_7 (List.mem_of_getElem? (i := 75) (by decide +kernel)) rfl, zCh_7 (List.mem_of_getElem? (i := 77) (by decide +kernel)) rfl, zIn 71 (by decide +kernel) rfl⟩
theorem lX12_582 : Cond.methodLink RX12 582 yX12_build ∈ zT ∧ Cond.instanceMethod yX12_build ∈ zT ∧ Cond.selects yX12_build.cls yX12_build yX12_build ∈ zT := ⟨zCh_7 (List.mem_of_getElem? (i := 131) (by decide +kernel)) rfl, zCh_7 (List.mem_of_getElem? (i := 133) (by decide +kernel)) rfl, zIn 85 (by decide +kernel) rfl⟩
theorem lX12_585 : Cond.methodLink RX12 585 yX12_isSameSnap ∈ zT ∧ Cond.instanceMethod yX12_isSameSnap ∈ zT ∧ Cond.selects yX12_isSameSnap.cls yX12_isSameSnap yX12_isSameSnap ∈ zT := ⟨zCh_7 (List.mem_of_getElem? (i := 155) (by decide +kernel)) rfl, zCh_7 (List.mem_of_getElem? (i := 157) (by decide +kernel)) rfl, zIn 91 (by decide +kernel) rfl⟩
theorem lX12_588 : Cond.methodLink RX12 588 yX12_noteSnap ∈ zT ∧ Cond.instanceMethod yX12_noteSnap ∈ zT ∧ Cond.selects yX12_noteSnap.cls yX12_noteSnap yX12_noteSnap ∈ zT := ⟨zCh_7 (List.mem_of_getElem? (i := 163) (by decide +kernel)) rfl, zCh_7 (List.mem_of_getElem? (i := 165) (by decide +kernel)) rfl, zIn 93 (by decide +kernel) rfl⟩
theorem lX12_591 : Cond.methodLink RX12 591 yX12_rise ∈ zT ∧ Cond.instanceMethod yX12_rise ∈ zT ∧ Cond.selects yX12_rise.cls yX12_rise yX12_rise ∈ zT := ⟨zCh_7 (List.mem_of_getElem? (i := 167) (by decide +kernel)) rfl, zCh_7 (List.mem_of_getElem? (i := 169) (by decide +kernel)) rfl, zIn 94 (by decide +kernel) rfl⟩
theorem lX12_594 : Cond.methodLink RX12 594 yX12_sameBlock ∈ zT ∧ Cond.instanceMethod yX12_sameBlock ∈ zT ∧ Cond.selects yX12_sameBlock.cls yX12_sameBlock yX12_sameBlock ∈ zT := ⟨zCh_7 (List.mem_of_getElem? (i := 175) (by decide +kernel)) rfl, zCh_7 (List.mem_of_getElem? (i := 177) (by decide +kernel)) rfl, zIn 96 (by decide +kernel) rfl⟩
theorem lX12_597 : Cond.methodLink RX12 597 yX12_isValid ∈ zT ∧ Cond.instanceMethod yX12_isValid ∈ zT ∧ Cond.selects yX12_isValid.cls yX12_isValid yX12_isValid ∈ zT := ⟨zCh_7 (List.mem_of_getElem? (i := 179) (by decide +kernel)) rfl, zCh_7 (List.mem_of_getElem? (i := 181) (by decide +kernel)) rfl, zIn 97 (by decide +kernel) rfl⟩
theorem lX12_600 : Cond.methodLink RX12 600 yX12_count0 ∈ zT ∧ Cond.instanceMethod yX12_count0 ∈ zT ∧ Cond.selects yX12_count0.cls yX12_count0 yX12_count0 ∈ zT := ⟨zCh_7 (List.mem_of_getElem? (i := 187) (by decide +kernel)) rfl, zCh_7 (List.mem_of_getElem? (i := 189) (by decide +kernel)) rfl, zIn 99 (by decide +kernel) rfl⟩
theorem lX12_603 : Cond.methodLink RX12 603 yX12_quorum ∈ zT ∧ Cond.instanceMethod yX12_quorum ∈ zT ∧ Cond.selects yX12_quorum.cls yX12_quorum yX12_quorum ∈ zT := ⟨zCh_7 (List.mem_of_getElem? (i := 191) (by decide +kernel)) rfl, zCh_7 (List.mem_of_getElem? (i := 193) (by decide +kernel)) rfl, zIn 100 (by decide +kernel) rfl⟩
theorem lX12_606 : Cond.methodLink RX12 606 yX12_noteChain ∈ zT ∧ Cond.instanceMethod yX12_noteChain ∈ zT ∧ Cond.selects yX12_noteChain.cls yX12_noteChain yX12_noteChain ∈ zT := ⟨zCh_7 (List.mem_of_getElem? (i := 199) (by decide +kernel)) rfl, zCh_7 (List.mem_of_getElem? (i := 201) (by decide +kernel)) rfl, zIn 102 (by decide +kernel) rfl⟩
theorem lX12_609 : Cond.methodLink RX12 609 yX12_fromPool ∈ zT ∧ Cond.instanceMethod yX12_fromPool ∈ zT ∧ Cond.selects yX12_fromPool.cls yX12_fromPool yX12_fromPool ∈ zT := ⟨zCh_7 (List.mem_of_getElem? (i := 207) (by decide +kernel)) rfl, zCh_7 (List.mem_of_getElem? (i := 209) (by decide +kernel)) rfl, zIn 104 (by decide +kernel) rfl⟩
theorem lX12_612 : Cond.methodLink RX12 612 yX12_snapshot ∈ zT ∧ Cond.instanceMethod yX12_snapshot ∈ zT ∧ Cond.selects yX12_snapshot.cls yX12_snapshot yX12_snapshot ∈ zT := ⟨zCh_7 (List.mem_of_getElem? (i := 151) (by decide +kernel)) rfl, zCh_7 (List.mem_of_getElem? (i := 153) (by decide +kernel)) rfl, zIn 90 (by decide +kernel) rfl⟩
theorem lX12_615 : Cond.methodLink RX12 615 yX12_take ∈ zT ∧ Cond.instanceMethod yX12_take ∈ zT ∧ Cond.selects yX12_take.cls yX12_take yX12_take ∈ zT := ⟨zCh_7 (List.mem_of_getElem? (i := 159) (by decide +kernel)) rfl, zCh_7 (List.mem_of_getElem? (i := 161) (by decide +kernel)) rfl, zIn 92 (by decide +kernel) rfl⟩
theorem lX12_618 : Cond.methodLink RX12 618 yX12_decision ∈ zT ∧ Cond.instanceMethod yX12_decision ∈ zT ∧ Cond.selects yX12_decision.cls yX12_decision yX12_decision ∈ zT := ⟨zCh_7 (List.mem_of_getElem? (i := 171) (by decide +kernel)) rfl, zCh_7 (List.mem_of_getElem? (i := 173) (by decide +kernel)) rfl, zIn 95 (by decide +kernel) rfl⟩
theorem lX12_621 : Cond.methodLink RX12 621 yX12_decide ∈ zT ∧ Cond.instanceMethod yX12_decide ∈ zT ∧ Cond.selects yX12_decide.cls yX12_decide yX12_decide ∈ zT := ⟨zCh_7 (List.mem_of_getElem? (i := 195) (by decide +kernel)) rfl, zCh_7 (List.mem_of_getElem? (i := 197) (by decide +kernel)) rfl, zIn 101 (by decide +kernel) rfl⟩
theorem lX12_624 : Cond.methodLink RX12 624 yX12_ahead ∈ zT ∧ Cond.instanceMethod yX12_ahead ∈ zT ∧ Cond.selects yX12_ahead.cls yX12_ahead yX12_ahead ∈ zT := ⟨zCh_7 (List.mem_of_getElem? (i := 215) (by decide +kernel)) rfl, zCh_7 (List.mem_of_getElem? (i := 217) (by decide +kernel)) rfl, zIn 106 (by decide +kernel) rfl⟩
theorem lX12_627 : Cond.methodLink RX12 627 yX12_mayVote ∈ zT ∧ Cond.instanceMethod yX12_mayVote ∈ zT ∧ Cond.selects yX12_mayVote.cls yX12_mayVote yX12_mayVote ∈ zT := ⟨zCh_7 (List.mem_of_getElem? (i := 219) (by decide +kernel)) rfl, zCh_7 (List.mem_of_getElem? (i := 221) (by decide +kernel)) rfl, zIn 107 (by decide +kernel) rfl⟩
theorem lX12_630 : Cond.methodLink RX12 630 yX12_prevote ∈ zT ∧ Cond.instanceMethod yX12_prevote ∈ zT ∧ Cond.selects yX12_prevote.cls yX12_prevote yX12_prevote ∈ zT := ⟨zCh_7 (List.mem_of_getElem? (i := 223) (by decide +kernel)) rfl, zCh_7 (List.mem_of_getElem? (i := 225) (by decide +kernel)) rfl, zIn 108 (by decide +kernel) rfl⟩
theorem lX12_633 : Cond.methodLink RX12 633 yX12_rule8 ∈ zT ∧ Cond.instanceMethod yX12_rule8 ∈ zT ∧ Cond.selects yX12_rule8.cls yX12_rule8 yX12_rule8 ∈ zT := ⟨zCh_7 (List.mem_of_getElem? (i := 235) (by decide +kernel)) rfl, zCh_7 (List.mem_of_getElem? (i := 237) (by decide +kernel)) rfl, zIn 111 (by decide +kernel) rfl⟩
theorem lX12_636 : Cond.methodLink RX12 636 yX12_rule5 ∈ zT ∧ Cond.instanceMethod yX12_rule5 ∈ zT ∧ Cond.selects yX12_rule5.cls yX12_rule5 yX12_rule5 ∈ zT := ⟨zCh_7 (List.mem_of_getElem? (i := 239) (by decide +kernel)) rfl, zCh_8 (List.mem_of_getElem? (i := 1) (by decide +kernel)) rfl, zIn 112 (by decide +kernel) rfl⟩
theorem lX12_639 : Cond.methodLink RX12 639 yX12_vote ∈ zT ∧ Cond.instanceMethod yX12_vote ∈ zT ∧ Cond.selects yX12_vote.cls yX12_vote yX12_vote ∈ zT := ⟨zCh_7 (List.mem_of_getElem? (i := 227) (by decide +kernel)) rfl, zCh_7 (List.mem_of_getElem? (i := 229) (by decide +kernel)) rfl, zIn 109 (by decide +kernel) rfl⟩
theorem lX12_643 : Cond.methodLink RX12 643 yX12_noteLock ∈ zT ∧ Cond.instanceMethod yX12_noteLock ∈ zT ∧ Cond.selects yX12_noteLock.cls yX12_noteLock yX12_noteLock ∈ zT := ⟨zCh_8 (List.mem_of_getElem? (i := 3) (by decide +kernel)) rfl, zCh_8 (List.mem_of_getElem? (i := 5) (by decide +kernel)) rfl, zIn 113 (by decide +kernel) rfl⟩
theorem lX12_646 : Cond.methodLink RX12 646 yX12_rule ∈ zT ∧ Cond.instanceMethod yX12_rule ∈ zT ∧ Cond.selects yX12_rule.cls yX12_rule yX12_rule ∈ zT := ⟨zCh_7 (List.mem_of_getElem? (i := 147) (by decide +kernel)) rfl, zCh_7 (List.mem_of_getElem? (i := 149) (by decide +kernel)) rfl, zIn 89 (by decide +kernel) rfl⟩
theorem lX12_649 : Cond.methodLink RX12 649 yX12_read ∈ zT ∧ Cond.instanceMethod yX12_read ∈ zT ∧ Cond.selects yX12_read.cls yX12_read yX12_read ∈ zT := ⟨zCh_9 (List.mem_of_getElem? (i := 43) (by decide +kernel)) rfl, zCh_9 (List.mem_of_getElem? (i := 45) (by decide +kernel)) rfl, zIn 115 (by decide +kernel) rfl⟩
theorem lX12_652 : Cond.methodLink RX12 652 yX12_toPool ∈ zT ∧ Cond.instanceMethod yX12_toPool ∈ zT ∧ Cond.selects yX12_toPool.cls yX12_toPool yX12_toPool ∈ zT := ⟨zCh_9 (List.mem_of_getElem? (i := 108) (by decide +kernel)) rfl, zCh_9 (List.mem_of_getElem? (i := 110) (by decide +kernel)) rfl, zIn 129 (by decide +kernel) rfl⟩
theorem lX12_655 : Cond.methodLink RX12 655 yX12_sendOn ∈ zT ∧ Cond.instanceMethod yX12_sendOn ∈ zT ∧ Cond.selects yX12_sendOn.cls yX12_sendOn yX12_sendOn ∈ zT := ⟨zCh_9 (List.mem_of_getElem? (i := 124) (by decide +kernel)) rfl, zCh_9 (List.mem_of_getElem? (i := 126) (by decide +kernel)) rfl, zIn 132 (by decide +kernel) rfl⟩
theorem lX12_658 : Cond.methodLink RX12 658 yX12_keepProof ∈ zT ∧ Cond.instanceMethod yX12_keepProof ∈ zT ∧ Cond.selects yX12_keepProof.cls yX12_keepProof yX12_keepProof ∈ zT := ⟨zCh_9 (List.mem_of_getElem? (i := 128) (by decide +kernel)) rfl, zCh_9 (List.mem_of_getElem? (i := 130) (by decide +kernel)) rfl, zIn 133 (by decide +kernel) rfl⟩
theorem lX12_661 : Cond.methodLink RX12 661 yX12_keepSnap ∈ zT ∧ Cond.instanceMethod yX12_keepSnap ∈ zT ∧ Cond.selects yX12_keepSnap.cls yX12_keepSnap yX12_keepSnap ∈ zT := ⟨zCh_9 (List.mem_of_getElem? (i := 132) (by decide +kernel)) rfl, zCh_9 (List.mem_of_getElem? (i := 134) (by decide +kernel)) rfl, zIn 134 (by decide +kernel) rfl⟩
theorem lX12_664 : Cond.methodLink RX12 664 yX12_answer ∈ zT ∧ Cond.instanceMethod yX12_answer ∈ zT ∧ Cond.selects yX12_answer.cls yX12_answer yX12_answer ∈ zT := ⟨zCh_9 (List.mem_of_getElem? (i := 136) (by decide +kernel)) rfl, zCh_9 (List.mem_of_getElem? (i := 138) (by decide +kernel)) rfl, zIn 135 (by decide +kernel) rfl⟩
theorem lX12_667 : Cond.methodLink RX12 667 yX12_answerHeld ∈ zT ∧ Cond.instanceMethod yX12_answerHeld ∈ zT ∧ Cond.selects yX12_answerHeld.cls yX12_answerHeld yX12_answerHeld ∈ zT := ⟨zCh_9 (List.mem_of_getElem? (i := 140) (by decide +kernel)) rfl, zCh_9 (List.mem_of_getElem? (i := 142) (by decide +kernel)) rfl, zIn 136 (by decide +kernel) rfl⟩
theorem lX12_670 : Cond.methodLink RX12 670 yX12_arrive ∈ zT ∧ Cond.instanceMethod yX12_arrive ∈ zT ∧ Cond.selects yX12_arrive.cls yX12_arrive yX12_arrive ∈ zT := ⟨zCh_9 (List.mem_of_getElem? (i := 144) (by decide +kernel)) rfl, zCh_9 (List.mem_of_getElem? (i := 146) (by decide +kernel)) rfl, zIn 137 (by decide +kernel) rfl⟩
theorem lX12_676 : Cond.methodLink RX12 676 yX12_writeAsk ∈ zT ∧ Cond.instanceMethod yX12_writeAsk ∈ zT ∧ Cond.selects yX12_writeAsk.cls yX12_writeAsk yX12_writeAsk ∈ zT := ⟨zCh_9 (List.mem_of_getElem? (i := 152) (by decide +kernel)) rfl, zCh_9 (List.mem_of_getElem? (i := 154) (by decide +kernel)) rfl, zIn 139 (by decide +kernel) rfl⟩
theorem lX12_679 : Cond.methodLink RX12 679 yX12_ask ∈ zT ∧ Cond.instanceMethod yX12_ask ∈ zT ∧ Cond.selects yX12_ask.cls yX12_ask yX12_ask ∈ zT := ⟨zCh_9 (List.mem_of_getElem? (i := 148) (by decide +kernel)) rfl, zCh_9 (List.mem_of_getElem? (i := 150) (by decide +kernel)) rfl, zIn 138 (by decide +kernel) rfl⟩
theorem lX12_682 : Cond.methodLink RX12 682 yX12_arriveProposal ∈ zT ∧ Cond.instanceMethod yX12_arriveProposal ∈ zT ∧ Cond.selects yX12_arriveProposal.cls yX12_arriveProposal yX12_arriveProposal ∈ zT := ⟨zCh_9 (List.mem_of_getElem? (i := 156) (by decide +kernel)) rfl, zCh_9 (List.mem_of_getElem? (i := 158) (by decide +kernel)) rfl, zIn 140 (by decide +kernel) rfl⟩
theorem lX12_685 : Cond.methodLink RX12 685 yX12_arriveVote ∈ zT ∧ Cond.instanceMethod yX12_arriveVote ∈ zT ∧ Cond.selects yX12_arriveVote.cls yX12_arriveVote yX12_arriveVote ∈ zT := ⟨zCh_9 (List.mem_of_getElem? (i := 169) (by decide +kernel)) rfl, zCh_9 (List.mem_of_getElem? (i := 171) (by decide +kernel)) rfl, zIn 143 (by decide +kernel) rfl⟩
theorem lX12_688 : Cond.methodLink RX12 688 yX12_evidence ∈ zT ∧ Cond.instanceMethod yX12_evidence ∈ zT ∧ Cond.selects yX12_evidence.cls yX12_evidence yX12_evidence ∈ zT := ⟨zCh_9 (List.mem_of_getElem? (i := 160) (by decide +kernel)) rfl, zCh_9 (List.mem_of_getElem? (i := 162) (by decide +kernel)) rfl, zIn 141 (by decide +kernel) rfl⟩
theorem lX12_694 : Cond.methodLink RX12 694 yX12_isLessId ∈ zT ∧ Cond.instanceMethod yX12_isLessId ∈ zT ∧ Cond.selects yX12_isLessId.cls yX12_isLessId yX12_isLessId ∈ zT := ⟨zCh_9 (List.mem_of_getElem? (i := 164) (by decide +kernel)) rfl, zCh_9 (List.mem_of_getElem? (i := 166) (by decide +kernel)) rfl, zIn 142 (by decide +kernel) rfl⟩
theorem lX12_697 : Cond.methodLink RX12 697 yX12_mayLie ∈ zT ∧ Cond.instanceMethod yX12_mayLie ∈ zT ∧ Cond.selects yX12_mayLie.cls yX12_mayLie yX12_mayLie ∈ zT := ⟨zCh_9 (List.mem_of_getElem? (i := 39) (by decide +kernel)) rfl, zCh_9 (List.mem_of_getElem? (i := 41) (by decide +kernel)) rfl, zIn 114 (by decide +kernel) rfl⟩
theorem lX12_700 : Cond.methodLink RX12 700 yX12_tellsHonest ∈ zT ∧ Cond.instanceMethod yX12_tellsHonest ∈ zT ∧ Cond.selects yX12_tellsHonest.cls yX12_tellsHonest yX12_tellsHonest ∈ zT := ⟨zCh_9 (List.mem_of_getElem? (i := 87) (by decide +kernel)) rfl, zCh_9 (List.mem_of_getElem? (i := 89) (by decide +kernel)) rfl, zIn 126 (by decide +kernel) rfl⟩
theorem lX12_703 : Cond.methodLink RX12 703 yX12_load ∈ zT ∧ Cond.instanceMethod yX12_load ∈ zT ∧ Cond.selects yX12_load.cls yX12_load yX12_load ∈ zT := ⟨zCh_9 (List.mem_of_getElem? (i := 95) (by decide +kernel)) rfl, zCh_9 (List.mem_of_getElem? (i := 97) (by decide +kernel)) rfl, zIn 127 (by decide +kernel) rfl⟩
theorem lX12_707 : Cond.methodLink RX12 707 yX12_isUp ∈ zT ∧ Cond.instanceMethod yX12_isUp ∈ zT ∧ Cond.selects yX12_isUp.cls yX12_isUp yX12_isUp ∈ zT := ⟨zCh_9 (List.mem_of_getElem? (i := 104) (by decide +kernel)) rfl, zCh_9 (List.mem_of_getElem? (i := 106) (by decide +kernel)) rfl, zIn 128 (by decide +kernel) rfl⟩
theorem lX12_710 : Cond.methodLink RX12 710 yX12_come ∈ zT ∧ Cond.instanceMethod yX12_come ∈ zT ∧ Cond.selects yX12_come.cls yX12_come yX12_come ∈ zT := ⟨zCh_9 (List.mem_of_getElem? (i := 120) (by decide +kernel)) rfl, zCh_9 (List.mem_of_getElem? (i := 122) (by decide +kernel)) rfl, zIn 131 (by decide +kernel) rfl⟩
theorem lX12_713 : Cond.methodLink RX12 713 yX12_deliver ∈ zT ∧ Cond.instanceMethod yX12_deliver ∈ zT ∧ Cond.selects yX12_deliver.cls yX12_deliver yX12_deliver ∈ zT := ⟨zCh_9 (List.mem_of_getElem? (i := 177) (by decide +kernel)) rfl, zCh_9 (List.mem_of_getElem? (i := 117) (by decide +kernel)) rfl, zCh_9 (List.mem_of_getElem? (i := 118) (by decide +kernel)) rfl⟩
theorem lX12_716 : Cond.methodLink RX12 716 yX12_tick ∈ zT ∧ Cond.instanceMethod yX12_tick ∈ zT ∧ Cond.selects yX12_tick.cls yX12_tick yX12_tick ∈ zT := ⟨zCh_9 (List.mem_of_getElem? (i := 178) (by decide +kernel)) rfl, zCh_9 (List.mem_of_getElem? (i := 179) (by decide +kernel)) rfl, zCh_9 (List.mem_of_getElem? (i := 180) (by decide +kernel)) rfl⟩
theorem lX12_719 : Cond.methodLink RX12 719 yX12_end ∈ zT ∧ Cond.instanceMethod yX12_end ∈ zT ∧ Cond.selects yX12_end.cls yX12_end yX12_end ∈ zT := ⟨zCh_9 (List.mem_of_getElem? (i := 182) (by decide +kernel)) rfl, zCh_9 (List.mem_of_getElem? (i := 184) (by decide +kernel)) rfl, zIn 144 (by decide +kernel) rfl⟩
theorem lX12_722 : Cond.methodLink RX12 722 yX12_partsOf ∈ zT ∧ Cond.instanceMethod yX12_partsOf ∈ zT ∧ Cond.selects yX12_partsOf.cls yX12_partsOf yX12_partsOf ∈ zT := ⟨zCh_9 (List.mem_of_getElem? (i := 227) (by decide +kernel)) rfl, zCh_9 (List.mem_of_getElem? (i := 229) (by decide +kernel)) rfl, zIn 145 (by decide +kernel) rfl⟩
theorem lX12_725 : Cond.methodLink RX12 725 yX12_path ∈ zT ∧ Cond.instanceMethod yX12_path ∈ zT ∧ Cond.selects yX12_path.cls yX12_path yX12_path ∈ zT := ⟨zCh_9 (List.mem_of_getElem? (i := 231) (by decide +kernel)) rfl, zCh_9 (List.mem_of_getElem? (i := 233) (by decide +kernel)) rfl, zIn 146 (by decide +kernel) rfl⟩
theorem lX12_728 : Cond.methodLink RX12 728 yX12_told ∈ zT ∧ Cond.instanceMethod yX12_told ∈ zT ∧ Cond.selects yX12_told.cls yX12_told yX12_told ∈ zT := ⟨zCh_9 (List.mem_of_getElem? (i := 239) (by decide +kernel)) rfl, zCh_10 (List.mem_of_getElem? (i := 1) (by decide +kernel)) rfl, zIn 148 (by decide +kernel) rfl⟩
theorem fX12_1 : Cond.fieldLink RX12 1 "QuorumLedgerModel" "begins" "[I" ∈ zT := zCh_8 (List.mem_of_getElem? (i := 18) (by decide +kernel)) rfl
theorem fX12_11 : Cond.fieldLink RX12 11 "QuorumLedgerModel" "rounds" "[I" ∈ zT := zCh_8 (List.mem_of_getElem? (i := 17) (by decide +kernel)) rfl
theorem fX12_22 : Cond.fieldLink RX12 22 "QuorumLedgerModel" "hashed" "[I" ∈ zT := zCh_8 (List.mem_of_getElem? (i := 13) (by decide +kernel)) rfl
theorem fX12_25 : Cond.fieldLink RX12 25 "QuorumLedgerModel" "hashSize" "I" ∈ zT := zCh_8 (List.mem_of_getElem? (i := 14) (by decide +kernel)) rfl
theorem fX12_33 : Cond.fieldLink RX12 33 "QuorumLedgerModel" "sums" "[I" ∈ zT := zCh_8 (List.mem_of_getElem? (i := 15) (by decide +kernel)) rfl
theorem fX12_39 : Cond.fieldLink RX12 39 "QuorumLedgerModel" "schedule" "[I" ∈ zT := zCh_8 (List.mem_of_getElem? (i := 16) (by decide +kernel)) rfl
theorem fX12_45 : Cond.fieldLink RX12 45 "QuorumLedgerModel" "words" "[J" ∈ zT := zCh_8 (List.mem_of_getElem? (i := 19) (by decide +kernel)) rfl
theorem fX12_57 : Cond.fieldLink RX12 57 "QuorumLedgerModel" "sizes" "[I" ∈ zT := zCh_8 (List.mem_of_getElem? (i := 21) (by decide +kernel)) rfl
theorem fX12_60 : Cond.fieldLink RX12 60 "QuorumLedgerModel" "ids" "[J" ∈ zT := zCh_8 (List.mem_of_getElem? (i := 20) (by decide +kernel)) rfl
theorem fX12_78 : Cond.fieldLink RX12 78 "QuorumLedgerModel" "partCount" "I" ∈ zT := zCh_8 (List.mem_of_getElem? (i := 24) (by decide +kernel)) rfl
theorem fX12_81 : Cond.fieldLink RX12 81 "QuorumLedgerModel" "partAt" "[I" ∈ zT := zCh_8 (List.mem_of_getElem? (i := 23) (by decide +kernel)) rfl
theorem fX12_84 : Cond.fieldLink RX12 84 "QuorumLedgerModel" "parts" "[I" ∈ zT := zCh_8 (List.mem_of_getElem? (i := 22) (by decide +kernel)) rfl
theorem fX12_87 : Cond.fieldLink RX12 87 "QuorumLedgerModel" "leaves" "[J" ∈ zT := zCh_8 (List.mem_of_getElem? (i := 25) (by decide +kernel)) rfl
theorem fX12_103 : Cond.fieldLink RX12 103 "QuorumLedgerModel" "out" "[I" ∈ zT := zCh_8 (List.mem_of_getElem? (i := 26) (by decide +kernel)) rfl
theorem fX12_106 : Cond.fieldLink RX12 106 "QuorumLedgerModel" "outSize" "I" ∈ zT := zCh_8 (List.mem_of_getElem? (i := 27) (by decide +kernel)) rfl
theorem fX12_130 : Cond.fieldLink RX12 130 "QuorumLedgerModel" "tape" "[I" ∈ zT := zCh_8 (List.mem_of_getElem? (i := 28) (by decide +kernel)) rfl
theorem fX12_133 : Cond.fieldLink RX12 133 "QuorumLedgerModel" "taped" "I" ∈ zT := zCh_8 (List.mem_of_getElem? (i := 29) (by decide +kernel)) rfl
theorem fX12_173 : Cond.fieldLink RX12 173 "QuorumLedgerModel" "flySize" "[I" ∈ zT := zCh_8 (List.mem_of_getElem? (i := 36) (by decide +kernel)) rfl
theorem fX12_176 : Cond.fieldLink RX12 176 "QuorumLedgerModel" "order" "[I" ∈ zT := zCh_8 (List.mem_of_getElem? (i := 31) (by decide +kernel)) rfl
theorem fX12_179 : Cond.fieldLink RX12 179 "QuorumLedgerModel" "flyWords" "[J" ∈ zT := zCh_8 (List.mem_of_getElem? (i := 38) (by decide +kernel)) rfl
theorem fX12_182 : Cond.fieldLink RX12 182 "QuorumLedgerModel" "flying" "I" ∈ zT := zCh_8 (List.mem_of_getElem? (i := 30) (by decide +kernel)) rfl
theorem fX12_185 : Cond.fieldLink RX12 185 "QuorumLedgerModel" "sentAll" "I" ∈ zT := zCh_8 (List.mem_of_getElem? (i := 11) (by decide +kernel)) rfl
theorem fX12_188 : Cond.fieldLink RX12 188 "QuorumLedgerModel" "lost" "I" ∈ zT := zCh_8 (List.mem_of_getElem? (i := 12) (by decide +kernel)) rfl
theorem fX12_195 : Cond.fieldLink RX12 195 "QuorumLedgerModel" "flyFrom" "[I" ∈ zT := zCh_8 (List.mem_of_getElem? (i := 34) (by decide +kernel)) rfl
theorem fX12_198 : Cond.fieldLink RX12 198 "QuorumLedgerModel" "flyTo" "[I" ∈ zT := zCh_8 (List.mem_of_getElem? (i := 35) (by decide +kernel)) rfl
theorem fX12_201 : Cond.fieldLink RX12 201 "QuorumLedgerModel" "msgSize" "I" ∈ zT := zCh_8 (List.mem_of_getElem? (i := 40) (by decide +kernel)) rfl
theorem fX12_204 : Cond.fieldLink RX12 204 "QuorumLedgerModel" "msg" "[I" ∈ zT := zCh_8 (List.mem_of_getElem? (i := 39) (by decide +kernel)) rfl
theorem fX12_207 : Cond.fieldLink RX12 207 "QuorumLedgerModel" "spares" "I" ∈ zT := zCh_8 (List.mem_of_getElem? (i := 32) (by decide +kernel)) rfl
theorem fX12_210 : Cond.fieldLink RX12 210 "QuorumLedgerModel" "spare" "[I" ∈ zT := zCh_8 (List.mem_of_getElem? (i := 33) (by decide +kernel)) rfl
theorem fX12_213 : Cond.fieldLink RX12 213 "QuorumLedgerModel" "flyTick" "[I" ∈ zT := zCh_8 (List.mem_of_getElem? (i := 37) (by decide +kernel)) rfl
theorem fX12_216 : Cond.fieldLink RX12 216 "QuorumLedgerModel" "ticks" "I" ∈ zT := zCh_8 (List.mem_of_getElem? (i := 10) (by decide +kernel)) rfl
theorem fX12_219 : Cond.fieldLink RX12 219 "QuorumLedgerModel" "nodes" "I" ∈ zT := zCh_8 (List.mem_of_getElem? (i := 7) (by decide +kernel)) rfl
theorem fX12_257 : Cond.fieldLink RX12 257 "QuorumLedgerModel" "inHeight" "I" ∈ zT := zCh_8 (List.mem_of_getElem? (i := 45) (by decide +kernel)) rfl
theorem fX12_260 : Cond.fieldLink RX12 260 "QuorumLedgerModel" "inSigner" "I" ∈ zT := zCh_8 (List.mem_of_getElem? (i := 44) (by decide +kernel)) rfl
theorem fX12_263 : Cond.fieldLink RX12 263 "QuorumLedgerModel" "inRound" "I" ∈ zT := zCh_8 (List.mem_of_getElem? (i := 46) (by decide +kernel)) rfl
theorem fX12_266 : Cond.fieldLink RX12 266 "QuorumLedgerModel" "inFor" "Z" ∈ zT := zCh_8 (List.mem_of_getElem? (i := 48) (by decide +kernel)) rfl
theorem fX12_270 : Cond.fieldLink RX12 270 "QuorumLedgerModel" "inId" "[J" ∈ zT := zCh_8 (List.mem_of_getElem? (i := 49) (by decide +kernel)) rfl
theorem fX12_273 : Cond.fieldLink RX12 273 "QuorumLedgerModel" "inValid" "I" ∈ zT := zCh_8 (List.mem_of_getElem? (i := 47) (by decide +kernel)) rfl
theorem fX12_282 : Cond.fieldLink RX12 282 "QuorumLedgerModel" "kind" "I" ∈ zT := zCh_8 (List.mem_of_getElem? (i := 43) (by decide +kernel)) rfl
theorem fX12_302 : Cond.fieldLink RX12 302 "QuorumLedgerModel" "kept" "[I" ∈ zT := zCh_8 (List.mem_of_getElem? (i := 41) (by decide +kernel)) rfl
theorem fX12_305 : Cond.fieldLink RX12 305 "QuorumLedgerModel" "up" "[Z" ∈ zT := zCh_8 (List.mem_of_getElem? (i := 50) (by decide +kernel)) rfl
theorem fX12_309 : Cond.fieldLink RX12 309 "QuorumLedgerModel" "height" "[I" ∈ zT := zCh_8 (List.mem_of_getElem? (i := 51) (by decide +kernel)) rfl
theorem fX12_312 : Cond.fieldLink RX12 312 "QuorumLedgerModel" "round" "[I" ∈ zT := zCh_8 (List.mem_of_getElem? (i := 52) (by decide +kernel)) rfl
theorem fX12_315 : Cond.fieldLink RX12 315 "QuorumLedgerModel" "step" "[I" ∈ zT := zCh_8 (List.mem_of_getElem? (i := 53) (by decide +kernel)) rfl
theorem fX12_318 : Cond.fieldLink RX12 318 "QuorumLedgerModel" "lockRound" "[I" ∈ zT := zCh_8 (List.mem_of_getElem? (i := 54) (by decide +kernel)) rfl
theorem fX12_321 : Cond.fieldLink RX12 321 "QuorumLedgerModel" "validRound" "[I" ∈ zT := zCh_8 (List.mem_of_getElem? (i := 55) (by decide +kernel)) rfl
theorem fX12_324 : Cond.fieldLink RX12 324 "QuorumLedgerModel" "been5" "[Z" ∈ zT := zCh_8 (List.mem_of_getElem? (i := 56) (by decide +kernel)) rfl
theorem fX12_327 : Cond.fieldLink RX12 327 "QuorumLedgerModel" "been7" "[Z" ∈ zT := zCh_8 (List.mem_of_getElem? (i := 57) (by decide +kernel)) rfl
theorem fX12_330 : Cond.fieldLink RX12 330 "QuorumLedgerModel" "been8" "[Z" ∈ zT := zCh_8 (List.mem_of_getElem? (i := 58) (by decide +kernel)) rfl
theorem fX12_333 : Cond.fieldLink RX12 333 "QuorumLedgerModel" "timer" "[I" ∈ zT := zCh_8 (List.mem_of_getElem? (i := 59) (by decide +kernel)) rfl
theorem fX12_336 : Cond.fieldLink RX12 336 "QuorumLedgerModel" "pooled" "[I" ∈ zT := zCh_8 (List.mem_of_getElem? (i := 60) (by decide +kernel)) rfl
theorem fX12_339 : Cond.fieldLink RX12 339 "QuorumLedgerModel" "pool" "[I" ∈ zT := zCh_8 (List.mem_of_getElem? (i := 61) (by decide +kernel)) rfl
theorem fX12_342 : Cond.fieldLink RX12 342 "QuorumLedgerModel" "proofSize" "[I" ∈ zT := zCh_8 (List.mem_of_getElem? (i := 62) (by decide +kernel)) rfl
theorem fX12_345 : Cond.fieldLink RX12 345 "QuorumLedgerModel" "proof" "[I" ∈ zT := zCh_8 (List.mem_of_getElem? (i := 63) (by decide +kernel)) rfl
theorem fX12_348 : Cond.fieldLink RX12 348 "QuorumLedgerModel" "snapHeight" "[I" ∈ zT := zCh_8 (List.mem_of_getElem? (i := 64) (by decide +kernel)) rfl
theorem fX12_351 : Cond.fieldLink RX12 351 "QuorumLedgerModel" "snap" "[I" ∈ zT := zCh_8 (List.mem_of_getElem? (i := 65) (by decide +kernel)) rfl
theorem fX12_354 : Cond.fieldLink RX12 354 "QuorumLedgerModel" "heldValid" "[I" ∈ zT := zCh_8 (List.mem_of_getElem? (i := 66) (by decide +kernel)) rfl
theorem fX12_357 : Cond.fieldLink RX12 357 "QuorumLedgerModel" "votes" "[I" ∈ zT := zCh_8 (List.mem_of_getElem? (i := 67) (by decide +kernel)) rfl
theorem fX12_360 : Cond.fieldLink RX12 360 "QuorumLedgerModel" "votes0" "[J" ∈ zT := zCh_8 (List.mem_of_getElem? (i := 68) (by decide +kernel)) rfl
theorem fX12_363 : Cond.fieldLink RX12 363 "QuorumLedgerModel" "votes1" "[J" ∈ zT := zCh_8 (List.mem_of_getElem? (i := 69) (by decide +kernel)) rfl
theorem fX12_366 : Cond.fieldLink RX12 366 "QuorumLedgerModel" "votes2" "[J" ∈ zT := zCh_8 (List.mem_of_getElem? (i := 70) (by decide +kernel)) rfl
theorem fX12_369 : Cond.fieldLink RX12 369 "QuorumLedgerModel" "votes3" "[J" ∈ zT := zCh_8 (List.mem_of_getElem? (i := 71) (by decide +kernel)) rfl
theorem fX12_372 : Cond.fieldLink RX12 372 "QuorumLedgerModel" "logged" "[I" ∈ zT := zCh_8 (List.mem_of_getElem? (i := 72) (by decide +kernel)) rfl
theorem fX12_375 : Cond.fieldLink RX12 375 "QuorumLedgerModel" "logKind" "[I" ∈ zT := zCh_8 (List.mem_of_getElem? (i := 73) (by decide +kernel)) rfl
theorem fX12_378 : Cond.fieldLink RX12 378 "QuorumLedgerModel" "logRound" "[I" ∈ zT := zCh_8 (List.mem_of_getElem? (i := 74) (by decide +kernel)) rfl
theorem fX12_381 : Cond.fieldLink RX12 381 "QuorumLedgerModel" "logValid" "[I" ∈ zT := zCh_8 (List.mem_of_getElem? (i := 75) (by decide +kernel)) rfl
theorem fX12_384 : Cond.fieldLink RX12 384 "QuorumLedgerModel" "logFor" "[Z" ∈ zT := zCh_8 (List.mem_of_getElem? (i := 76) (by decide +kernel)) rfl
theorem fX12_387 : Cond.fieldLink RX12 387 "QuorumLedgerModel" "logId" "[J" ∈ zT := zCh_8 (List.mem_of_getElem? (i := 77) (by decide +kernel)) rfl
theorem fX12_390 : Cond.fieldLink RX12 390 "QuorumLedgerModel" "note" "[I" ∈ zT := zCh_8 (List.mem_of_getElem? (i := 78) (by decide +kernel)) rfl
theorem fX12_394 : Cond.fieldLink RX12 394 "QuorumLedgerModel" "sectors" "[J" ∈ zT := zCh_8 (List.mem_of_getElem? (i := 80) (by decide +kernel)) rfl
theorem fX12_397 : Cond.fieldLink RX12 397 "QuorumLedgerModel" "isWhole" "[Z" ∈ zT := zCh_8 (List.mem_of_getElem? (i := 81) (by decide +kernel)) rfl
theorem fX12_400 : Cond.fieldLink RX12 400 "QuorumLedgerModel" "cutIn" "[I" ∈ zT := zCh_8 (List.mem_of_getElem? (i := 82) (by decide +kernel)) rfl
theorem fX12_403 : Cond.fieldLink RX12 403 "QuorumLedgerModel" "notes" "[I" ∈ zT := zCh_8 (List.mem_of_getElem? (i := 83) (by decide +kernel)) rfl
theorem fX12_406 : Cond.fieldLink RX12 406 "QuorumLedgerModel" "written" "[I" ∈ zT := zCh_8 (List.mem_of_getElem? (i := 84) (by decide +kernel)) rfl
theorem fX12_409 : Cond.fieldLink RX12 409 "QuorumLedgerModel" "noted" "[I" ∈ zT := zCh_8 (List.mem_of_getElem? (i := 85) (by decide +kernel)) rfl
theorem fX12_412 : Cond.fieldLink RX12 412 "QuorumLedgerModel" "snapAt" "[I" ∈ zT := zCh_8 (List.mem_of_getElem? (i := 86) (by decide +kernel)) rfl
theorem fX12_415 : Cond.fieldLink RX12 415 "QuorumLedgerModel" "baseHeight" "[I" ∈ zT := zCh_8 (List.mem_of_getElem? (i := 87) (by decide +kernel)) rfl
theorem fX12_418 : Cond.fieldLink RX12 418 "QuorumLedgerModel" "baseId" "[J" ∈ zT := zCh_8 (List.mem_of_getElem? (i := 88) (by decide +kernel)) rfl
theorem fX12_421 : Cond.fieldLink RX12 421 "QuorumLedgerModel" "baseMoney" "[I" ∈ zT := zCh_8 (List.mem_of_getElem? (i := 89) (by decide +kernel)) rfl
theorem fX12_424 : Cond.fieldLink RX12 424 "QuorumLedgerModel" "baseNonces" "[I" ∈ zT := zCh_8 (List.mem_of_getElem? (i := 90) (by decide +kernel)) rfl
theorem fX12_427 : Cond.fieldLink RX12 427 "QuorumLedgerModel" "basePaid" "[Z" ∈ zT := zCh_8 (List.mem_of_getElem? (i := 91) (by decide +kernel)) rfl
theorem fX12_430 : Cond.fieldLink RX12 430 "QuorumLedgerModel" "money" "[I" ∈ zT := zCh_8 (List.mem_of_getElem? (i := 92) (by decide +kernel)) rfl
theorem fX12_433 : Cond.fieldLink RX12 433 "QuorumLedgerModel" "nonces" "[I" ∈ zT := zCh_8 (List.mem_of_getElem? (i := 93) (by decide +kernel)) rfl
theorem fX12_436 : Cond.fieldLink RX12 436 "QuorumLedgerModel" "paidNow" "[Z" ∈ zT := zCh_8 (List.mem_of_getElem? (i := 94) (by decide +kernel)) rfl
theorem fX12_439 : Cond.fieldLink RX12 439 "QuorumLedgerModel" "otherId" "[J" ∈ zT := zCh_8 (List.mem_of_getElem? (i := 95) (by decide +kernel)) rfl
theorem fX12_442 : Cond.fieldLink RX12 442 "QuorumLedgerModel" "faulty" "I" ∈ zT := zCh_8 (List.mem_of_getElem? (i := 8) (by decide +kernel)) rfl
theorem fX12_445 : Cond.fieldLink RX12 445 "QuorumLedgerModel" "liars" "I" ∈ zT := zCh_8 (List.mem_of_getElem? (i := 9) (by decide +kernel)) rfl
theorem fX12_480 : Cond.fieldLink RX12 480 "QuorumLedgerModel" "noteSize" "I" ∈ zT := zCh_8 (List.mem_of_getElem? (i := 79) (by decide +kernel)) rfl
theorem fX12_673 : Cond.fieldLink RX12 673 "QuorumLedgerModel" "keptSize" "I" ∈ zT := zCh_8 (List.mem_of_getElem? (i := 42) (by decide +kernel)) rfl
theorem nX12_300 : Cond.constant RX12 300 (117798 : Int32) ∈ zT := zCh_6 (List.mem_of_getElem? (i := 221) (by decide +kernel)) rfl
theorem nX12_301 : Cond.constant RX12 301 (125000 : Int32) ∈ zT := zCh_6 (List.mem_of_getElem? (i := 222) (by decide +kernel)) rfl
theorem nX12_393 : Cond.constant RX12 393 (236288 : Int32) ∈ zT := zCh_6 (List.mem_of_getElem? (i := 223) (by decide +kernel)) rfl
theorem nX12_706 : Cond.constant RX12 706 (65536 : Int32) ∈ zT := zCh_9 (List.mem_of_getElem? (i := 103) (by decide +kernel)) rfl
theorem nX12_18 : Cond.constantLong RX12 18 (4294967295 : Int64) ∈ zT := zCh_6 (List.mem_of_getElem? (i := 128) (by decide +kernel)) rfl
theorem nX12_20 : Cond.constantLong RX12 20 (2 : Int64) ∈ zT := zCh_6 (List.mem_of_getElem? (i := 234) (by decide +kernel)) rfl
theorem nX12_53 : Cond.constantLong RX12 53 (255 : Int64) ∈ zT := zCh_7 (List.mem_of_getElem? (i := 39) (by decide +kernel)) rfl
theorem nX12_55 : Cond.constantLong RX12 55 (-1 : Int64) ∈ zT := zCh_7 (List.mem_of_getElem? (i := 40) (by decide +kernel)) rfl
theorem nX12_692 : Cond.constantLong RX12 692 (-9223372036854775808 : Int64) ∈ zT := zCh_9 (List.mem_of_getElem? (i := 168) (by decide +kernel)) rfl
